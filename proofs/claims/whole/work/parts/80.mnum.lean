/-! the model's reader: numbers, ends; what holds between both readers -/
theorem nE_dig {t : Nat → Int32} {n i : Nat} (h1 : skN t n i < n) (h2 : dig t (skN t n i) = true) : ¬ nE t n i = skN t n i := by
  unfold nE dgN
  generalize skN t n i = j at h1 h2
  obtain ⟨k, hk⟩ : ∃ k, n - j = k + 1 := ⟨n - j - 1, by omega⟩
  rw [hk, dg_t h2]
  have := sk_ge (dig t) k (j + 1)
  omega
theorem nE_nd {t : Nat → Int32} {n i : Nat} (h : ¬ (skN t n i < n ∧ dig t (skN t n i) = true)) (hi : i ≤ n) : nE t n i = skN t n i := by
  have hj := skN_b t hi
  unfold nE
  generalize skN t n i = j at h hj
  by_cases q : j < n
  · refine dg_stop ?_
    cases hd : dig t j with
    | false => rfl
    | true => exact absurd ⟨q, hd⟩ h
  · rw [show j = n by omega]
    exact dg_end t n
theorem dig48 {t : Nat → Int32} {j : Nat} (h : dig t j = false) : ¬ t j = 48 ∧ ∀ k : Int32, t j = k → (decide (48 ≤ k) && decide (k ≤ 57)) = false := by
  refine ⟨fun e => ?_, fun k e => by rw [← e]; exact h⟩
  unfold dig at h
  rw [e] at h
  exact absurd h (by decide)
theorem tk_num {t : Nat → Int32} {n i : Nat} (hi : i ≤ n) : (nE t n i = skN t n i → ¬ tkS t n i = 48) ∧ (¬ nE t n i = skN t n i → tkS t n i = 48 ∧ tkA t n i = nE t n i) := by
  have hj := skN_b t hi
  refine ⟨fun h => ?_, fun h => ?_⟩
  · unfold tkS
    by_cases q : skN t n i < n
    · rw [if_pos q]
      cases hd : dig t (skN t n i) with
      | true => exact absurd h (nE_dig q hd)
      | false => exact (dig48 hd).1
    · rw [if_neg q]
      decide
  · have q : skN t n i < n ∧ dig t (skN t n i) = true := Classical.not_not.mp (fun z => h (nE_nd z hi))
    unfold tkS tkA
    rw [if_pos q.1, if_pos q.1, q.2]
    exact ⟨rfl, rfl⟩
theorem tk_end {t : Nat → Int32} {n i : Nat} (hi : i ≤ n) : (enC t n i = 0 → tkS t n i = 59 ∧ tkA t n i = skN t n i + 1) ∧ (¬ enC t n i = 0 → ¬ tkS t n i = 59 ∧ enC t n i = 1) := by
  unfold enC
  by_cases q : skN t n i < n ∧ t (skN t n i) = 59
  · rw [if_pos q]
    refine ⟨fun _ => ?_, fun z => absurd rfl z⟩
    have hd : dig t (skN t n i) = false := by
      unfold dig
      rw [q.2]
      decide
    unfold tkS tkA
    rw [if_pos q.1, if_pos q.1, hd]
    exact ⟨q.2, rfl⟩
  · rw [if_neg q]
    refine ⟨fun z => absurd z (by decide), fun _ => ⟨?_, rfl⟩⟩
    unfold tkS
    by_cases q1 : skN t n i < n
    · rw [if_pos q1]
      cases hd : dig t (skN t n i) with
      | true =>
        show ¬ (48 : Int32) = 59
        decide
      | false => exact fun z => q ⟨q1, z⟩
    · rw [if_neg q1]
      decide
section MNM
variable {sc : Scr} {d : Nat} {w : Bool} {s : Nat → Int32} {l : Nat → Int64} {A : Nat → Nat → Int32} {B : Nat → Nat → Int64} {t : Nat → Int32} {n : Nat} {b g f v x : Int32} {rd : Nat → Int32}
theorem e_mnum (hT : TT s A t n) {i : Nat} (hi : i ≤ n) {q : Nat} (hq : q < 21) {pq : Int32} (epq : pq = nI q) (y1 y2 : Int32) : (nmC t n i y1 y2 = 0 → Ev sc (d + 2) m_M_number 0 (iniL 4 [.ref 26, .int pq, .int y1, .int y2]) [] (HH w (zS s (nI i) b g f v x) l (upA A 28 rd) B) (some (.int 1)) (HH w (zS s (nI (nE t n i)) (nI (skN t n i)) 48 (nI (nE t n i - skN t n i)) (nV t n i) x) l (upA A 28 (upd rd q (nV t n i))) B)) ∧ (¬ nmC t n i y1 y2 = 0 → Ev sc (d + 2) m_M_number 0 (iniL 4 [.ref 26, .int pq, .int y1, .int y2]) [] (HH w (zS s (nI i) b g f v x) l (upA A 28 rd) B) (some (.int 0)) (HH w (zS s (nI (tkA t n i)) (nI (skN t n i)) (tkS t n i) (nI (nE t n i - skN t n i)) (nV t n i) (nI (nmC t n i y1 y2))) l (upA A 28 rd) B)) := by
  have hn : n ≤ 240 := hT.1
  have hb := nE_b t hi
  obtain ⟨k1, k2⟩ := tk_num (t := t) hi
  unfold nmC
  by_cases h1 : nE t n i = skN t n i
  · rw [if_pos h1]
    refine ⟨fun z => absurd z (by decide), fun _ => ?_⟩
    repeat (first | refine ev_gos 99 rfl ?_ | refine ev_gf2 rfl rfl rfl rfl ?_ | refine ev_gf2 rfl rfl HH_land rfl ?_ | refine ev_gf2 rfl rfl HH_draft rfl ?_ | refine ev_gf2 rfl rfl (by with_reducible assumption) rfl ?_)
    refine ev_cv rfl rfl rfl (e_mstep (A := upA A 28 rd) hT hi) ?_
    repeat (first | refine ev_gos 99 rfl ?_ | refine ev_gf2 rfl rfl rfl rfl ?_ | refine ev_gf2 rfl rfl HH_land rfl ?_ | refine ev_gf2 rfl rfl HH_draft rfl ?_ | refine ev_gf2 rfl rfl (by with_reducible assumption) rfl ?_)
    refine ev_iff rfl rfl rfl (d_eq (k1 h1)) ?_
    repeat (first | refine ev_gos 99 rfl ?_ | refine ev_gf2 rfl rfl rfl rfl ?_ | refine ev_gf2 rfl rfl HH_land rfl ?_ | refine ev_gf2 rfl rfl HH_draft rfl ?_ | refine ev_gf2 rfl rfl (by with_reducible assumption) rfl ?_)
    refine ev_cv rfl rfl rfl (e_mfails 1) ?_
    exact ev_rz rfl (Or.inl rfl) rfl rfl
  · rw [if_neg h1]
    obtain ⟨k3, k4⟩ := k2 h1
    by_cases h2 : 3 < nE t n i - skN t n i ∨ nV t n i < y1 ∨ y2 < nV t n i
    · rw [if_pos h2]
      refine ⟨fun z => absurd z (by decide), fun _ => ?_⟩
      repeat (first | refine ev_gos 99 rfl ?_ | refine ev_gf2 rfl rfl rfl rfl ?_ | refine ev_gf2 rfl rfl HH_land rfl ?_ | refine ev_gf2 rfl rfl HH_draft rfl ?_ | refine ev_gf2 rfl rfl (by with_reducible assumption) rfl ?_)
      refine ev_cv rfl rfl rfl (e_mstep (A := upA A 28 rd) hT hi) ?_
      repeat (first | refine ev_gos 99 rfl ?_ | refine ev_gf2 rfl rfl rfl rfl ?_ | refine ev_gf2 rfl rfl HH_land rfl ?_ | refine ev_gf2 rfl rfl HH_draft rfl ?_ | refine ev_gf2 rfl rfl (by with_reducible assumption) rfl ?_)
      refine ev_ift rfl rfl rfl (c_eq k3) ?_
      repeat (first | refine ev_gos 99 rfl ?_ | refine ev_gf2 rfl rfl rfl rfl ?_ | refine ev_gf2 rfl rfl HH_land rfl ?_ | refine ev_gf2 rfl rfl HH_draft rfl ?_ | refine ev_gf2 rfl rfl (by with_reducible assumption) rfl ?_)
      by_cases h3 : 3 < nE t n i - skN t n i
      · refine ev_ift rfl rfl rfl (c_gt ((nI_ltI (a := 3) (by decide) (by omega)).mpr h3)) ?_
        repeat (first | refine ev_gos 99 rfl ?_ | refine ev_gf2 rfl rfl rfl rfl ?_ | refine ev_gf2 rfl rfl HH_land rfl ?_ | refine ev_gf2 rfl rfl HH_draft rfl ?_ | refine ev_gf2 rfl rfl (by with_reducible assumption) rfl ?_)
        refine ev_cv rfl rfl rfl (e_mfails 2) ?_
        exact ev_rz rfl (Or.inl rfl) rfl rfl
      · refine ev_iff rfl rfl rfl (d_gt (nI_nlt (a := 3) (by omega) (by decide))) ?_
        repeat (first | refine ev_gos 99 rfl ?_ | refine ev_gf2 rfl rfl rfl rfl ?_ | refine ev_gf2 rfl rfl HH_land rfl ?_ | refine ev_gf2 rfl rfl HH_draft rfl ?_ | refine ev_gf2 rfl rfl (by with_reducible assumption) rfl ?_)
        refine ev_cs rfl rfl rfl (e_inB (nV t n i) y1 y2 rfl rfl rfl) ?_
        have e : in3 (nV t n i) y1 y2 = false := by
          unfold in3
          rcases h2 with z | z | z
          · exact absurd z h3
          · rw [decide_eq_false (p := y1 ≤ nV t n i) (fun u => le_nlt u z), Bool.false_and]
          · rw [decide_eq_false (p := nV t n i ≤ y2) (fun u => le_nlt u z), Bool.and_false]
        rw [e]
        (first | refine ev_ift rfl rfl rfl rfl ?_ | refine ev_iff rfl rfl rfl rfl ?_)
        repeat (first | refine ev_gos 99 rfl ?_ | refine ev_gf2 rfl rfl rfl rfl ?_ | refine ev_gf2 rfl rfl HH_land rfl ?_ | refine ev_gf2 rfl rfl HH_draft rfl ?_ | refine ev_gf2 rfl rfl (by with_reducible assumption) rfl ?_)
        refine ev_cv rfl rfl rfl (e_mfails 2) ?_
        exact ev_rz rfl (Or.inl rfl) rfl rfl
    · rw [if_neg h2]
      refine ⟨fun _ => ?_, fun z => absurd rfl z⟩
      repeat (first | refine ev_gos 99 rfl ?_ | refine ev_gf2 rfl rfl rfl rfl ?_ | refine ev_gf2 rfl rfl HH_land rfl ?_ | refine ev_gf2 rfl rfl HH_draft rfl ?_ | refine ev_gf2 rfl rfl (by with_reducible assumption) rfl ?_)
      refine ev_cv rfl rfl rfl (e_mstep (A := upA A 28 rd) hT hi) ?_
      rw [k3, k4]
      repeat (first | refine ev_gos 99 rfl ?_ | refine ev_gf2 rfl rfl rfl rfl ?_ | refine ev_gf2 rfl rfl HH_land rfl ?_ | refine ev_gf2 rfl rfl HH_draft rfl ?_ | refine ev_gf2 rfl rfl (by with_reducible assumption) rfl ?_)
      (first | refine ev_ift rfl rfl rfl rfl ?_ | refine ev_iff rfl rfl rfl rfl ?_)
      repeat (first | refine ev_gos 99 rfl ?_ | refine ev_gf2 rfl rfl rfl rfl ?_ | refine ev_gf2 rfl rfl HH_land rfl ?_ | refine ev_gf2 rfl rfl HH_draft rfl ?_ | refine ev_gf2 rfl rfl (by with_reducible assumption) rfl ?_)
      refine ev_iff rfl rfl rfl (d_gt (nI_nlt (a := 3) (by omega) (by decide))) ?_
      repeat (first | refine ev_gos 99 rfl ?_ | refine ev_gf2 rfl rfl rfl rfl ?_ | refine ev_gf2 rfl rfl HH_land rfl ?_ | refine ev_gf2 rfl rfl HH_draft rfl ?_ | refine ev_gf2 rfl rfl (by with_reducible assumption) rfl ?_)
      refine ev_cs rfl rfl rfl (e_inB (nV t n i) y1 y2 rfl rfl rfl) ?_
      have e : in3 (nV t n i) y1 y2 = true := by
        unfold in3
        rw [decide_eq_true (p := y1 ≤ nV t n i) (nlt_le3 (fun u => h2 (Or.inr (Or.inl u)))), decide_eq_true (p := nV t n i ≤ y2) (nlt_le3 (fun u => h2 (Or.inr (Or.inr u))))]
        rfl
      rw [e]
      (first | refine ev_ift rfl rfl rfl rfl ?_ | refine ev_iff rfl rfl rfl rfl ?_)
      repeat (first | refine ev_gos 99 rfl ?_ | refine ev_gf2 rfl rfl rfl rfl ?_ | refine ev_gf2 rfl rfl HH_land rfl ?_ | refine ev_gf2 rfl rfl HH_draft rfl ?_ | refine ev_gf2 rfl rfl (by with_reducible assumption) rfl ?_)
      refine iw_28 q rfl epq hq ?_
      repeat (first | refine ev_gos 99 rfl ?_ | refine ev_gf2 rfl rfl rfl rfl ?_ | refine ev_gf2 rfl rfl HH_land rfl ?_ | refine ev_gf2 rfl rfl HH_draft rfl ?_ | refine ev_gf2 rfl rfl (by with_reducible assumption) rfl ?_)
      exact ev_rz rfl (Or.inr rfl) rfl rfl
theorem e_mends (hT : TT s A t n) {i : Nat} (hi : i ≤ n) : (enC t n i = 0 → Ev sc (d + 2) m_M_ends 0 (iniL 1 [.ref 26]) [] (HH w (zS s (nI i) b g f v x) l A B) (some (.int 1)) (HH w (zS s (nI (skN t n i + 1)) (nI (skN t n i)) 59 (nI (nE t n i - skN t n i)) (nV t n i) x) l A B)) ∧ (¬ enC t n i = 0 → Ev sc (d + 2) m_M_ends 0 (iniL 1 [.ref 26]) [] (HH w (zS s (nI i) b g f v x) l A B) (some (.int 0)) (HH w (zS s (nI (tkA t n i)) (nI (skN t n i)) (tkS t n i) (nI (nE t n i - skN t n i)) (nV t n i) 1) l A B)) := by
  obtain ⟨k1, k2⟩ := tk_end (t := t) hi
  refine ⟨fun h => ?_, fun h => ?_⟩
  · obtain ⟨k3, k4⟩ := k1 h
    repeat (first | refine ev_gos 99 rfl ?_ | refine ev_gf2 rfl rfl rfl rfl ?_ | refine ev_gf2 rfl rfl HH_land rfl ?_ | refine ev_gf2 rfl rfl HH_draft rfl ?_ | refine ev_gf2 rfl rfl (by with_reducible assumption) rfl ?_)
    refine ev_cv rfl rfl rfl (e_mstep hT hi) ?_
    rw [k3, k4]
    repeat (first | refine ev_gos 99 rfl ?_ | refine ev_gf2 rfl rfl rfl rfl ?_ | refine ev_gf2 rfl rfl HH_land rfl ?_ | refine ev_gf2 rfl rfl HH_draft rfl ?_ | refine ev_gf2 rfl rfl (by with_reducible assumption) rfl ?_)
    (first | refine ev_ift rfl rfl rfl rfl ?_ | refine ev_iff rfl rfl rfl rfl ?_)
    repeat (first | refine ev_gos 99 rfl ?_ | refine ev_gf2 rfl rfl rfl rfl ?_ | refine ev_gf2 rfl rfl HH_land rfl ?_ | refine ev_gf2 rfl rfl HH_draft rfl ?_ | refine ev_gf2 rfl rfl (by with_reducible assumption) rfl ?_)
    exact ev_rz rfl (Or.inr rfl) rfl rfl
  · obtain ⟨k3, k4⟩ := k2 h
    repeat (first | refine ev_gos 99 rfl ?_ | refine ev_gf2 rfl rfl rfl rfl ?_ | refine ev_gf2 rfl rfl HH_land rfl ?_ | refine ev_gf2 rfl rfl HH_draft rfl ?_ | refine ev_gf2 rfl rfl (by with_reducible assumption) rfl ?_)
    refine ev_cv rfl rfl rfl (e_mstep hT hi) ?_
    repeat (first | refine ev_gos 99 rfl ?_ | refine ev_gf2 rfl rfl rfl rfl ?_ | refine ev_gf2 rfl rfl HH_land rfl ?_ | refine ev_gf2 rfl rfl HH_draft rfl ?_ | refine ev_gf2 rfl rfl (by with_reducible assumption) rfl ?_)
    refine ev_iff rfl rfl rfl (d_eq k3) ?_
    repeat (first | refine ev_gos 99 rfl ?_ | refine ev_gf2 rfl rfl rfl rfl ?_ | refine ev_gf2 rfl rfl HH_land rfl ?_ | refine ev_gf2 rfl rfl HH_draft rfl ?_ | refine ev_gf2 rfl rfl (by with_reducible assumption) rfl ?_)
    refine ev_cv rfl rfl rfl (e_mfails 1) ?_
    (first | refine ev_ift rfl rfl rfl rfl ?_ | refine ev_iff rfl rfl rfl rfl ?_)
    repeat (first | refine ev_gos 99 rfl ?_ | refine ev_gf2 rfl rfl rfl rfl ?_ | refine ev_gf2 rfl rfl HH_land rfl ?_ | refine ev_gf2 rfl rfl HH_draft rfl ?_ | refine ev_gf2 rfl rfl (by with_reducible assumption) rfl ?_)
    exact ev_rz rfl (Or.inl rfl) rfl rfl
end MNM
/-! the class's reader: faults -/
def FL (r : RS) (e p : Int32) : Prop := r.1 1 = e ∧ r.1 2 = p
section FLS
variable {t : Nat → Int32} {n : Nat} {r : RS} {e p : Int32} {i : Nat}
theorem FL_nm (he : ¬ e = 0) (h : FL r e p) (x y : Int32) : FL (nmR t n r i x y) e p := by
  have h1 : ¬ r.1 1 = 0 := by rw [h.1]; exact he
  exact ⟨by rw [nm_fn, if_neg h1]; exact h.1, by rw [nm_fp, if_neg (fun z => h1 z.1)]; exact h.2⟩
theorem FL_cm (he : ¬ e = 0) (h : FL r e p) (a b : Int32) : FL (cmR r a b) e p := by
  have h1 : ¬ r.1 1 = 0 := by rw [h.1]; exact he
  unfold cmR
  rw [if_neg h1]
  exact h
theorem FL_cm0 (h : r.1 1 = 0) (a b : Int32) : FL (cmR r a b) a b := by
  unfold cmR
  rw [if_pos h]
  exact ⟨rfl, rfl⟩
theorem FL_nm0 (h : r.1 1 = 0) {x y : Int32} (hc : ¬ nmC t n i x y = 0) : FL (nmR t n r i x y) (nI (nmC t n i x y)) (nI (skN t n i)) := ⟨by rw [nm_fn, if_pos h], by rw [nm_fp, if_pos ⟨h, hc⟩]⟩
theorem FL_en (he : ¬ e = 0) (h : FL r e p) : FL (endR t n r i) e p := by
  unfold endR
  split
  · exact h
  · exact FL_cm he (r := sR r 3 (nI (skN t n i))) h _ _
theorem FL_en0 (h : r.1 1 = 0) (hc : ¬ enC t n i = 0) : FL (endR t n r i) 1 (nI (skN t n i)) := by
  unfold enC at hc
  unfold endR
  by_cases q : skN t n i < n ∧ t (skN t n i) = 59
  · rw [if_pos q] at hc
    exact absurd rfl hc
  · rw [if_neg q]
    exact FL_cm0 (r := sR r 3 (nI (skN t n i))) h _ _
theorem en_ok (hc : enC t n i = 0) : endR t n r i = sR r 3 (nI (skN t n i + 1)) := by
  unfold enC at hc
  unfold endR
  by_cases q : skN t n i < n ∧ t (skN t n i) = 59
  · rw [if_pos q]
  · rw [if_neg q] at hc
    exact absurd hc (by decide)
theorem nm_okR {x y : Int32} (h : nmC t n i x y = 0) : nmR t n r i x y = sR (sR r 4 (nI (skN t n i))) 3 (nI (nE t n i)) := by rw [nm_eq, if_pos h]
theorem nmC_3 (t : Nat → Int32) (n i : Nat) (x y : Int32) (h : ¬ nmC t n i x y = 0) : ¬ nI (nmC t n i x y) = 0 := nI_ne0 (by omega) (by have := nmC_lt t n i x y; omega)
end FLS
