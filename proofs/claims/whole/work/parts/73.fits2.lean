/-! both sides: who it was -/
theorem allB_iff {f : Nat → Bool} : ∀ (n i : Nat), allB f n i = true ↔ ∀ j, i ≤ j → j < i + n → f j = true
  | 0, i => ⟨fun _ j h1 h2 => by omega, fun _ => rfl⟩
  | n + 1, i => by
    show (bif f i then allB f n (i + 1) else false) = true ↔ _
    cases hf : f i with
    | false => exact ⟨fun z => (by cases z), fun z => by have := z i (Nat.le_refl i) (by omega); rw [hf] at this; cases this⟩
    | true =>
      show allB f n (i + 1) = true ↔ _
      rw [allB_iff]
      constructor
      · intro z j h1 h2
        by_cases e : j = i
        · rw [e]; exact hf
        · exact z j (by omega) (by omega)
      · intro z j h1 h2
        exact z j (by omega) (by omega)
def soF (F : Nat → Bool) (i : Nat) (z : Bool) : Bool := z && F i
theorem soF_iff {F : Nat → Bool} {z : Bool} : ∀ n, fo (soF F) n z = true ↔ z = true ∧ ∀ i, i < n → F i = true
  | 0 => ⟨fun h => ⟨h, fun i hi => absurd hi (Nat.not_lt_zero i)⟩, fun h => h.1⟩
  | n + 1 => by
    show (fo (soF F) n z && F n) = true ↔ _
    rw [Bool.and_eq_true, soF_iff n]
    constructor
    · rintro ⟨⟨h1, h2⟩, h3⟩
      refine ⟨h1, fun i hi => ?_⟩
      by_cases e : i = n
      · rw [e]; exact h3
      · exact h2 i (by omega)
    · rintro ⟨h1, h2⟩
      exact ⟨⟨h1, fun i hi => h2 i (by omega)⟩, h2 n (by omega)⟩
def soM (W H : Nat) (rk : Int64) (F : Int64 → Nat → Bool) (m k c : Nat) : Bool := fo (soF (F (shpM W H k c))) m (decide (¬ shpM W H k c = 0) && decide (shpM W H k c &&& rk = 0))
/-- what was found, as both have it -/
def foB (fc fd : Nat → Int32) (x : Int64) (i : Nat) : Bool := decide (b01 (bs x (fc i).toNatClampNeg) = fd i)
def ftC (f : Nat → Nat → Bool) (k c : Nat) (a : Nat × Int32 × Int32) : Nat × Int32 × Int32 := bif f k c then (a.1 + 1, (if a.2.1 = -1 then nI (100 * k + c) else a.2.1), a.2.2 ||| ((1 : Int32) <<< (nI k &&& 31))) else a
def ftK (f : Nat → Nat → Bool) (N k : Nat) (a : Nat × Int32 × Int32) : Nat × Int32 × Int32 := fo (ftC f k) N a
theorem ftC_t {f : Nat → Nat → Bool} {k c : Nat} (h : f k c = true) (a : Nat × Int32 × Int32) : ftC f k c a = (a.1 + 1, (if a.2.1 = -1 then nI (100 * k + c) else a.2.1), a.2.2 ||| ((1 : Int32) <<< (nI k &&& 31))) := by
  unfold ftC
  rw [h]
  rfl
theorem ftC_f {f : Nat → Nat → Bool} {k c : Nat} (h : f k c = false) (a : Nat × Int32 × Int32) : ftC f k c a = a := by
  unfold ftC
  rw [h]
  rfl
theorem ft_1 (f : Nat → Nat → Bool) (k : Nat) (a : Nat × Int32 × Int32) : ∀ n, (fo (ftC f k) n a).1 = a.1 + cntB (f k) n
  | 0 => rfl
  | n + 1 => by
    show (ftC f k n (fo (ftC f k) n a)).1 = a.1 + (cntB (f k) n + (bif f k n then 1 else 0))
    have ih := ft_1 f k a n
    cases h : f k n with
    | true =>
      rw [ftC_t h]
      show (fo (ftC f k) n a).1 + 1 = a.1 + (cntB (f k) n + 1)
      omega
    | false =>
      rw [ftC_f h]
      exact ih
theorem ft_2 (f : Nat → Nat → Bool) (k : Nat) (a : Nat × Int32 × Int32) : ∀ n, (fo (ftC f k) n a).2.1 = fo (lfC f k) n a.2.1
  | 0 => rfl
  | n + 1 => by
    show (ftC f k n (fo (ftC f k) n a)).2.1 = lfC f k n (fo (lfC f k) n a.2.1)
    have ih := ft_2 f k a n
    unfold lfC at ih ⊢
    cases h : f k n with
    | true =>
      rw [ftC_t h]
      show (if (fo (ftC f k) n a).2.1 = -1 then nI (100 * k + n) else (fo (ftC f k) n a).2.1) = _
      rw [ih]
      rfl
    | false =>
      rw [ftC_f h, ih]
      exact (ite_self _).symm
theorem ft_3 (f : Nat → Nat → Bool) (k : Nat) (a : Nat × Int32 × Int32) : ∀ n, (fo (ftC f k) n a).2.2 = if 0 < cntB (f k) n then a.2.2 ||| ((1 : Int32) <<< (nI k &&& 31)) else a.2.2
  | 0 => rfl
  | n + 1 => by
    have e : cntB (f k) (n + 1) = cntB (f k) n + (bif f k n then 1 else 0) := rfl
    show (ftC f k n (fo (ftC f k) n a)).2.2 = _
    have ih := ft_3 f k a n
    cases h : f k n with
    | true =>
      rw [ftC_t h, e, h, if_pos (show 0 < cntB (f k) n + (bif true then 1 else 0) from Nat.succ_pos _)]
      show (fo (ftC f k) n a).2.2 ||| ((1 : Int32) <<< (nI k &&& 31)) = _
      rw [ih]
      split
      · rw [Int32.or_assoc, Int32.or_self]
      · rfl
    | false =>
      rw [ftC_f h, e, h]
      exact ih
theorem ftk (f : Nat → Nat → Bool) (N : Nat) : ∀ n, (fo (ftK f N) n (0, -1, 0)).1 = sumB f N n ∧ (fo (ftK f N) n (0, -1, 0)).2.1 = fo (lfK f N) n (-1) ∧ (fo (ftK f N) n (0, -1, 0)).2.2 = fo (knd f N) n 0
  | 0 => ⟨rfl, rfl, rfl⟩
  | n + 1 => by
    obtain ⟨h1, h2, h3⟩ := ftk f N n
    have e : fo (ftK f N) (n + 1) (0, -1, 0) = fo (ftC f n) N (fo (ftK f N) n (0, -1, 0)) := rfl
    rw [e, ft_1, ft_2, ft_3, h1, h2, h3]
    exact ⟨rfl, rfl, rfl⟩
section FT2
variable {sc : Scr} {d : Nat} {w : Bool} {s : Nat → Int32} {l : Nat → Int64} {A : Nat → Nat → Int32} {B : Nat → Nat → Int64} {W H P fi c : Nat}
theorem INV.so (h : INV s l A B W H P fi c) {m : Nat} {k c : Nat} (hk : k < 5) (hc : c < W * H) : soM W H (l 3) (foB (A 22) (A 23)) m k c = fitB (B 5) (A 22) (A 23) m k c := by
  apply beq_of
  · intro q
    obtain ⟨q1, q2⟩ := (soF_iff _).mp q
    obtain ⟨q3, q4⟩ := andE q1
    have q3 := of_decide_eq_true q3
    have q4 := of_decide_eq_true q4
    unfold fitB agS
    rw [sh_eq h.1 hk hc, if_pos q4, decide_eq_true q3, Bool.true_and]
    exact (allB_iff _ _).mpr (fun j _ hj => q2 j (by omega))
  · intro q
    unfold fitB agS at q
    obtain ⟨q1, q2⟩ := andE q
    have q1 := of_decide_eq_true q1
    rw [sh_eq h.1 hk hc] at q1 q2
    by_cases z : shpM W H k c &&& l 3 = 0
    · rw [if_pos z] at q1 q2
      refine (soF_iff _).mpr ⟨by rw [decide_eq_true q1, decide_eq_true z]; rfl, fun i hi => (allB_iff _ _).mp q2 i (Nat.zero_le i) (by omega)⟩
    · rw [if_neg z] at q1
      exact absurd rfl q1
theorem e_so_loop {m : Nat} (hm : m ≤ 6) (hs : s 26 = nI m) (h49 : W * H ≤ 49) (hf : ∀ i, i < m → (∃ q, q < W * H ∧ A 22 i = nI q) ∧ A 36 (2 * i) = A 22 i ∧ ∃ b, A 23 i = b01 b ∧ A 36 (2 * i + 1) = b01 b) (x : Int64) (y1 y2 : Int32) (z0 : Bool) : ∀ (n i : Nat), i + n = m → Ev sc (d + 1) m_M_isSo 42 [some (.ref 26), some (.int y1), some (.int y2), some (.long x), none, some (.int (b01 (fo (soF (foB (A 22) (A 23) x)) i z0))), some (.int (nI (2 * i)))] [.int (2 * s 26), .int (nI (2 * i))] (HH w s l A B) (some (.int (b01 (fo (soF (foB (A 22) (A 23) x)) m z0)))) (HH w s l A B) := by
  have e2 : 2 * s 26 = nI (2 * m) := by rw [hs]; exact pk_mul 2 m
  intro n
  induction n with
  | zero =>
    intro i hi
    have e : i = m := by omega
    subst e
    rw [e2]
    refine ev_ift rfl rfl rfl (c_ge ((nI_leI (by omega) (by omega)).mpr (by omega))) ?_
    repeat (first | refine ev_gos 99 rfl ?_ | refine ev_gf2 rfl rfl rfl rfl ?_ | refine ev_gf2 rfl rfl HH_land rfl ?_ | refine ev_gf2 rfl rfl HH_draft rfl ?_ | refine ev_gf2 rfl rfl (by with_reducible assumption) rfl ?_)
    exact ev_rz rfl (b01_or _) rfl rfl
  | succ n ih =>
    intro i hi
    have h3 := ih (i + 1) (by omega)
    obtain ⟨⟨q, q1, q2⟩, r3, b, r4, r5⟩ := hf i (by omega)
    have e5 : fo (soF (foB (A 22) (A 23) x)) (i + 1) z0 = (fo (soF (foB (A 22) (A 23) x)) i z0 && foB (A 22) (A 23) x i) := rfl
    have e6 : foB (A 22) (A 23) x i = decide (b01 (bs x q) = b01 b) := by
      unfold foB
      rw [q2, nI_clamp (by omega), r4]
    have e7 : nI (2 * (i + 1)) = nI (2 * i) + 2 := by
      rw [show 2 * (i + 1) = 2 * i + 2 by omega]
      exact (nI_add (2 * i) 2).symm
    rw [e5, e6, e7] at h3
    rw [e2]
    refine ev_iff rfl rfl rfl (d_ge (nI_lt3 (by omega) (by omega) (by omega))) ?_
    generalize fo (soF (foB (A 22) (A 23) x)) i z0 = z at h3 ⊢
    repeat (first | refine ev_gos 99 rfl ?_ | refine ev_gf2 rfl rfl rfl rfl ?_ | refine ev_gf2 rfl rfl HH_land rfl ?_ | refine ev_gf2 rfl rfl HH_draft rfl ?_ | refine ev_gf2 rfl rfl (by with_reducible assumption) rfl ?_)
    cases z with
    | false =>
      (first | refine ev_ift rfl rfl rfl rfl ?_ | refine ev_iff rfl rfl rfl rfl ?_)
      repeat (first | refine ev_gos 99 rfl ?_ | refine ev_gf2 rfl rfl rfl rfl ?_ | refine ev_gf2 rfl rfl HH_land rfl ?_ | refine ev_gf2 rfl rfl HH_draft rfl ?_ | refine ev_gf2 rfl rfl (by with_reducible assumption) rfl ?_)
      exact h3
    | true =>
      (first | refine ev_ift rfl rfl rfl rfl ?_ | refine ev_iff rfl rfl rfl rfl ?_)
      repeat (first | refine ev_gos 99 rfl ?_ | refine ev_gf2 rfl rfl rfl rfl ?_ | refine ev_gf2 rfl rfl HH_land rfl ?_ | refine ev_gf2 rfl rfl HH_draft rfl ?_ | refine ev_gf2 rfl rfl (by with_reducible assumption) rfl ?_)
      refine ev_ix (2 * i) rfl rfl rfl (by omega) (by decide) ?_
      rw [r3, q2]
      refine ev_cs rfl rfl rfl (e_holds sc _ _ x (k := q) (by omega)) ?_
      repeat (first | refine ev_gos 99 rfl ?_ | refine ev_gf2 rfl rfl rfl rfl ?_ | refine ev_gf2 rfl rfl HH_land rfl ?_ | refine ev_gf2 rfl rfl HH_draft rfl ?_ | refine ev_gf2 rfl rfl (by with_reducible assumption) rfl ?_)
      refine ev_ix (2 * i + 1) rfl rfl (nI_1 (2 * i)) (by omega) (by decide) ?_
      rw [r5]
      repeat (first | refine ev_gos 99 rfl ?_ | refine ev_gf2 rfl rfl rfl rfl ?_ | refine ev_gf2 rfl rfl HH_land rfl ?_ | refine ev_gf2 rfl rfl HH_draft rfl ?_ | refine ev_gf2 rfl rfl (by with_reducible assumption) rfl ?_)
      cases b with
      | true =>
        (first | refine ev_ift rfl rfl rfl rfl ?_ | refine ev_iff rfl rfl rfl rfl ?_)
        repeat (first | refine ev_gos 99 rfl ?_ | refine ev_gf2 rfl rfl rfl rfl ?_ | refine ev_gf2 rfl rfl HH_land rfl ?_ | refine ev_gf2 rfl rfl HH_draft rfl ?_ | refine ev_gf2 rfl rfl (by with_reducible assumption) rfl ?_)
        cases hb : bs x q with
        | true =>
          rw [hb] at h3
          (first | refine ev_ift rfl rfl rfl rfl ?_ | refine ev_iff rfl rfl rfl rfl ?_)
          repeat (first | refine ev_gos 99 rfl ?_ | refine ev_gf2 rfl rfl rfl rfl ?_ | refine ev_gf2 rfl rfl HH_land rfl ?_ | refine ev_gf2 rfl rfl HH_draft rfl ?_ | refine ev_gf2 rfl rfl (by with_reducible assumption) rfl ?_)
          exact h3
        | false =>
          rw [hb] at h3
          (first | refine ev_ift rfl rfl rfl rfl ?_ | refine ev_iff rfl rfl rfl rfl ?_)
          repeat (first | refine ev_gos 99 rfl ?_ | refine ev_gf2 rfl rfl rfl rfl ?_ | refine ev_gf2 rfl rfl HH_land rfl ?_ | refine ev_gf2 rfl rfl HH_draft rfl ?_ | refine ev_gf2 rfl rfl (by with_reducible assumption) rfl ?_)
          exact h3
      | false =>
        (first | refine ev_ift rfl rfl rfl rfl ?_ | refine ev_iff rfl rfl rfl rfl ?_)
        repeat (first | refine ev_gos 99 rfl ?_ | refine ev_gf2 rfl rfl rfl rfl ?_ | refine ev_gf2 rfl rfl HH_land rfl ?_ | refine ev_gf2 rfl rfl HH_draft rfl ?_ | refine ev_gf2 rfl rfl (by with_reducible assumption) rfl ?_)
        cases hb : bs x q with
        | true =>
          rw [hb] at h3
          (first | refine ev_ift rfl rfl rfl rfl ?_ | refine ev_iff rfl rfl rfl rfl ?_)
          repeat (first | refine ev_gos 99 rfl ?_ | refine ev_gf2 rfl rfl rfl rfl ?_ | refine ev_gf2 rfl rfl HH_land rfl ?_ | refine ev_gf2 rfl rfl HH_draft rfl ?_ | refine ev_gf2 rfl rfl (by with_reducible assumption) rfl ?_)
          exact h3
        | false =>
          rw [hb] at h3
          (first | refine ev_ift rfl rfl rfl rfl ?_ | refine ev_iff rfl rfl rfl rfl ?_)
          repeat (first | refine ev_gos 99 rfl ?_ | refine ev_gf2 rfl rfl rfl rfl ?_ | refine ev_gf2 rfl rfl HH_land rfl ?_ | refine ev_gf2 rfl rfl HH_draft rfl ?_ | refine ev_gf2 rfl rfl (by with_reducible assumption) rfl ?_)
          exact h3
theorem e_misSo (h : INV s l A B W H P fi c) {m : Nat} (hm : m ≤ 6) (hs : s 26 = nI m) (hf : ∀ i, i < m → (∃ q, q < W * H ∧ A 22 i = nI q) ∧ A 36 (2 * i) = A 22 i ∧ ∃ b, A 23 i = b01 b ∧ A 36 (2 * i + 1) = b01 b) {k c : Nat} (hk : k < 5) (hc : c < W * H) : Ev sc (d + 4) m_M_isSo 0 (iniL 7 [.ref 26, .int (nI k), .int (nI c)]) [] (HH w s l A B) (some (.int (b01 (fitB (B 5) (A 22) (A 23) m k c)))) (HH w s l A B) := by
  have hM := h.2.1
  rw [← h.so (m := m) hk hc]
  unfold soM
  have z := fun z0 => e_so_loop (sc := sc) (d := d + 3) (w := w) (s := s) (l := l) (A := A) (B := B) hm hs h.1.n49 hf (shpM W H k c) (nI k) (nI c) z0 m 0 (Nat.zero_add m)
  repeat (first | refine ev_gos 99 rfl ?_ | refine ev_gf2 rfl rfl rfl rfl ?_ | refine ev_gf2 rfl rfl HH_land rfl ?_ | refine ev_gf2 rfl rfl HH_draft rfl ?_ | refine ev_gf2 rfl rfl (by with_reducible assumption) rfl ?_)
  refine ev_cv rfl rfl rfl (e_mshape hM hk hc) ?_
  repeat (first | refine ev_gos 99 rfl ?_ | refine ev_gf2 rfl rfl rfl rfl ?_ | refine ev_gf2 rfl rfl HH_land rfl ?_ | refine ev_gf2 rfl rfl HH_draft rfl ?_ | refine ev_gf2 rfl rfl (by with_reducible assumption) rfl ?_)
  by_cases h1 : shpM W H k c = 0
  · refine ev_ift rfl rfl rfl (i_eq (lc_eq.mpr h1)) ?_
    repeat (first | refine ev_gos 99 rfl ?_ | refine ev_gf2 rfl rfl rfl rfl ?_ | refine ev_gf2 rfl rfl HH_land rfl ?_ | refine ev_gf2 rfl rfl HH_draft rfl ?_ | refine ev_gf2 rfl rfl (by with_reducible assumption) rfl ?_)
    rw [decide_eq_false (p := ¬ shpM W H k c = 0) (fun z => z h1), Bool.false_and]
    exact z false
  · refine ev_iff rfl rfl rfl (j_eq (fun z => h1 (lc_eq.mp z))) ?_
    repeat (first | refine ev_gos 99 rfl ?_ | refine ev_gf2 rfl rfl rfl rfl ?_ | refine ev_gf2 rfl rfl HH_land rfl ?_ | refine ev_gf2 rfl rfl HH_draft rfl ?_ | refine ev_gf2 rfl rfl (by with_reducible assumption) rfl ?_)
    refine ev_cv rfl rfl rfl (e_mrocks hM) ?_
    repeat (first | refine ev_gos 99 rfl ?_ | refine ev_gf2 rfl rfl rfl rfl ?_ | refine ev_gf2 rfl rfl HH_land rfl ?_ | refine ev_gf2 rfl rfl HH_draft rfl ?_ | refine ev_gf2 rfl rfl (by with_reducible assumption) rfl ?_)
    rw [decide_eq_true h1, Bool.true_and]
    by_cases h2 : shpM W H k c &&& l 3 = 0
    · refine ev_iff rfl rfl rfl (j_ne (lc_eq.mpr h2)) ?_
      repeat (first | refine ev_gos 99 rfl ?_ | refine ev_gf2 rfl rfl rfl rfl ?_ | refine ev_gf2 rfl rfl HH_land rfl ?_ | refine ev_gf2 rfl rfl HH_draft rfl ?_ | refine ev_gf2 rfl rfl (by with_reducible assumption) rfl ?_)
      rw [decide_eq_true h2]
      exact z true
    · refine ev_ift rfl rfl rfl (i_ne (fun z => h2 (lc_eq.mp z))) ?_
      repeat (first | refine ev_gos 99 rfl ?_ | refine ev_gf2 rfl rfl rfl rfl ?_ | refine ev_gf2 rfl rfl HH_land rfl ?_ | refine ev_gf2 rfl rfl HH_draft rfl ?_ | refine ev_gf2 rfl rfl (by with_reducible assumption) rfl ?_)
      rw [decide_eq_false h2]
      exact z false
def ftV (y : Int32) (a : Nat × Int32 × Int32) : Int32 := if y = 0 then nI a.1 else if y = 1 then a.2.1 else a.2.2
theorem e_mfits_in (h : INV s l A B W H P fi c) {m : Nat} (hm : m ≤ 6) (hs : s 26 = nI m) (hf : ∀ i, i < m → (∃ q, q < W * H ∧ A 22 i = nI q) ∧ A 36 (2 * i) = A 22 i ∧ ∃ b, A 23 i = b01 b ∧ A 36 (2 * i + 1) = b01 b) (y : Int32) {k : Nat} (hk : k < 5) (a0 : Nat × Int32 × Int32) {r : Option Value} {h' : AHp} (hout : Ev sc (d + 5) m_M_fits 28 [some (.ref 26), some (.int y), some (.int (nI (ftK (fitB (B 5) (A 22) (A 23) m) (W * H) k a0).1)), some (.int (ftK (fitB (B 5) (A 22) (A 23) m) (W * H) k a0).2.1), some (.int (ftK (fitB (B 5) (A 22) (A 23) m) (W * H) k a0).2.2), some (.int (nI (k + 1))), none] [.int 5, .int (nI (k + 1))] (HH w s l A B) r h') : ∀ (n i : Nat), i + n = W * H → Ev sc (d + 5) m_M_fits 37 [some (.ref 26), some (.int y), some (.int (nI (fo (ftC (fitB (B 5) (A 22) (A 23) m) k) i a0).1)), some (.int (fo (ftC (fitB (B 5) (A 22) (A 23) m) k) i a0).2.1), some (.int (fo (ftC (fitB (B 5) (A 22) (A 23) m) k) i a0).2.2), some (.int (nI k)), some (.int (nI i))] [.ref 26, .int (nI i)] (HH w s l A B) r h' := by
  have h49 := h.1.n49
  have hM := h.2.1
  intro n
  induction n with
  | zero =>
    intro i hi
    have e : i = W * H := by omega
    refine ev_cv rfl rfl rfl (e_mcells hM) ?_
    rw [← e]
    refine ev_ift rfl rfl rfl (c_ge ((nI_leI (by omega) (by omega)).mpr (by omega))) ?_
    repeat (first | refine ev_gos 99 rfl ?_ | refine ev_gf2 rfl rfl rfl rfl ?_ | refine ev_gf2 rfl rfl HH_land rfl ?_ | refine ev_gf2 rfl rfl HH_draft rfl ?_ | refine ev_gf2 rfl rfl (by with_reducible assumption) rfl ?_)
    unfold ftK at hout
    rw [← e, ← nI_1 k] at hout
    exact ev_wk2 hout rfl (by repeat' (first | exact trivial | refine ⟨rfl, ?_⟩))
  | succ n ih =>
    intro i hi
    have h3 := ih (i + 1) (by omega)
    have e5 : fo (ftC (fitB (B 5) (A 22) (A 23) m) k) (i + 1) a0 = ftC (fitB (B 5) (A 22) (A 23) m) k i (fo (ftC (fitB (B 5) (A 22) (A 23) m) k) i a0) := rfl
    rw [e5, ← nI_1 i] at h3
    generalize fo (ftC (fitB (B 5) (A 22) (A 23) m) k) i a0 = a at h3 ⊢
    refine ev_cv rfl rfl rfl (e_mcells hM) ?_
    refine ev_iff rfl rfl rfl (d_ge (nI_lt3 (by omega) (by omega) (by omega))) ?_
    repeat (first | refine ev_gos 99 rfl ?_ | refine ev_gf2 rfl rfl rfl rfl ?_ | refine ev_gf2 rfl rfl HH_land rfl ?_ | refine ev_gf2 rfl rfl HH_draft rfl ?_ | refine ev_gf2 rfl rfl (by with_reducible assumption) rfl ?_)
    refine ev_cv rfl rfl rfl (e_misSo h hm hs hf hk (by omega)) ?_
    cases hq : fitB (B 5) (A 22) (A 23) m k i with
    | false =>
      rw [ftC_f hq] at h3
      (first | refine ev_ift rfl rfl rfl rfl ?_ | refine ev_iff rfl rfl rfl rfl ?_)
      repeat (first | refine ev_gos 99 rfl ?_ | refine ev_gf2 rfl rfl rfl rfl ?_ | refine ev_gf2 rfl rfl HH_land rfl ?_ | refine ev_gf2 rfl rfl HH_draft rfl ?_ | refine ev_gf2 rfl rfl (by with_reducible assumption) rfl ?_)
      exact h3
    | true =>
      rw [ftC_t hq, ← nI_1 a.1] at h3
      (first | refine ev_ift rfl rfl rfl rfl ?_ | refine ev_iff rfl rfl rfl rfl ?_)
      repeat (first | refine ev_gos 99 rfl ?_ | refine ev_gf2 rfl rfl rfl rfl ?_ | refine ev_gf2 rfl rfl HH_land rfl ?_ | refine ev_gf2 rfl rfl HH_draft rfl ?_ | refine ev_gf2 rfl rfl (by with_reducible assumption) rfl ?_)
      by_cases hx : a.2.1 = -1
      · rw [if_pos hx] at h3
        have e9 : (100 : Int32) * nI k + nI i = nI (100 * k + i) := by
          rw [show (100 : Int32) * nI k = nI (100 * k) from pk_mul 100 k, nI_add]
        rw [← e9] at h3
        refine ev_iff rfl rfl rfl (d_ne hx) ?_
        repeat (first | refine ev_gos 99 rfl ?_ | refine ev_gf2 rfl rfl rfl rfl ?_ | refine ev_gf2 rfl rfl HH_land rfl ?_ | refine ev_gf2 rfl rfl HH_draft rfl ?_ | refine ev_gf2 rfl rfl (by with_reducible assumption) rfl ?_)
        exact h3
      · rw [if_neg hx] at h3
        refine ev_ift rfl rfl rfl (c_ne hx) ?_
        repeat (first | refine ev_gos 99 rfl ?_ | refine ev_gf2 rfl rfl rfl rfl ?_ | refine ev_gf2 rfl rfl HH_land rfl ?_ | refine ev_gf2 rfl rfl HH_draft rfl ?_ | refine ev_gf2 rfl rfl (by with_reducible assumption) rfl ?_)
        exact h3
theorem e_mfits_out (h : INV s l A B W H P fi c) {m : Nat} (hm : m ≤ 6) (hs : s 26 = nI m) (hf : ∀ i, i < m → (∃ q, q < W * H ∧ A 22 i = nI q) ∧ A 36 (2 * i) = A 22 i ∧ ∃ b, A 23 i = b01 b ∧ A 36 (2 * i + 1) = b01 b) (y : Int32) : ∀ (n k : Nat), k + n = 5 → Ev sc (d + 5) m_M_fits 28 [some (.ref 26), some (.int y), some (.int (nI (fo (ftK (fitB (B 5) (A 22) (A 23) m) (W * H)) k (0, -1, 0)).1)), some (.int (fo (ftK (fitB (B 5) (A 22) (A 23) m) (W * H)) k (0, -1, 0)).2.1), some (.int (fo (ftK (fitB (B 5) (A 22) (A 23) m) (W * H)) k (0, -1, 0)).2.2), some (.int (nI k)), none] [.int 5, .int (nI k)] (HH w s l A B) (some (.int (ftV y (fo (ftK (fitB (B 5) (A 22) (A 23) m) (W * H)) 5 (0, -1, 0))))) (HH w s l A B) := by
  intro n
  induction n with
  | zero =>
    intro k hk
    have e : k = 5 := by omega
    subst e
    refine ev_ift rfl rfl rfl (c_ge (by decide : (5 : Int32) ≤ nI 5)) ?_
    generalize fo (ftK (fitB (B 5) (A 22) (A 23) m) (W * H)) 5 (0, -1, 0) = a
    repeat (first | refine ev_gos 99 rfl ?_ | refine ev_gf2 rfl rfl rfl rfl ?_ | refine ev_gf2 rfl rfl HH_land rfl ?_ | refine ev_gf2 rfl rfl HH_draft rfl ?_ | refine ev_gf2 rfl rfl (by with_reducible assumption) rfl ?_)
    unfold ftV
    by_cases y0 : y = 0
    · refine ev_iff rfl rfl rfl (j_ne y0) ?_
      repeat (first | refine ev_gos 99 rfl ?_ | refine ev_gf2 rfl rfl rfl rfl ?_ | refine ev_gf2 rfl rfl HH_land rfl ?_ | refine ev_gf2 rfl rfl HH_draft rfl ?_ | refine ev_gf2 rfl rfl (by with_reducible assumption) rfl ?_)
      exact ev_ri rfl (by rw [if_pos y0]) rfl
    · refine ev_ift rfl rfl rfl (i_ne y0) ?_
      repeat (first | refine ev_gos 99 rfl ?_ | refine ev_gf2 rfl rfl rfl rfl ?_ | refine ev_gf2 rfl rfl HH_land rfl ?_ | refine ev_gf2 rfl rfl HH_draft rfl ?_ | refine ev_gf2 rfl rfl (by with_reducible assumption) rfl ?_)
      by_cases y1 : y = 1
      · refine ev_iff rfl rfl rfl (d_ne y1) ?_
        repeat (first | refine ev_gos 99 rfl ?_ | refine ev_gf2 rfl rfl rfl rfl ?_ | refine ev_gf2 rfl rfl HH_land rfl ?_ | refine ev_gf2 rfl rfl HH_draft rfl ?_ | refine ev_gf2 rfl rfl (by with_reducible assumption) rfl ?_)
        exact ev_ri rfl (by rw [if_neg y0, if_pos y1]) rfl
      · refine ev_ift rfl rfl rfl (c_ne y1) ?_
        repeat (first | refine ev_gos 99 rfl ?_ | refine ev_gf2 rfl rfl rfl rfl ?_ | refine ev_gf2 rfl rfl HH_land rfl ?_ | refine ev_gf2 rfl rfl HH_draft rfl ?_ | refine ev_gf2 rfl rfl (by with_reducible assumption) rfl ?_)
        exact ev_ri rfl (by rw [if_neg y0, if_neg y1]) rfl
  | succ n ih =>
    intro k hk
    refine ev_iff rfl rfl rfl (d_ge (nI_lt3 (b := 5) (by omega) (by omega) (by omega))) ?_
    repeat (first | refine ev_gos 99 rfl ?_ | refine ev_gf2 rfl rfl rfl rfl ?_ | refine ev_gf2 rfl rfl HH_land rfl ?_ | refine ev_gf2 rfl rfl HH_draft rfl ?_ | refine ev_gf2 rfl rfl (by with_reducible assumption) rfl ?_)
    exact e_mfits_in h hm hs hf y (by omega) _ (ih (k + 1) (by omega)) (W * H) 0 (Nat.zero_add _)
theorem e_mfits (h : INV s l A B W H P fi c) {m : Nat} (hm : m ≤ 6) (hs : s 26 = nI m) (hf : ∀ i, i < m → (∃ q, q < W * H ∧ A 22 i = nI q) ∧ A 36 (2 * i) = A 22 i ∧ ∃ b, A 23 i = b01 b ∧ A 36 (2 * i + 1) = b01 b) {j : Nat} (hj : j ≤ 2) : Ev sc (d + 5) m_M_fits 0 (iniL 7 [.ref 26, .int (nI j)]) [] (HH w s l A B) (some (.int (ftV (nI j) (fo (ftK (fitB (B 5) (A 22) (A 23) m) (W * H)) 5 (0, -1, 0))))) (HH w s l A B) := by
  have z := e_mfits_out (sc := sc) (d := d) (w := w) h hm hs hf (nI j) 5 0 rfl
  repeat (first | refine ev_gos 99 rfl ?_ | refine ev_gf2 rfl rfl rfl rfl ?_ | refine ev_gf2 rfl rfl HH_land rfl ?_ | refine ev_gf2 rfl rfl HH_draft rfl ?_ | refine ev_gf2 rfl rfl (by with_reducible assumption) rfl ?_)
  refine ev_cs rfl rfl rfl (e_inB (nI j) 0 (nI 2) rfl (by decide) (by decide)) ?_
  have e3 : in3 (nI j) 0 (nI 2) = true := by
    rcases (show j = 0 ∨ j = 1 ∨ j = 2 by omega) with rfl | rfl | rfl <;> decide
  rw [e3]
  (first | refine ev_ift rfl rfl rfl rfl ?_ | refine ev_iff rfl rfl rfl rfl ?_)
  repeat (first | refine ev_gos 99 rfl ?_ | refine ev_gf2 rfl rfl rfl rfl ?_ | refine ev_gf2 rfl rfl HH_land rfl ?_ | refine ev_gf2 rfl rfl HH_draft rfl ?_ | refine ev_gf2 rfl rfl (by with_reducible assumption) rfl ?_)
  exact z
theorem b_fits (h : INV s l A B W H P fi c) (y : Int32) : Both sc (d + 12) m_C_fits 2 m_M_fits 7 [.int y] w s l A B := by
  obtain ⟨hN, hM, hR, hK, hS, hD, hX, hI, hT, hF, ⟨m, m1, m2, m3, m4⟩, hB⟩ := id h
  have hFD : FD s A (W * H) m := ⟨m1, m2, fun i hi => (m4 i hi).1⟩
  rcases sw_rng (y := y) (b := 2) (by decide) (hi := 2) rfl with o | ⟨j, j1, j2⟩
  · refine ⟨-1000000002, HH w s l A B, w, s, l, A, B, ?_, ?_, ⟨W, H, P, fi, c, h⟩⟩
    · repeat (first | refine ev_gos 99 rfl ?_ | refine ev_gf2 rfl rfl rfl rfl ?_ | refine ev_gf2 rfl rfl HH_land rfl ?_ | refine ev_gf2 rfl rfl HH_draft rfl ?_ | refine ev_gf2 rfl rfl (by with_reducible assumption) rfl ?_)
      refine ev_sw rfl rfl (sw_out o) ?_
      repeat (first | refine ev_gos 99 rfl ?_ | refine ev_gf2 rfl rfl rfl rfl ?_ | refine ev_gf2 rfl rfl HH_land rfl ?_ | refine ev_gf2 rfl rfl HH_draft rfl ?_ | refine ev_gf2 rfl rfl (by with_reducible assumption) rfl ?_)
      exact ev_ri rfl rfl rfl
    · repeat (first | refine ev_gos 99 rfl ?_ | refine ev_gf2 rfl rfl rfl rfl ?_ | refine ev_gf2 rfl rfl HH_land rfl ?_ | refine ev_gf2 rfl rfl HH_draft rfl ?_ | refine ev_gf2 rfl rfl (by with_reducible assumption) rfl ?_)
      refine ev_cs rfl rfl rfl (e_inB y 0 (nI 2) rfl (by decide) (by decide)) ?_
      rw [in3_out (by decide) rfl o]
      (first | refine ev_ift rfl rfl rfl rfl ?_ | refine ev_iff rfl rfl rfl rfl ?_)
      repeat (first | refine ev_gos 99 rfl ?_ | refine ev_gf2 rfl rfl rfl rfl ?_ | refine ev_gf2 rfl rfl HH_land rfl ?_ | refine ev_gf2 rfl rfl HH_draft rfl ?_ | refine ev_gf2 rfl rfl (by with_reducible assumption) rfl ?_)
      exact ev_ri rfl rfl rfl
  · subst j2
    have hm := e_mfits (sc := sc) (d := d + 7) (w := w) h m1 m3 m4 j1
    obtain ⟨f1, f2, f3⟩ := ftk (fitB (B 5) (A 22) (A 23) m) (W * H) 5
    refine ⟨ftV (nI j) (fo (ftK (fitB (B 5) (A 22) (A 23) m) (W * H)) 5 (0, -1, 0)), HH w s l A B, w, s, l, A, B, ?_, hm, ⟨W, H, P, fi, c, h⟩⟩
    generalize fo (ftK (fitB (B 5) (A 22) (A 23) m) (W * H)) 5 (0, -1, 0) = a at f1 f2 f3 ⊢
    rcases (show j = 0 ∨ j = 1 ∨ j = 2 by omega) with rfl | rfl | rfl
    · repeat (first | refine ev_gos 99 rfl ?_ | refine ev_gf2 rfl rfl rfl rfl ?_ | refine ev_gf2 rfl rfl HH_land rfl ?_ | refine ev_gf2 rfl rfl HH_draft rfl ?_ | refine ev_gf2 rfl rfl (by with_reducible assumption) rfl ?_)
      refine ev_sw rfl rfl (rfl : _ = some 28) ?_
      repeat (first | refine ev_gos 99 rfl ?_ | refine ev_gf2 rfl rfl rfl rfl ?_ | refine ev_gf2 rfl rfl HH_land rfl ?_ | refine ev_gf2 rfl rfl HH_draft rfl ?_ | refine ev_gf2 rfl rfl (by with_reducible assumption) rfl ?_)
      refine ev_cv rfl rfl rfl (e_howMany hN hFD) ?_
      exact ev_ri rfl (by rw [← f1]; rfl) rfl
    · repeat (first | refine ev_gos 99 rfl ?_ | refine ev_gf2 rfl rfl rfl rfl ?_ | refine ev_gf2 rfl rfl HH_land rfl ?_ | refine ev_gf2 rfl rfl HH_draft rfl ?_ | refine ev_gf2 rfl rfl (by with_reducible assumption) rfl ?_)
      refine ev_sw rfl rfl (rfl : _ = some 33) ?_
      repeat (first | refine ev_gos 99 rfl ?_ | refine ev_gf2 rfl rfl rfl rfl ?_ | refine ev_gf2 rfl rfl HH_land rfl ?_ | refine ev_gf2 rfl rfl HH_draft rfl ?_ | refine ev_gf2 rfl rfl (by with_reducible assumption) rfl ?_)
      refine ev_cv rfl rfl rfl (e_least hN hFD) ?_
      exact ev_ri rfl (by rw [← f2]; rfl) rfl
    · repeat (first | refine ev_gos 99 rfl ?_ | refine ev_gf2 rfl rfl rfl rfl ?_ | refine ev_gf2 rfl rfl HH_land rfl ?_ | refine ev_gf2 rfl rfl HH_draft rfl ?_ | refine ev_gf2 rfl rfl (by with_reducible assumption) rfl ?_)
      refine ev_sw rfl rfl (rfl : _ = some 38) ?_
      repeat (first | refine ev_gos 99 rfl ?_ | refine ev_gf2 rfl rfl rfl rfl ?_ | refine ev_gf2 rfl rfl HH_land rfl ?_ | refine ev_gf2 rfl rfl HH_draft rfl ?_ | refine ev_gf2 rfl rfl (by with_reducible assumption) rfl ?_)
      refine ev_cv rfl rfl rfl (e_kinds hN hFD) ?_
      exact ev_ri rfl (by rw [← f3]; rfl) rfl
end FT2
