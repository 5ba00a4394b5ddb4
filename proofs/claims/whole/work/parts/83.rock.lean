/-! both readers side by side: a rock, any clause -/
section RKC
variable {sc : Scr} {d : Nat} {w : Bool} {s : Nat → Int32} {l : Nat → Int64} {A : Nat → Nat → Int32} {B : Nat → Nat → Int64} {t : Nat → Int32} {n : Nat} {g f v x : Int32} {rd : Nat → Int32} {r : RS} {W H P R : Nat}
theorem e_rkl0 (hR : R ≤ 8) (xx c a b : Int32) (hno : ∀ j, j < R → ¬ rd (12 + j) = c) {rr : Option Value} {h' : AHp} (hout : Ev sc (d + 1) m_M_readsRock 117 [some (.ref 26), some (.int (nI R)), some (.int xx), some (.int c), none] [] (HH w (zS s a b g f v x) l (upA A 28 rd) B) rr h') : ∀ (m j : Nat), j + m = R → Ev sc (d + 1) m_M_readsRock 88 [some (.ref 26), some (.int (nI R)), some (.int xx), some (.int c), some (.int (nI j))] [.int (nI R), .int (nI j)] (HH w (zS s a b g f v x) l (upA A 28 rd) B) rr h' := by
  intro m
  induction m with
  | zero =>
    intro j hj
    refine ev_ift rfl rfl rfl (c_ge ((nI_leI (by omega) (by omega)).mpr (by omega))) ?_
    exact ev_wk2 hout rfl (by repeat' (first | exact trivial | refine ⟨rfl, ?_⟩))
  | succ m ih =>
    intro j hj
    refine ev_iff rfl rfl rfl (d_ge (nI_lt3 (by omega) (by omega) (by omega))) ?_
    repeat (first | refine ev_gos 99 rfl ?_ | refine ev_gf2 rfl rfl rfl rfl ?_ | refine ev_gf2 rfl rfl HH_land rfl ?_ | refine ev_gf2 rfl rfl HH_draft rfl ?_ | refine ev_gf2 rfl rfl (by with_reducible assumption) rfl ?_)
    refine ev_ix (12 + j) rfl rfl (nI_add 12 j) (by omega) (by decide) ?_
    rw [upA_at]
    repeat (first | refine ev_gos 99 rfl ?_ | refine ev_gf2 rfl rfl rfl rfl ?_ | refine ev_gf2 rfl rfl HH_land rfl ?_ | refine ev_gf2 rfl rfl HH_draft rfl ?_ | refine ev_gf2 rfl rfl (by with_reducible assumption) rfl ?_)
    refine ev_ift rfl rfl rfl (c_ne (hno j (by omega))) ?_
    have h3 := ih (j + 1) (by omega)
    rw [← nI_1 j] at h3
    repeat (first | refine ev_gos 99 rfl ?_ | refine ev_gf2 rfl rfl rfl rfl ?_ | refine ev_gf2 rfl rfl HH_land rfl ?_ | refine ev_gf2 rfl rfl HH_draft rfl ?_ | refine ev_gf2 rfl rfl (by with_reducible assumption) rfl ?_)
    exact h3
theorem e_rkl1 (hR : R ≤ 8) (xx c a b : Int32) : ∀ (m j : Nat), j + m = R → (∃ k, j ≤ k ∧ k < R ∧ rd (12 + k) = c) → Ev sc (d + 1) m_M_readsRock 88 [some (.ref 26), some (.int (nI R)), some (.int xx), some (.int c), some (.int (nI j))] [.int (nI R), .int (nI j)] (HH w (zS s a b g f v x) l (upA A 28 rd) B) (some (.int 0)) (HH w (zS s a b g f v 4) l (upA A 28 rd) B) := by
  intro m
  induction m with
  | zero =>
    intro j hj ⟨k, k1, k2, k3⟩
    omega
  | succ m ih =>
    intro j hj ⟨k, k1, k2, k3⟩
    refine ev_iff rfl rfl rfl (d_ge (nI_lt3 (by omega) (by omega) (by omega))) ?_
    repeat (first | refine ev_gos 99 rfl ?_ | refine ev_gf2 rfl rfl rfl rfl ?_ | refine ev_gf2 rfl rfl HH_land rfl ?_ | refine ev_gf2 rfl rfl HH_draft rfl ?_ | refine ev_gf2 rfl rfl (by with_reducible assumption) rfl ?_)
    refine ev_ix (12 + j) rfl rfl (nI_add 12 j) (by omega) (by decide) ?_
    rw [upA_at]
    repeat (first | refine ev_gos 99 rfl ?_ | refine ev_gf2 rfl rfl rfl rfl ?_ | refine ev_gf2 rfl rfl HH_land rfl ?_ | refine ev_gf2 rfl rfl HH_draft rfl ?_ | refine ev_gf2 rfl rfl (by with_reducible assumption) rfl ?_)
    by_cases q : rd (12 + j) = c
    · refine ev_iff rfl rfl rfl (d_ne q) ?_
      repeat (first | refine ev_gos 99 rfl ?_ | refine ev_gf2 rfl rfl rfl rfl ?_ | refine ev_gf2 rfl rfl HH_land rfl ?_ | refine ev_gf2 rfl rfl HH_draft rfl ?_ | refine ev_gf2 rfl rfl (by with_reducible assumption) rfl ?_)
      refine ev_cv rfl rfl rfl (e_mfails 4) ?_
      exact ev_rz rfl (Or.inl rfl) rfl rfl
    · refine ev_ift rfl rfl rfl (c_ne q) ?_
      have h3 := ih (j + 1) (by omega) ⟨k, by
        by_cases e : k = j
        · subst e
          exact absurd k3 q
        · omega, k2, k3⟩
      rw [← nI_1 j] at h3
      repeat (first | refine ev_gos 99 rfl ?_ | refine ev_gf2 rfl rfl rfl rfl ?_ | refine ev_gf2 rfl rfl HH_land rfl ?_ | refine ev_gf2 rfl rfl HH_draft rfl ?_ | refine ev_gf2 rfl rfl (by with_reducible assumption) rfl ?_)
      exact h3
theorem m_rock (hT : TT s A t n) (h : RR r rd W H P R) (hW : 2 ≤ W) (hH : 2 ≤ H) (h0 : r.1 1 = 0) (hm : r.1 2 = -1) {bz : Nat → Int64} (hz0 : r.2.2.2 = bz) {i : Nat} (hi : i < n) : ∃ (ok : Bool) (a b : Nat) (g' f' v' wr : Int32) (rd' : Nat → Int32), Ev sc (d + 4) m_M_readsRock 0 (iniL 5 [.ref 26]) [] (HH w (zS s (nI (i + 1)) (nI i) g f v x) l (upA A 28 rd) B) (some (.int (b01 ok))) (HH w (zS s (nI a) (nI b) g' f' v' wr) l (upA A 28 rd') B) ∧ OUT n i bz (endR t n (rkR t n (sR r 3 (nI (i + 1))) (i + 1)) (nE t n (nE t n (i + 1)))) ok a b wr rd' := by
  obtain ⟨a1, a2, a3, a4, a5, a6, a7, a8, a9, a10, a11, a12, a13, a14, a15⟩ := id h
  have hn : n ≤ 240 := hT.1
  have h49 := WH49 a5 a6
  by_cases hR : R = 8
  · refine ⟨false, i + 1, i, g, f, v, 3, rd, ?_, Or.inr ⟨rfl, 3, by decide, by decide, rfl, FL_en (by decide) (rk_bad (r := sR r 3 (nI (i + 1))) (i := i + 1) (by show ¬ pop (r.2.1 7) < 8; rw [a15, hR]; decide) h0)⟩⟩
    repeat (first | refine ev_gos 99 rfl ?_ | refine ev_gf2 rfl rfl rfl rfl ?_ | refine ev_gf2 rfl rfl HH_land rfl ?_ | refine ev_gf2 rfl rfl HH_draft rfl ?_ | refine ev_gf2 rfl rfl (by with_reducible assumption) rfl ?_)
    refine ev_ix 3 rfl rfl rfl (by decide) (by decide) ?_
    rw [upA_at, a4, hR]
    repeat (first | refine ev_gos 99 rfl ?_ | refine ev_gf2 rfl rfl rfl rfl ?_ | refine ev_gf2 rfl rfl HH_land rfl ?_ | refine ev_gf2 rfl rfl HH_draft rfl ?_ | refine ev_gf2 rfl rfl (by with_reducible assumption) rfl ?_)
    (first | refine ev_ift rfl rfl rfl rfl ?_ | refine ev_iff rfl rfl rfl rfl ?_)
    repeat (first | refine ev_gos 99 rfl ?_ | refine ev_gf2 rfl rfl rfl rfl ?_ | refine ev_gf2 rfl rfl HH_land rfl ?_ | refine ev_gf2 rfl rfl HH_draft rfl ?_ | refine ev_gf2 rfl rfl (by with_reducible assumption) rfl ?_)
    refine ev_cv rfl rfl rfl (e_mfails 3) ?_
    exact ev_rz rfl (Or.inl rfl) rfl rfl
  · have hR7 : R + 1 ≤ 8 := by omega
    have h20 : ¬ 20 = 12 + R := by omega
    have hp8 : pop ((sR r 3 (nI (i + 1))).2.1 7) < 8 := by show pop (r.2.1 7) < 8; rw [a15]; omega
    have e19 : (sR r 3 (nI (i + 1))).1 19 = nI W := a1.1
    have e20 : (sR r 3 (nI (i + 1))).1 20 = nI H := a2.1
    have eW : nI W - 1 = nI (W - 1) := by
      obtain ⟨q, rfl⟩ : ∃ q, W = q + 1 := ⟨W - 1, by omega⟩
      rw [nI_pred]
      rfl
    have eH : nI H - 1 = nI (H - 1) := by
      obtain ⟨q, rfl⟩ : ∃ q, H = q + 1 := ⟨H - 1, by omega⟩
      rw [nI_pred]
      rfl
    have hb1 := nE_b t (show i + 1 ≤ n by omega)
    have pre : ∀ (rr : Option Value) (h' : AHp), Ev sc (d + 4) m_M_readsRock 33 [some (.ref 26), some (.int (nI R)), none, none, none] [.int (nI W - 1), .int 0, .int (12 + nI R), .ref 26] (HH w (zS s (nI (i + 1)) (nI i) g f v x) l (upA A 28 rd) B) rr h' → Ev sc (d + 4) m_M_readsRock 0 (iniL 5 [.ref 26]) [] (HH w (zS s (nI (i + 1)) (nI i) g f v x) l (upA A 28 rd) B) rr h' := by
      intro rr h' hh
      repeat (first | refine ev_gos 99 rfl ?_ | refine ev_gf2 rfl rfl rfl rfl ?_ | refine ev_gf2 rfl rfl HH_land rfl ?_ | refine ev_gf2 rfl rfl HH_draft rfl ?_ | refine ev_gf2 rfl rfl (by with_reducible assumption) rfl ?_)
      refine ev_ix 3 rfl rfl rfl (by decide) (by decide) ?_
      rw [upA_at, a4]
      repeat (first | refine ev_gos 99 rfl ?_ | refine ev_gf2 rfl rfl rfl rfl ?_ | refine ev_gf2 rfl rfl HH_land rfl ?_ | refine ev_gf2 rfl rfl HH_draft rfl ?_ | refine ev_gf2 rfl rfl (by with_reducible assumption) rfl ?_)
      refine ev_ift rfl rfl rfl (c_ne (show ¬ nI R = nI 8 from fun z => hR ((nI_eq (by omega) (by decide)).mp z))) ?_
      repeat (first | refine ev_gos 99 rfl ?_ | refine ev_gf2 rfl rfl rfl rfl ?_ | refine ev_gf2 rfl rfl HH_land rfl ?_ | refine ev_gf2 rfl rfl HH_draft rfl ?_ | refine ev_gf2 rfl rfl (by with_reducible assumption) rfl ?_)
      refine ev_ix 0 rfl rfl rfl (by decide) (by decide) ?_
      rw [upA_at, a1.2]
      repeat (first | refine ev_gos 99 rfl ?_ | refine ev_gf2 rfl rfl rfl rfl ?_ | refine ev_gf2 rfl rfl HH_land rfl ?_ | refine ev_gf2 rfl rfl HH_draft rfl ?_ | refine ev_gf2 rfl rfl (by with_reducible assumption) rfl ?_)
      exact hh
    obtain ⟨n1, n2⟩ := e_mnum (sc := sc) (d := d + 1) (w := w) (s := s) (l := l) (A := A) (B := B) (b := nI i) (g := g) (f := f) (v := v) (x := x) (rd := rd) hT (show i + 1 ≤ n by omega) (q := 12 + R) (by omega) (nI_add 12 R) 0 (nI W - 1)
    by_cases hc : nmC t n (i + 1) 0 (nI W - 1) = 0
    · have n1 := n1 hc
      have hb2 := nE_b t hb1.2
      obtain ⟨x0, _, x2, x3⟩ := rngN (a := 0) (b := W - 1) (by decide) (by omega) (nm_rng hc).1 (by rw [← eW]; exact (nm_rng hc).2)
      have pre2 : ∀ (rr : Option Value) (h' : AHp), Ev sc (d + 4) m_M_readsRock 60 [some (.ref 26), some (.int (nI R)), some (.int (nV t n (i + 1))), none, none] [.int (nI H - 1), .int 0, .int (12 + nI R), .ref 26] (HH w (zS s (nI (nE t n (i + 1))) (nI (skN t n (i + 1))) 48 (nI (nE t n (i + 1) - skN t n (i + 1))) (nV t n (i + 1)) x) l (upA A 28 (upd rd (12 + R) (nV t n (i + 1)))) B) rr h' → Ev sc (d + 4) m_M_readsRock 0 (iniL 5 [.ref 26]) [] (HH w (zS s (nI (i + 1)) (nI i) g f v x) l (upA A 28 rd) B) rr h' := by
        intro rr h' hh
        refine pre _ _ ?_
        refine ev_cv rfl rfl rfl n1 ?_
        (first | refine ev_ift rfl rfl rfl rfl ?_ | refine ev_iff rfl rfl rfl rfl ?_)
        repeat (first | refine ev_gos 99 rfl ?_ | refine ev_gf2 rfl rfl rfl rfl ?_ | refine ev_gf2 rfl rfl HH_land rfl ?_ | refine ev_gf2 rfl rfl HH_draft rfl ?_ | refine ev_gf2 rfl rfl (by with_reducible assumption) rfl ?_)
        refine ev_ix 1 rfl rfl rfl (by decide) (by decide) ?_
        rw [upA_at, pk_un (by omega), a2.2]
        repeat (first | refine ev_gos 99 rfl ?_ | refine ev_gf2 rfl rfl rfl rfl ?_ | refine ev_gf2 rfl rfl HH_land rfl ?_ | refine ev_gf2 rfl rfl HH_draft rfl ?_ | refine ev_gf2 rfl rfl (by with_reducible assumption) rfl ?_)
        exact hh
      obtain ⟨m1, m2⟩ := e_mnum (sc := sc) (d := d + 1) (w := w) (s := s) (l := l) (A := A) (B := B) (b := nI (skN t n (i + 1))) (g := 48) (f := nI (nE t n (i + 1) - skN t n (i + 1))) (v := nV t n (i + 1)) (x := x) (rd := upd rd (12 + R) (nV t n (i + 1))) hT hb1.2 (q := 12 + R) (by omega) (nI_add 12 R) 0 (nI H - 1)
      by_cases hc2 : nmC t n (nE t n (i + 1)) 0 (nI H - 1) = 0
      · have m1 := m1 hc2
        obtain ⟨y0, _, y2, y3⟩ := rngN (a := 0) (b := H - 1) (by decide) (by omega) (nm_rng hc2).1 (by rw [← eH]; exact (nm_rng hc2).2)
        have hxy : x0 + W * y0 < W * H := by
          have := Nat.mul_le_mul_left W (show y0 + 1 ≤ H by omega)
          rw [Nat.mul_succ] at this
          omega
        have ecc : nV t n (i + 1) + nI W * nV t n (nE t n (i + 1)) = nI (x0 + W * y0) := by rw [x3, y3, pk_mul, nI_add]
        have pre3 : ∀ (rr : Option Value) (h' : AHp), Ev sc (d + 4) m_M_readsRock 88 [some (.ref 26), some (.int (nI R)), some (.int (nV t n (i + 1))), some (.int (nI (x0 + W * y0))), some (.int (nI 0))] [.int (nI R), .int (nI 0)] (HH w (zS s (nI (nE t n (nE t n (i + 1)))) (nI (skN t n (nE t n (i + 1)))) 48 (nI (nE t n (nE t n (i + 1)) - skN t n (nE t n (i + 1)))) (nV t n (nE t n (i + 1))) x) l (upA A 28 (upd (upd rd (12 + R) (nV t n (i + 1))) (12 + R) (nV t n (nE t n (i + 1))))) B) rr h' → Ev sc (d + 4) m_M_readsRock 0 (iniL 5 [.ref 26]) [] (HH w (zS s (nI (i + 1)) (nI i) g f v x) l (upA A 28 rd) B) rr h' := by
          intro rr h' hh
          rw [← ecc] at hh
          refine pre2 _ _ ?_
          refine ev_cv rfl rfl rfl m1 ?_
          (first | refine ev_ift rfl rfl rfl rfl ?_ | refine ev_iff rfl rfl rfl rfl ?_)
          repeat (first | refine ev_gos 99 rfl ?_ | refine ev_gf2 rfl rfl rfl rfl ?_ | refine ev_gf2 rfl rfl HH_land rfl ?_ | refine ev_gf2 rfl rfl HH_draft rfl ?_ | refine ev_gf2 rfl rfl (by with_reducible assumption) rfl ?_)
          refine ev_ix 0 rfl rfl rfl (by decide) (by decide) ?_
          rw [upA_at, pk_un (by omega), pk_un (by omega), a1.2]
          repeat (first | refine ev_gos 99 rfl ?_ | refine ev_gf2 rfl rfl rfl rfl ?_ | refine ev_gf2 rfl rfl HH_land rfl ?_ | refine ev_gf2 rfl rfl HH_draft rfl ?_ | refine ev_gf2 rfl rfl (by with_reducible assumption) rfl ?_)
          exact hh
        have hrk := rk_ok (t := t) (n := n) (r := sR r 3 (nI (i + 1))) (i := i + 1) hp8 h0 (by rw [e19]; exact hc) (by rw [e20]; exact hc2)
        have ebit : (1 : Int64) <<< (((sR r 3 (nI (i + 1))).1 19 * nV t n (nE t n (i + 1)) + nV t n (i + 1)).toInt64 &&& 63) = bit (x0 + W * y0) := by
          rw [e19, x3, y3, pk_mul, nI_add, Nat.add_comm]
          rfl
        rw [ebit] at hrk
        rw [hrk]
        have hg49 : ∀ j, j < R → ∃ c, c < 49 ∧ rd (12 + j) = nI c := fun j hj => by
          obtain ⟨c, c1, c2⟩ := a13 j hj
          exact ⟨c, by omega, c2⟩
        have hbs := setR_bs hg49 (x0 + W * y0)
        rw [← a14] at hbs
        have hand : r.2.1 7 &&& bit (x0 + W * y0) = 0 ↔ bs (r.2.1 7) (x0 + W * y0) = false := by
          constructor
          · intro z
            have := bs_eq0.mp z (x0 + W * y0) (by omega)
            rw [bs_and, bs_bitc (by omega) (by omega), decide_eq_true rfl, Bool.and_true] at this
            exact this
          · intro z
            refine bs_eq0.mpr (fun k hk => ?_)
            rw [bs_and, bs_bitc (by omega) hk]
            by_cases e : k = x0 + W * y0
            · subst e
              rw [z, Bool.false_and]
            · rw [decide_eq_false e, Bool.and_false]
        cases hdup : bs (r.2.1 7) (x0 + W * y0) with
        | true =>
          obtain ⟨j, j1, j2, _⟩ := hbs.mp hdup
          refine ⟨false, nE t n (nE t n (i + 1)), skN t n (nE t n (i + 1)), 48, nI (nE t n (nE t n (i + 1)) - skN t n (nE t n (i + 1))), nV t n (nE t n (i + 1)), 4, upd (upd rd (12 + R) (nV t n (i + 1))) (12 + R) (nV t n (nE t n (i + 1))), ?_, Or.inr ⟨rfl, 4, by decide, by decide, rfl, FL_en (by decide) ?_⟩⟩
          · refine pre3 _ _ ?_
            exact e_rkl1 (by omega) _ _ _ _ R 0 (Nat.zero_add R) ⟨j, Nat.zero_le j, j1, by rw [pk_un (by omega), pk_un (by omega)]; exact j2⟩
          · unfold adR
            rw [if_neg (show ¬ (sR (sR (sR (sR (sR r 3 (nI (i + 1))) 4 (nI (skN t n (i + 1)))) 3 (nI (nE t n (i + 1)))) 4 (nI (skN t n (nE t n (i + 1))))) 3 (nI (nE t n (nE t n (i + 1))))).2.1 7 &&& bit (x0 + W * y0) = 0 from fun z => by rw [hand.mp z] at hdup; cases hdup)]
            exact FL_cm0 (r := sR (sR (sR (sR (sR r 3 (nI (i + 1))) 4 (nI (skN t n (i + 1)))) 3 (nI (nE t n (i + 1)))) 4 (nI (skN t n (nE t n (i + 1))))) 3 (nI (nE t n (nE t n (i + 1))))) h0 4 _
        | false =>
          have hno : ∀ j, j < R → ¬ upd (upd rd (12 + R) (nV t n (i + 1))) (12 + R) (nV t n (nE t n (i + 1))) (12 + j) = nI (x0 + W * y0) := fun j hj z => by
            rw [pk_un (by omega), pk_un (by omega)] at z
            have := hbs.mpr ⟨j, hj, z, by omega⟩
            rw [hdup] at this
            cases this
          have hz := hand.mpr hdup
          have ead : adR (sR (sR (sR (sR (sR r 3 (nI (i + 1))) 4 (nI (skN t n (i + 1)))) 3 (nI (nE t n (i + 1)))) 4 (nI (skN t n (nE t n (i + 1))))) 3 (nI (nE t n (nE t n (i + 1))))) (bit (x0 + W * y0)) = sRl (sR (sR (sR (sR (sR r 3 (nI (i + 1))) 4 (nI (skN t n (i + 1)))) 3 (nI (nE t n (i + 1)))) 4 (nI (skN t n (nE t n (i + 1))))) 3 (nI (nE t n (nE t n (i + 1))))) 7 (r.2.1 7 ||| bit (x0 + W * y0)) := by
            unfold adR
            rw [if_pos (show (sR (sR (sR (sR (sR r 3 (nI (i + 1))) 4 (nI (skN t n (i + 1)))) 3 (nI (nE t n (i + 1)))) 4 (nI (skN t n (nE t n (i + 1))))) 3 (nI (nE t n (nE t n (i + 1))))).2.1 7 &&& bit (x0 + W * y0) = 0 from hz)]
            rfl
          rw [ead]
          have pre4 : ∀ (rr : Option Value) (h' : AHp), Ev sc (d + 4) m_M_readsRock 138 [some (.ref 26), some (.int (nI R)), some (.int (nV t n (i + 1))), some (.int (nI (x0 + W * y0))), none] [.ref 26] (HH w (zS s (nI (nE t n (nE t n (i + 1)))) (nI (skN t n (nE t n (i + 1)))) 48 (nI (nE t n (nE t n (i + 1)) - skN t n (nE t n (i + 1)))) (nV t n (nE t n (i + 1))) x) l (upA A 28 (upd (upd (upd (upd rd (12 + R) (nV t n (i + 1))) (12 + R) (nV t n (nE t n (i + 1)))) (12 + R) (nI (x0 + W * y0))) 3 (nI R + 1))) B) rr h' → Ev sc (d + 4) m_M_readsRock 0 (iniL 5 [.ref 26]) [] (HH w (zS s (nI (i + 1)) (nI i) g f v x) l (upA A 28 rd) B) rr h' := by
            intro rr h' hh
            refine pre3 _ _ ?_
            refine e_rkl0 (by omega) _ _ _ _ hno ?_ R 0 (Nat.zero_add R)
            repeat (first | refine ev_gos 99 rfl ?_ | refine ev_gf2 rfl rfl rfl rfl ?_ | refine ev_gf2 rfl rfl HH_land rfl ?_ | refine ev_gf2 rfl rfl HH_draft rfl ?_ | refine ev_gf2 rfl rfl (by with_reducible assumption) rfl ?_)
            refine iw_28 (12 + R) rfl (nI_add 12 R) (by omega) ?_
            repeat (first | refine ev_gos 99 rfl ?_ | refine ev_gf2 rfl rfl rfl rfl ?_ | refine ev_gf2 rfl rfl HH_land rfl ?_ | refine ev_gf2 rfl rfl HH_draft rfl ?_ | refine ev_gf2 rfl rfl (by with_reducible assumption) rfl ?_)
            refine ev_ix 3 rfl rfl rfl (by decide) (by decide) ?_
            rw [upA_at, pk_un (by omega), pk_un (by omega), pk_un (by omega), a4]
            repeat (first | refine ev_gos 99 rfl ?_ | refine ev_gf2 rfl rfl rfl rfl ?_ | refine ev_gf2 rfl rfl HH_land rfl ?_ | refine ev_gf2 rfl rfl HH_draft rfl ?_ | refine ev_gf2 rfl rfl (by with_reducible assumption) rfl ?_)
            refine iw_28 3 rfl rfl (by decide) ?_
            repeat (first | refine ev_gos 99 rfl ?_ | refine ev_gf2 rfl rfl rfl rfl ?_ | refine ev_gf2 rfl rfl HH_land rfl ?_ | refine ev_gf2 rfl rfl HH_draft rfl ?_ | refine ev_gf2 rfl rfl (by with_reducible assumption) rfl ?_)
            exact hh
          obtain ⟨e1, e2⟩ := e_mends (sc := sc) (d := d + 1) (w := w) (s := s) (l := l) (A := upA A 28 (upd (upd (upd (upd rd (12 + R) (nV t n (i + 1))) (12 + R) (nV t n (nE t n (i + 1)))) (12 + R) (nI (x0 + W * y0))) 3 (nI R + 1))) (B := B) (b := nI (skN t n (nE t n (i + 1)))) (g := 48) (f := nI (nE t n (nE t n (i + 1)) - skN t n (nE t n (i + 1)))) (v := nV t n (nE t n (i + 1))) (x := x) hT hb2.2
          by_cases he : enC t n (nE t n (nE t n (i + 1))) = 0
          · have hlt : skN t n (nE t n (nE t n (i + 1))) + 1 ≤ n := by
              unfold enC at he
              by_cases q : skN t n (nE t n (nE t n (i + 1))) < n ∧ t (skN t n (nE t n (nE t n (i + 1)))) = 59
              · omega
              · rw [if_neg q] at he
                cases he
            have hadv : i < skN t n (nE t n (nE t n (i + 1))) + 1 := by
              have q1 := (skN_b t (show i + 1 ≤ n by omega)).1
              have q2 := (skN_b t hb2.2).1
              have q3 := hb1.1
              have q4 := (skN_b t hb1.2).1
              have q5 := hb2.1
              clear hc hc2 n1 m1 he
              omega
            rw [en_ok he]
            refine ⟨true, skN t n (nE t n (nE t n (i + 1))) + 1, skN t n (nE t n (nE t n (i + 1))), 59, nI (nE t n (nE t n (nE t n (i + 1))) - skN t n (nE t n (nE t n (i + 1)))), nV t n (nE t n (nE t n (i + 1))), x, upd (upd (upd (upd rd (12 + R) (nV t n (i + 1))) (12 + R) (nV t n (nE t n (i + 1)))) (12 + R) (nI (x0 + W * y0))) 3 (nI R + 1), ?_, Or.inl ⟨rfl, h0, ⟨hm, hz0, hadv⟩, rfl, hlt, W, H, P, R + 1, ?_⟩⟩
            · refine pre4 _ _ ?_
              refine ev_cv rfl rfl rfl (e1 he) ?_
              exact ev_rz rfl (Or.inr rfl) rfl rfl
            · have hq : ∀ k, ¬ k = 12 + R → ¬ k = 3 → upd (upd (upd (upd rd (12 + R) (nV t n (i + 1))) (12 + R) (nV t n (nE t n (i + 1)))) (12 + R) (nI (x0 + W * y0))) 3 (nI R + 1) k = rd k := fun k k1 k2 => by rw [pk_un k2, pk_un k1, pk_un k1, pk_un k1]
              have hnew : upd (upd (upd (upd rd (12 + R) (nV t n (i + 1))) (12 + R) (nV t n (nE t n (i + 1)))) (12 + R) (nI (x0 + W * y0))) 3 (nI R + 1) (12 + R) = nI (x0 + W * y0) := by rw [pk_un (by omega), pk_us]
              have hr3 : upd (upd (upd (upd rd (12 + R) (nV t n (i + 1))) (12 + R) (nV t n (nE t n (i + 1)))) (12 + R) (nI (x0 + W * y0))) 3 (nI R + 1) 3 = nI (R + 1) := by rw [pk_us, nI_1]
              generalize upd (upd (upd (upd rd (12 + R) (nV t n (i + 1))) (12 + R) (nV t n (nE t n (i + 1)))) (12 + R) (nI (x0 + W * y0))) 3 (nI R + 1) = rd2 at hq hnew hr3
              refine ⟨⟨a1.1, by rw [hq 0 (by omega) (by omega)]; exact a1.2⟩, ⟨a2.1, by rw [hq 1 (by omega) (by omega)]; exact a2.2⟩, ⟨a3.1, by rw [hq 2 (by omega) (by omega)]; exact a3.2⟩, hr3, a5, a6, a7, hR7, Or.inr ⟨hW, hH⟩, ?_, ?_, fun p hp => ?_, fun j hj => ?_, ?_, ?_⟩
              · obtain ⟨k', q1, q2, q3⟩ := a10
                exact ⟨k', q1, q2, by rw [hq 4 (by omega) (by omega)]; exact q3⟩
              · obtain ⟨b', q1, q2⟩ := a11
                exact ⟨b', q1, by rw [hq 20 h20 (by decide)]; exact q2⟩
              · obtain ⟨k', q1, q2, q3⟩ := a12 p hp
                exact ⟨k', q1, q2, by rw [hq (5 + p) (by omega) (by omega)]; exact q3⟩
              · by_cases e : j = R
                · subst e
                  exact ⟨x0 + W * y0, hxy, hnew⟩
                · rw [hq (12 + j) (by omega) (by omega)]
                  exact a13 j (by omega)
              · show r.2.1 7 ||| bit (x0 + W * y0) = setR rd2 R ||| bit (rd2 (12 + R)).toNatClampNeg
                rw [hnew, nI_clamp (by omega), a14, setR_cong (g := rd) (g2 := rd2) (fun j hj => hq (12 + j) (by omega) (by omega))]
              · show pop (r.2.1 7 ||| bit (x0 + W * y0)) = R + 1
                rw [pop_or_bit (by omega) hdup, a15]
          · refine ⟨false, tkA t n (nE t n (nE t n (i + 1))), skN t n (nE t n (nE t n (i + 1))), tkS t n (nE t n (nE t n (i + 1))), nI (nE t n (nE t n (nE t n (i + 1))) - skN t n (nE t n (nE t n (i + 1)))), nV t n (nE t n (nE t n (i + 1))), 1, upd (upd (upd (upd rd (12 + R) (nV t n (i + 1))) (12 + R) (nV t n (nE t n (i + 1)))) (12 + R) (nI (x0 + W * y0))) 3 (nI R + 1), ?_, Or.inr ⟨rfl, 1, by decide, by decide, rfl, FL_en0 ?_ he⟩⟩
            · refine pre4 _ _ ?_
              refine ev_cv rfl rfl rfl (e2 he) ?_
              exact ev_rz rfl (Or.inl rfl) rfl rfl
            · exact h0
      · refine ⟨false, tkA t n (nE t n (i + 1)), skN t n (nE t n (i + 1)), tkS t n (nE t n (i + 1)), nI (nE t n (nE t n (i + 1)) - skN t n (nE t n (i + 1))), nV t n (nE t n (i + 1)), nI (nmC t n (nE t n (i + 1)) 0 (nI H - 1)), upd rd (12 + R) (nV t n (i + 1)), ?_, Or.inr ⟨rfl, nmC t n (nE t n (i + 1)) 0 (nI H - 1), (nmC_r t n _ _ _ hc2).1, (nmC_r t n _ _ _ hc2).2, rfl, FL_en (nmC_3 t n _ _ _ hc2) ?_⟩⟩
        · refine pre2 _ _ ?_
          refine ev_cv rfl rfl rfl (m2 hc2) ?_
          (first | refine ev_ift rfl rfl rfl rfl ?_ | refine ev_iff rfl rfl rfl rfl ?_)
          repeat (first | refine ev_gos 99 rfl ?_ | refine ev_gf2 rfl rfl rfl rfl ?_ | refine ev_gf2 rfl rfl HH_land rfl ?_ | refine ev_gf2 rfl rfl HH_draft rfl ?_ | refine ev_gf2 rfl rfl (by with_reducible assumption) rfl ?_)
          exact ev_rz rfl (Or.inl rfl) rfl rfl
        · have z := rk_n2 (t := t) (n := n) (r := sR r 3 (nI (i + 1))) (i := i + 1) hp8 h0 (by rw [e19]; exact hc) (by rw [e20]; exact hc2)
          rw [e20] at z
          exact z
    · refine ⟨false, tkA t n (i + 1), skN t n (i + 1), tkS t n (i + 1), nI (nE t n (i + 1) - skN t n (i + 1)), nV t n (i + 1), nI (nmC t n (i + 1) 0 (nI W - 1)), rd, ?_, Or.inr ⟨rfl, nmC t n (i + 1) 0 (nI W - 1), (nmC_r t n _ _ _ hc).1, (nmC_r t n _ _ _ hc).2, rfl, FL_en (nmC_3 t n _ _ _ hc) ?_⟩⟩
      · refine pre _ _ ?_
        refine ev_cv rfl rfl rfl (n2 hc) ?_
        (first | refine ev_ift rfl rfl rfl rfl ?_ | refine ev_iff rfl rfl rfl rfl ?_)
        repeat (first | refine ev_gos 99 rfl ?_ | refine ev_gf2 rfl rfl rfl rfl ?_ | refine ev_gf2 rfl rfl HH_land rfl ?_ | refine ev_gf2 rfl rfl HH_draft rfl ?_ | refine ev_gf2 rfl rfl (by with_reducible assumption) rfl ?_)
        exact ev_rz rfl (Or.inl rfl) rfl rfl
      · have z := rk_n1 (t := t) (n := n) (r := sR r 3 (nI (i + 1))) (i := i + 1) hp8 h0 (by rw [e19]; exact hc)
        rw [e19] at z
        exact z
end RKC
