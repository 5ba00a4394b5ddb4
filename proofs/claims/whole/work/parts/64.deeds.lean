/-! both sides: deeds, one by one -/
theorem rmF_lt {f c : Nat} (h : f < 30) : rmF f c < 30 := by
  unfold rmF
  split <;> omega
theorem rmC_le {c : Nat} (h : c ≤ 30) : rmC c + 1 ≤ 30 := by
  unfold rmC
  split <;> omega
theorem inR_f {x : Int32} {n : Nat} (h : inR x n = false) : x < 0 ∨ (¬ x < 0 ∧ ¬ x < nI n) := by
  by_cases h1 : x < 0
  · exact Or.inl h1
  · refine Or.inr ⟨h1, fun z => ?_⟩
    unfold inR at h
    rw [decide_eq_true (ge0 h1), decide_eq_true z] at h
    cases h
section DEE
variable {sc : Scr} {d : Nat} {w : Bool} {s : Nat → Int32} {l : Nat → Int64} {A : Nat → Nat → Int32} {B : Nat → Nat → Int64} {W H P fi c : Nat}
theorem b_rise (h : INV s l A B W H P fi c) (x : Int32) : Both sc (d + 12) m_C_rise 3 m_M_rise 3 [.int x] w s l A B := by
  obtain ⟨hN, hM, hR, hK, hS, ⟨d1, d2, d3, d4, d5, d6⟩, hX, hI, hT, hF, hO, hB⟩ := id h
  have hP7 := h.p7
  cases hb : inR x P with
  | false =>
    refine ⟨-1000000001, HH w s l A B, w, s, l, A, B, ?_, ?_, ⟨W, H, P, fi, c, h⟩⟩
    · repeat (first | refine ev_gos 99 rfl ?_ | refine ev_gf2 rfl rfl rfl rfl ?_ | refine ev_gf2 rfl rfl HH_land rfl ?_ | refine ev_gf2 rfl rfl HH_draft rfl ?_ | refine ev_gf2 rfl rfl (by with_reducible assumption) rfl ?_)
      refine ev_cv rfl rfl rfl (e_isPerson hN.2.2.1 x) ?_
      rw [hb]
      (first | refine ev_ift rfl rfl rfl rfl ?_ | refine ev_iff rfl rfl rfl rfl ?_)
      repeat (first | refine ev_gos 99 rfl ?_ | refine ev_gf2 rfl rfl rfl rfl ?_ | refine ev_gf2 rfl rfl HH_land rfl ?_ | refine ev_gf2 rfl rfl HH_draft rfl ?_ | refine ev_gf2 rfl rfl (by with_reducible assumption) rfl ?_)
      exact ev_ri rfl rfl rfl
    · repeat (first | refine ev_gos 99 rfl ?_ | refine ev_gf2 rfl rfl rfl rfl ?_ | refine ev_gf2 rfl rfl HH_land rfl ?_ | refine ev_gf2 rfl rfl HH_draft rfl ?_ | refine ev_gf2 rfl rfl (by with_reducible assumption) rfl ?_)
      refine ev_cv rfl rfl rfl (e_misPerson hM x) ?_
      rw [hb]
      (first | refine ev_ift rfl rfl rfl rfl ?_ | refine ev_iff rfl rfl rfl rfl ?_)
      repeat (first | refine ev_gos 99 rfl ?_ | refine ev_gf2 rfl rfl rfl rfl ?_ | refine ev_gf2 rfl rfl HH_land rfl ?_ | refine ev_gf2 rfl rfl HH_draft rfl ?_ | refine ev_gf2 rfl rfl (by with_reducible assumption) rfl ?_)
      exact ev_ri rfl rfl rfl
  | true =>
    obtain ⟨p, p1, p2⟩ := inR_of (by omega) hb
    subst p2
    by_cases e : A 11 p = -1
    · refine ⟨-1000000003, HH w s l A B, w, s, l, A, B, ?_, ?_, ⟨W, H, P, fi, c, h⟩⟩
      · repeat (first | refine ev_gos 99 rfl ?_ | refine ev_gf2 rfl rfl rfl rfl ?_ | refine ev_gf2 rfl rfl HH_land rfl ?_ | refine ev_gf2 rfl rfl HH_draft rfl ?_ | refine ev_gf2 rfl rfl (by with_reducible assumption) rfl ?_)
        refine ev_cv rfl rfl rfl (e_isPerson hN.2.2.1 _) ?_
        rw [hb]
        (first | refine ev_ift rfl rfl rfl rfl ?_ | refine ev_iff rfl rfl rfl rfl ?_)
        repeat (first | refine ev_gos 99 rfl ?_ | refine ev_gf2 rfl rfl rfl rfl ?_ | refine ev_gf2 rfl rfl HH_land rfl ?_ | refine ev_gf2 rfl rfl HH_draft rfl ?_ | refine ev_gf2 rfl rfl (by with_reducible assumption) rfl ?_)
        refine ev_ix p rfl rfl rfl (by omega) (by decide) ?_
        repeat (first | refine ev_gos 99 rfl ?_ | refine ev_gf2 rfl rfl rfl rfl ?_ | refine ev_gf2 rfl rfl HH_land rfl ?_ | refine ev_gf2 rfl rfl HH_draft rfl ?_ | refine ev_gf2 rfl rfl (by with_reducible assumption) rfl ?_)
        refine ev_iff rfl rfl rfl (d_ne e) ?_
        repeat (first | refine ev_gos 99 rfl ?_ | refine ev_gf2 rfl rfl rfl rfl ?_ | refine ev_gf2 rfl rfl HH_land rfl ?_ | refine ev_gf2 rfl rfl HH_draft rfl ?_ | refine ev_gf2 rfl rfl (by with_reducible assumption) rfl ?_)
        exact ev_ri rfl rfl rfl
      · repeat (first | refine ev_gos 99 rfl ?_ | refine ev_gf2 rfl rfl rfl rfl ?_ | refine ev_gf2 rfl rfl HH_land rfl ?_ | refine ev_gf2 rfl rfl HH_draft rfl ?_ | refine ev_gf2 rfl rfl (by with_reducible assumption) rfl ?_)
        refine ev_cv rfl rfl rfl (e_misPerson hM _) ?_
        rw [hb]
        (first | refine ev_ift rfl rfl rfl rfl ?_ | refine ev_iff rfl rfl rfl rfl ?_)
        repeat (first | refine ev_gos 99 rfl ?_ | refine ev_gf2 rfl rfl rfl rfl ?_ | refine ev_gf2 rfl rfl HH_land rfl ?_ | refine ev_gf2 rfl rfl HH_draft rfl ?_ | refine ev_gf2 rfl rfl (by with_reducible assumption) rfl ?_)
        refine ev_cv rfl rfl rfl (e_misLying (p := p) (by omega)) ?_
        rw [h.aM (by omega), decide_eq_false (fun z => z e)]
        (first | refine ev_ift rfl rfl rfl rfl ?_ | refine ev_iff rfl rfl rfl rfl ?_)
        repeat (first | refine ev_gos 99 rfl ?_ | refine ev_gf2 rfl rfl rfl rfl ?_ | refine ev_gf2 rfl rfl HH_land rfl ?_ | refine ev_gf2 rfl rfl HH_draft rfl ?_ | refine ev_gf2 rfl rfl (by with_reducible assumption) rfl ?_)
        exact ev_ri rfl rfl rfl
    · refine ⟨A 11 p, HH w (remS s fi c) l (upA (remA A s fi c) 11 (upd (A 11) p (-1))) B, w, upA (remS s fi c) 23 (nI (rmC c + 1)), l, upA (upA (upA (remA A s fi c) 11 (upd (A 11) p (-1))) 32 (pstM (A 32) (A 29) c)) 29 (upd (A 29) (49 + p) (-1)), B, ?_, ?_, ⟨W, H, P, rmF fi c, rmC c + 1, hN, hM, hR, hK, SP_rise hS (by omega), ⟨rfl, rmF_lt d2, rfl, rmC_le d4, rfl, DD_rem hS d2 d4 d6⟩, hX, hI, hT, hF, hO, hB⟩⟩
      · repeat (first | refine ev_gos 99 rfl ?_ | refine ev_gf2 rfl rfl rfl rfl ?_ | refine ev_gf2 rfl rfl HH_land rfl ?_ | refine ev_gf2 rfl rfl HH_draft rfl ?_ | refine ev_gf2 rfl rfl (by with_reducible assumption) rfl ?_)
        refine ev_cv rfl rfl rfl (e_isPerson hN.2.2.1 _) ?_
        rw [hb]
        (first | refine ev_ift rfl rfl rfl rfl ?_ | refine ev_iff rfl rfl rfl rfl ?_)
        repeat (first | refine ev_gos 99 rfl ?_ | refine ev_gf2 rfl rfl rfl rfl ?_ | refine ev_gf2 rfl rfl HH_land rfl ?_ | refine ev_gf2 rfl rfl HH_draft rfl ?_ | refine ev_gf2 rfl rfl (by with_reducible assumption) rfl ?_)
        refine ev_ix p rfl rfl rfl (by omega) (by decide) ?_
        repeat (first | refine ev_gos 99 rfl ?_ | refine ev_gf2 rfl rfl rfl rfl ?_ | refine ev_gf2 rfl rfl HH_land rfl ?_ | refine ev_gf2 rfl rfl HH_draft rfl ?_ | refine ev_gf2 rfl rfl (by with_reducible assumption) rfl ?_)
        refine ev_ift rfl rfl rfl (c_ne e) ?_
        repeat (first | refine ev_gos 99 rfl ?_ | refine ev_gf2 rfl rfl rfl rfl ?_ | refine ev_gf2 rfl rfl HH_land rfl ?_ | refine ev_gf2 rfl rfl HH_draft rfl ?_ | refine ev_gf2 rfl rfl (by with_reducible assumption) rfl ?_)
        refine ev_cv rfl rfl rfl (e_remember d1 d2 d3 d4) ?_
        repeat (first | refine ev_gos 99 rfl ?_ | refine ev_gf2 rfl rfl rfl rfl ?_ | refine ev_gf2 rfl rfl HH_land rfl ?_ | refine ev_gf2 rfl rfl HH_draft rfl ?_ | refine ev_gf2 rfl rfl (by with_reducible assumption) rfl ?_)
        refine is_11 rfl (inI (by omega) (by decide)) ?_
        rw [nI_clamp (by omega)]
        repeat (first | refine ev_gos 99 rfl ?_ | refine ev_gf2 rfl rfl rfl rfl ?_ | refine ev_gf2 rfl rfl HH_land rfl ?_ | refine ev_gf2 rfl rfl HH_draft rfl ?_ | refine ev_gf2 rfl rfl (by with_reducible assumption) rfl ?_)
        exact ev_ri rfl rfl rfl
      · repeat (first | refine ev_gos 99 rfl ?_ | refine ev_gf2 rfl rfl rfl rfl ?_ | refine ev_gf2 rfl rfl HH_land rfl ?_ | refine ev_gf2 rfl rfl HH_draft rfl ?_ | refine ev_gf2 rfl rfl (by with_reducible assumption) rfl ?_)
        refine ev_cv rfl rfl rfl (e_misPerson (A := upA (remA A s fi c) 11 _) hM _) ?_
        rw [hb]
        (first | refine ev_ift rfl rfl rfl rfl ?_ | refine ev_iff rfl rfl rfl rfl ?_)
        repeat (first | refine ev_gos 99 rfl ?_ | refine ev_gf2 rfl rfl rfl rfl ?_ | refine ev_gf2 rfl rfl HH_land rfl ?_ | refine ev_gf2 rfl rfl HH_draft rfl ?_ | refine ev_gf2 rfl rfl (by with_reducible assumption) rfl ?_)
        refine ev_cv rfl rfl rfl (e_misLying (p := p) (by omega)) ?_
        refine (?_ : Ek sc _ m_M_rise 16 _ [.int (b01 (decide (¬ atM (A 29) p = -1)))] _ _ _ _ _)
        rw [h.aM (by omega), decide_eq_true e]
        (first | refine ev_ift rfl rfl rfl rfl ?_ | refine ev_iff rfl rfl rfl rfl ?_)
        repeat (first | refine ev_gos 99 rfl ?_ | refine ev_gf2 rfl rfl rfl rfl ?_ | refine ev_gf2 rfl rfl HH_land rfl ?_ | refine ev_gf2 rfl rfl HH_draft rfl ?_ | refine ev_gf2 rfl rfl (by with_reducible assumption) rfl ?_)
        refine ev_cv rfl rfl rfl (e_mremember (s := remS s fi c) (c := c) d5 d4) ?_
        repeat (first | refine ev_gos 99 rfl ?_ | refine ev_gf2 rfl rfl rfl rfl ?_ | refine ev_gf2 rfl rfl HH_land rfl ?_ | refine ev_gf2 rfl rfl HH_draft rfl ?_ | refine ev_gf2 rfl rfl (by with_reducible assumption) rfl ?_)
        refine ev_ix (49 + p) rfl rfl (nI_add 49 p) (by omega) (by decide) ?_
        repeat (first | refine ev_gos 99 rfl ?_ | refine ev_gf2 rfl rfl rfl rfl ?_ | refine ev_gf2 rfl rfl HH_land rfl ?_ | refine ev_gf2 rfl rfl HH_draft rfl ?_ | refine ev_gf2 rfl rfl (by with_reducible assumption) rfl ?_)
        refine iv_29 (49 + p) rfl (nI_add 49 p) (by omega) ?_
        repeat (first | refine ev_gos 99 rfl ?_ | refine ev_gf2 rfl rfl rfl rfl ?_ | refine ev_gf2 rfl rfl HH_land rfl ?_ | refine ev_gf2 rfl rfl HH_draft rfl ?_ | refine ev_gf2 rfl rfl (by with_reducible assumption) rfl ?_)
        exact ev_ri rfl (h.aM (by omega)) rfl
theorem b_hare (h : INV s l A B W H P fi c) (x : Int32) : Both sc (d + 12) m_C_hare 2 m_M_hare 2 [.int x] w s l A B := by
  obtain ⟨hN, hM, hR, hK, hS, ⟨d1, d2, d3, d4, d5, d6⟩, hX, hI, hT, hF, hO, hB⟩ := id h
  have h49 := hN.n49
  cases hb : inR x (W * H) with
  | false =>
    refine ⟨-1000000001, HH w s l A B, w, s, l, A, B, ?_, ?_, ⟨W, H, P, fi, c, h⟩⟩
    · repeat (first | refine ev_gos 99 rfl ?_ | refine ev_gf2 rfl rfl rfl rfl ?_ | refine ev_gf2 rfl rfl HH_land rfl ?_ | refine ev_gf2 rfl rfl HH_draft rfl ?_ | refine ev_gf2 rfl rfl (by with_reducible assumption) rfl ?_)
      refine ev_cv rfl rfl rfl (e_isCell hN.cells x) ?_
      rw [hb]
      (first | refine ev_ift rfl rfl rfl rfl ?_ | refine ev_iff rfl rfl rfl rfl ?_)
      repeat (first | refine ev_gos 99 rfl ?_ | refine ev_gf2 rfl rfl rfl rfl ?_ | refine ev_gf2 rfl rfl HH_land rfl ?_ | refine ev_gf2 rfl rfl HH_draft rfl ?_ | refine ev_gf2 rfl rfl (by with_reducible assumption) rfl ?_)
      exact ev_ri rfl rfl rfl
    · repeat (first | refine ev_gos 99 rfl ?_ | refine ev_gf2 rfl rfl rfl rfl ?_ | refine ev_gf2 rfl rfl HH_land rfl ?_ | refine ev_gf2 rfl rfl HH_draft rfl ?_ | refine ev_gf2 rfl rfl (by with_reducible assumption) rfl ?_)
      refine ev_cv rfl rfl rfl (e_misCell hM x) ?_
      rw [hb]
      (first | refine ev_ift rfl rfl rfl rfl ?_ | refine ev_iff rfl rfl rfl rfl ?_)
      repeat (first | refine ev_gos 99 rfl ?_ | refine ev_gf2 rfl rfl rfl rfl ?_ | refine ev_gf2 rfl rfl HH_land rfl ?_ | refine ev_gf2 rfl rfl HH_draft rfl ?_ | refine ev_gf2 rfl rfl (by with_reducible assumption) rfl ?_)
      exact ev_ri rfl rfl rfl
  | true =>
    obtain ⟨q, q1, q2⟩ := inR_of (by omega) hb
    subst q2
    cases hr : bs (l 3) q with
    | true =>
      refine ⟨-1000000003, HH w s l A B, w, s, l, A, B, ?_, ?_, ⟨W, H, P, fi, c, h⟩⟩
      · repeat (first | refine ev_gos 99 rfl ?_ | refine ev_gf2 rfl rfl rfl rfl ?_ | refine ev_gf2 rfl rfl HH_land rfl ?_ | refine ev_gf2 rfl rfl HH_draft rfl ?_ | refine ev_gf2 rfl rfl (by with_reducible assumption) rfl ?_)
        refine ev_cv rfl rfl rfl (e_isCell hN.cells _) ?_
        rw [hb]
        (first | refine ev_ift rfl rfl rfl rfl ?_ | refine ev_iff rfl rfl rfl rfl ?_)
        repeat (first | refine ev_gos 99 rfl ?_ | refine ev_gf2 rfl rfl rfl rfl ?_ | refine ev_gf2 rfl rfl HH_land rfl ?_ | refine ev_gf2 rfl rfl HH_draft rfl ?_ | refine ev_gf2 rfl rfl (by with_reducible assumption) rfl ?_)
        refine ev_cv rfl rfl HH_land (e_isRock HH_land (k := q) (by omega)) ?_
        refine (?_ : Ek sc _ m_C_hare 19 _ [.int (b01 (bs (l 3) q))] _ _ _ _ _)
        rw [hr]
        (first | refine ev_ift rfl rfl rfl rfl ?_ | refine ev_iff rfl rfl rfl rfl ?_)
        repeat (first | refine ev_gos 99 rfl ?_ | refine ev_gf2 rfl rfl rfl rfl ?_ | refine ev_gf2 rfl rfl HH_land rfl ?_ | refine ev_gf2 rfl rfl HH_draft rfl ?_ | refine ev_gf2 rfl rfl (by with_reducible assumption) rfl ?_)
        exact ev_ri rfl rfl rfl
      · repeat (first | refine ev_gos 99 rfl ?_ | refine ev_gf2 rfl rfl rfl rfl ?_ | refine ev_gf2 rfl rfl HH_land rfl ?_ | refine ev_gf2 rfl rfl HH_draft rfl ?_ | refine ev_gf2 rfl rfl (by with_reducible assumption) rfl ?_)
        refine ev_cv rfl rfl rfl (e_misCell hM _) ?_
        rw [hb]
        (first | refine ev_ift rfl rfl rfl rfl ?_ | refine ev_iff rfl rfl rfl rfl ?_)
        repeat (first | refine ev_gos 99 rfl ?_ | refine ev_gf2 rfl rfl rfl rfl ?_ | refine ev_gf2 rfl rfl HH_land rfl ?_ | refine ev_gf2 rfl rfl HH_draft rfl ?_ | refine ev_gf2 rfl rfl (by with_reducible assumption) rfl ?_)
        refine ev_cv rfl rfl rfl (e_misRock hM (c := q) (by omega)) ?_
        rw [hr]
        (first | refine ev_ift rfl rfl rfl rfl ?_ | refine ev_iff rfl rfl rfl rfl ?_)
        repeat (first | refine ev_gos 99 rfl ?_ | refine ev_gf2 rfl rfl rfl rfl ?_ | refine ev_gf2 rfl rfl HH_land rfl ?_ | refine ev_gf2 rfl rfl HH_draft rfl ?_ | refine ev_gf2 rfl rfl (by with_reducible assumption) rfl ?_)
        exact ev_ri rfl rfl rfl
    | false =>
      refine ⟨if A 10 q + 2 < 9 then A 10 q + 2 else 9, HH w (remS s fi c) l (upA (remA A s fi c) 10 (upd (A 10) q (if A 10 q + 2 < 9 then A 10 q + 2 else 9))) B, w, upA (remS s fi c) 23 (nI (rmC c + 1)), l, upA (upA (upA (remA A s fi c) 10 (upd (A 10) q (if A 10 q + 2 < 9 then A 10 q + 2 else 9))) 32 (pstM (A 32) (A 29) c)) 29 (upd (A 29) q (rnM (A 29 q))), B, ?_, ?_, ⟨W, H, P, rmF fi c, rmC c + 1, hN, hM, hR, hK, SP_cross hS h49 q1 hr, ⟨rfl, rmF_lt d2, rfl, rmC_le d4, rfl, DD_rem hS d2 d4 d6⟩, hX, hI, hT, hF, hO, hB⟩⟩
      · repeat (first | refine ev_gos 99 rfl ?_ | refine ev_gf2 rfl rfl rfl rfl ?_ | refine ev_gf2 rfl rfl HH_land rfl ?_ | refine ev_gf2 rfl rfl HH_draft rfl ?_ | refine ev_gf2 rfl rfl (by with_reducible assumption) rfl ?_)
        refine ev_cv rfl rfl rfl (e_isCell hN.cells _) ?_
        rw [hb]
        (first | refine ev_ift rfl rfl rfl rfl ?_ | refine ev_iff rfl rfl rfl rfl ?_)
        repeat (first | refine ev_gos 99 rfl ?_ | refine ev_gf2 rfl rfl rfl rfl ?_ | refine ev_gf2 rfl rfl HH_land rfl ?_ | refine ev_gf2 rfl rfl HH_draft rfl ?_ | refine ev_gf2 rfl rfl (by with_reducible assumption) rfl ?_)
        refine ev_cv rfl rfl HH_land (e_isRock HH_land (k := q) (by omega)) ?_
        refine (?_ : Ek sc _ m_C_hare 19 _ [.int (b01 (bs (l 3) q))] _ _ _ _ _)
        rw [hr]
        (first | refine ev_ift rfl rfl rfl rfl ?_ | refine ev_iff rfl rfl rfl rfl ?_)
        repeat (first | refine ev_gos 99 rfl ?_ | refine ev_gf2 rfl rfl rfl rfl ?_ | refine ev_gf2 rfl rfl HH_land rfl ?_ | refine ev_gf2 rfl rfl HH_draft rfl ?_ | refine ev_gf2 rfl rfl (by with_reducible assumption) rfl ?_)
        refine ev_cv rfl rfl rfl (e_remember d1 d2 d3 d4) ?_
        repeat (first | refine ev_gos 99 rfl ?_ | refine ev_gf2 rfl rfl rfl rfl ?_ | refine ev_gf2 rfl rfl HH_land rfl ?_ | refine ev_gf2 rfl rfl HH_draft rfl ?_ | refine ev_gf2 rfl rfl (by with_reducible assumption) rfl ?_)
        refine ev_cv rfl rfl rfl (e_cross (c := q) (by omega)) ?_
        repeat (first | refine ev_gos 99 rfl ?_ | refine ev_gf2 rfl rfl rfl rfl ?_ | refine ev_gf2 rfl rfl HH_land rfl ?_ | refine ev_gf2 rfl rfl HH_draft rfl ?_ | refine ev_gf2 rfl rfl (by with_reducible assumption) rfl ?_)
        refine ev_ix q rfl rfl rfl (by omega) (by decide) ?_
        exact ev_ri rfl pk_us rfl
      · repeat (first | refine ev_gos 99 rfl ?_ | refine ev_gf2 rfl rfl rfl rfl ?_ | refine ev_gf2 rfl rfl HH_land rfl ?_ | refine ev_gf2 rfl rfl HH_draft rfl ?_ | refine ev_gf2 rfl rfl (by with_reducible assumption) rfl ?_)
        refine ev_cv rfl rfl rfl (e_misCell (A := upA (remA A s fi c) 10 _) hM _) ?_
        rw [hb]
        (first | refine ev_ift rfl rfl rfl rfl ?_ | refine ev_iff rfl rfl rfl rfl ?_)
        repeat (first | refine ev_gos 99 rfl ?_ | refine ev_gf2 rfl rfl rfl rfl ?_ | refine ev_gf2 rfl rfl HH_land rfl ?_ | refine ev_gf2 rfl rfl HH_draft rfl ?_ | refine ev_gf2 rfl rfl (by with_reducible assumption) rfl ?_)
        refine ev_cv rfl rfl rfl (e_misRock (A := upA (remA A s fi c) 10 _) hM (c := q) (by omega)) ?_
        rw [hr]
        (first | refine ev_ift rfl rfl rfl rfl ?_ | refine ev_iff rfl rfl rfl rfl ?_)
        repeat (first | refine ev_gos 99 rfl ?_ | refine ev_gf2 rfl rfl rfl rfl ?_ | refine ev_gf2 rfl rfl HH_land rfl ?_ | refine ev_gf2 rfl rfl HH_draft rfl ?_ | refine ev_gf2 rfl rfl (by with_reducible assumption) rfl ?_)
        refine ev_cv rfl rfl rfl (e_mremember (s := remS s fi c) (c := c) d5 d4) ?_
        repeat (first | refine ev_gos 99 rfl ?_ | refine ev_gf2 rfl rfl rfl rfl ?_ | refine ev_gf2 rfl rfl HH_land rfl ?_ | refine ev_gf2 rfl rfl HH_draft rfl ?_ | refine ev_gf2 rfl rfl (by with_reducible assumption) rfl ?_)
        refine ev_cv rfl rfl rfl (e_mruns (c := q) (by omega)) ?_
        repeat (first | refine ev_gos 99 rfl ?_ | refine ev_gf2 rfl rfl rfl rfl ?_ | refine ev_gf2 rfl rfl HH_land rfl ?_ | refine ev_gf2 rfl rfl HH_draft rfl ?_ | refine ev_gf2 rfl rfl (by with_reducible assumption) rfl ?_)
        refine ev_ix q rfl rfl (Int32.zero_add _) (by omega) (by decide) ?_
        refine ev_ri rfl ?_ rfl
        show upd (A 29) q (rnM (A 29 q)) q = _
        rw [pk_us, hS.2.2.2.2.1 q (by omega)]
        obtain ⟨k, k1, k2⟩ := hS.1 q (by omega)
        rw [k2, (n_rn k (by omega)).1, (n_rn k (by omega)).2]
theorem nz_W (hW : W = 0 ∨ (2 ≤ W ∧ 2 ≤ H)) (hW7 : W ≤ 7) : (W = 0 ∧ nI W = 0 ∧ decide (0 < W) = false) ∨ (2 ≤ W ∧ ¬ nI W = 0 ∧ decide (0 < W) = true) := by
  rcases hW with e | ⟨e, _⟩
  · exact Or.inl ⟨e, by rw [e]; rfl, decide_eq_false (by omega)⟩
  · exact Or.inr ⟨e, nI_ne (by omega) (by omega), decide_eq_true (by omega)⟩
theorem INV.w0 (h : INV s l A B W H P fi c) : (W = 0 ∧ nI W = 0 ∧ decide (0 < W) = false) ∨ (2 ≤ W ∧ ¬ nI W = 0 ∧ decide (0 < W) = true) := by
  refine nz_W (H := H) ?_ h.1.2.2.2.1
  rcases h.1.2.2.2.2.2.2.1 with ⟨a, _, _⟩ | q
  · exact Or.inl a
  · exact Or.inr q
theorem b_wind (h : INV s l A B W H P fi c) (x : Int32) : Both sc (d + 12) m_C_wind 3 m_M_wind 3 [.int x] w s l A B := by
  obtain ⟨hN, hM, hR, hK, hS, ⟨d1, d2, d3, d4, d5, d6⟩, hX, hI, hT, hF, hO, hB⟩ := id h
  have e4 : in3 x 0 4 = inR x 5 := in3_R x (N := 5) (by decide)
  cases hb : inR x 5 with
  | false =>
    refine ⟨-1000000002, HH w s l A B, w, s, l, A, B, ?_, ?_, ⟨W, H, P, fi, c, h⟩⟩
    · repeat (first | refine ev_gos 99 rfl ?_ | refine ev_gf2 rfl rfl rfl rfl ?_ | refine ev_gf2 rfl rfl HH_land rfl ?_ | refine ev_gf2 rfl rfl HH_draft rfl ?_ | refine ev_gf2 rfl rfl (by with_reducible assumption) rfl ?_)
      rcases inR_f hb with q | ⟨q, q2⟩
      · refine ev_ift rfl rfl rfl (i_lt q) ?_
        repeat (first | refine ev_gos 99 rfl ?_ | refine ev_gf2 rfl rfl rfl rfl ?_ | refine ev_gf2 rfl rfl HH_land rfl ?_ | refine ev_gf2 rfl rfl HH_draft rfl ?_ | refine ev_gf2 rfl rfl (by with_reducible assumption) rfl ?_)
        exact ev_ri rfl rfl rfl
      · refine ev_iff rfl rfl rfl (j_lt q) ?_
        repeat (first | refine ev_gos 99 rfl ?_ | refine ev_gf2 rfl rfl rfl rfl ?_ | refine ev_gf2 rfl rfl HH_land rfl ?_ | refine ev_gf2 rfl rfl HH_draft rfl ?_ | refine ev_gf2 rfl rfl (by with_reducible assumption) rfl ?_)
        refine ev_iff rfl rfl rfl (d_lt q2) ?_
        repeat (first | refine ev_gos 99 rfl ?_ | refine ev_gf2 rfl rfl rfl rfl ?_ | refine ev_gf2 rfl rfl HH_land rfl ?_ | refine ev_gf2 rfl rfl HH_draft rfl ?_ | refine ev_gf2 rfl rfl (by with_reducible assumption) rfl ?_)
        exact ev_ri rfl rfl rfl
    · repeat (first | refine ev_gos 99 rfl ?_ | refine ev_gf2 rfl rfl rfl rfl ?_ | refine ev_gf2 rfl rfl HH_land rfl ?_ | refine ev_gf2 rfl rfl HH_draft rfl ?_ | refine ev_gf2 rfl rfl (by with_reducible assumption) rfl ?_)
      refine ev_cs rfl rfl rfl (e_inB x 0 4 rfl (by decide) (by decide)) ?_
      rw [e4, hb]
      (first | refine ev_ift rfl rfl rfl rfl ?_ | refine ev_iff rfl rfl rfl rfl ?_)
      repeat (first | refine ev_gos 99 rfl ?_ | refine ev_gf2 rfl rfl rfl rfl ?_ | refine ev_gf2 rfl rfl HH_land rfl ?_ | refine ev_gf2 rfl rfl HH_draft rfl ?_ | refine ev_gf2 rfl rfl (by with_reducible assumption) rfl ?_)
      exact ev_ri rfl rfl rfl
  | true =>
    obtain ⟨k, k1, k2⟩ := inR_of (by decide) hb
    subst k2
    rcases h.w0 with ⟨w1, w2, w3⟩ | ⟨w1, w2, w3⟩
    · refine ⟨-1000000003, HH w s l A B, w, s, l, A, B, ?_, ?_, ⟨W, H, P, fi, c, h⟩⟩
      · repeat (first | refine ev_gos 99 rfl ?_ | refine ev_gf2 rfl rfl rfl rfl ?_ | refine ev_gf2 rfl rfl HH_land rfl ?_ | refine ev_gf2 rfl rfl HH_draft rfl ?_ | refine ev_gf2 rfl rfl (by with_reducible assumption) rfl ?_)
        refine ev_iff rfl rfl rfl (j_lt (nI_pos (by omega))) ?_
        repeat (first | refine ev_gos 99 rfl ?_ | refine ev_gf2 rfl rfl rfl rfl ?_ | refine ev_gf2 rfl rfl HH_land rfl ?_ | refine ev_gf2 rfl rfl HH_draft rfl ?_ | refine ev_gf2 rfl rfl (by with_reducible assumption) rfl ?_)
        refine ev_ift rfl rfl rfl (c_lt ((nI_ltI (a := k) (b := 5) (by omega) (by decide)).mpr k1)) ?_
        repeat (first | refine ev_gos 99 rfl ?_ | refine ev_gf2 rfl rfl rfl rfl ?_ | refine ev_gf2 rfl rfl HH_land rfl ?_ | refine ev_gf2 rfl rfl HH_draft rfl ?_ | refine ev_gf2 rfl rfl (by with_reducible assumption) rfl ?_)
        refine ev_cv rfl rfl rfl (e_hasNorth hN.1 hN.2.2.2.1) ?_
        rw [w3]
        (first | refine ev_ift rfl rfl rfl rfl ?_ | refine ev_iff rfl rfl rfl rfl ?_)
        repeat (first | refine ev_gos 99 rfl ?_ | refine ev_gf2 rfl rfl rfl rfl ?_ | refine ev_gf2 rfl rfl HH_land rfl ?_ | refine ev_gf2 rfl rfl HH_draft rfl ?_ | refine ev_gf2 rfl rfl (by with_reducible assumption) rfl ?_)
        exact ev_ri rfl rfl rfl
      · repeat (first | refine ev_gos 99 rfl ?_ | refine ev_gf2 rfl rfl rfl rfl ?_ | refine ev_gf2 rfl rfl HH_land rfl ?_ | refine ev_gf2 rfl rfl HH_draft rfl ?_ | refine ev_gf2 rfl rfl (by with_reducible assumption) rfl ?_)
        refine ev_cs rfl rfl rfl (e_inB (nI k) 0 4 rfl (by decide) (by decide)) ?_
        rw [e4, hb]
        (first | refine ev_ift rfl rfl rfl rfl ?_ | refine ev_iff rfl rfl rfl rfl ?_)
        repeat (first | refine ev_gos 99 rfl ?_ | refine ev_gf2 rfl rfl rfl rfl ?_ | refine ev_gf2 rfl rfl HH_land rfl ?_ | refine ev_gf2 rfl rfl HH_draft rfl ?_ | refine ev_gf2 rfl rfl (by with_reducible assumption) rfl ?_)
        refine ev_ix 0 rfl rfl rfl (by decide) (by decide) ?_
        rw [hM.1]
        refine ev_iff rfl rfl rfl (j_ne w2) ?_
        repeat (first | refine ev_gos 99 rfl ?_ | refine ev_gf2 rfl rfl rfl rfl ?_ | refine ev_gf2 rfl rfl HH_land rfl ?_ | refine ev_gf2 rfl rfl HH_draft rfl ?_ | refine ev_gf2 rfl rfl (by with_reducible assumption) rfl ?_)
        exact ev_ri rfl rfl rfl
    · refine ⟨s 9, HH w (upA (remS s fi c) 9 (nI k)) l (remA A s fi c) B, w, upA (upA (remS s fi c) 9 (nI k)) 23 (nI (rmC c + 1)), l, upA (upA (remA A s fi c) 32 (pstM (A 32) (A 29) c)) 29 (upd (A 29) 57 (nI k)), B, ?_, ?_, ⟨W, H, P, rmF fi c, rmC c + 1, hN, hM, hR, hK, SP_wd hS (by omega), ⟨rfl, rmF_lt d2, rfl, rmC_le d4, rfl, DD_rem hS d2 d4 d6⟩, hX, hI, hT, hF, hO, hB⟩⟩
      · repeat (first | refine ev_gos 99 rfl ?_ | refine ev_gf2 rfl rfl rfl rfl ?_ | refine ev_gf2 rfl rfl HH_land rfl ?_ | refine ev_gf2 rfl rfl HH_draft rfl ?_ | refine ev_gf2 rfl rfl (by with_reducible assumption) rfl ?_)
        refine ev_iff rfl rfl rfl (j_lt (nI_pos (by omega))) ?_
        repeat (first | refine ev_gos 99 rfl ?_ | refine ev_gf2 rfl rfl rfl rfl ?_ | refine ev_gf2 rfl rfl HH_land rfl ?_ | refine ev_gf2 rfl rfl HH_draft rfl ?_ | refine ev_gf2 rfl rfl (by with_reducible assumption) rfl ?_)
        refine ev_ift rfl rfl rfl (c_lt ((nI_ltI (a := k) (b := 5) (by omega) (by decide)).mpr k1)) ?_
        repeat (first | refine ev_gos 99 rfl ?_ | refine ev_gf2 rfl rfl rfl rfl ?_ | refine ev_gf2 rfl rfl HH_land rfl ?_ | refine ev_gf2 rfl rfl HH_draft rfl ?_ | refine ev_gf2 rfl rfl (by with_reducible assumption) rfl ?_)
        refine ev_cv rfl rfl rfl (e_hasNorth hN.1 hN.2.2.2.1) ?_
        rw [w3]
        (first | refine ev_ift rfl rfl rfl rfl ?_ | refine ev_iff rfl rfl rfl rfl ?_)
        repeat (first | refine ev_gos 99 rfl ?_ | refine ev_gf2 rfl rfl rfl rfl ?_ | refine ev_gf2 rfl rfl HH_land rfl ?_ | refine ev_gf2 rfl rfl HH_draft rfl ?_ | refine ev_gf2 rfl rfl (by with_reducible assumption) rfl ?_)
        refine ev_cv rfl rfl rfl (e_remember d1 d2 d3 d4) ?_
        repeat (first | refine ev_gos 99 rfl ?_ | refine ev_gf2 rfl rfl rfl rfl ?_ | refine ev_gf2 rfl rfl HH_land rfl ?_ | refine ev_gf2 rfl rfl HH_draft rfl ?_ | refine ev_gf2 rfl rfl (by with_reducible assumption) rfl ?_)
        refine pf_F_9 rfl ?_
        repeat (first | refine ev_gos 99 rfl ?_ | refine ev_gf2 rfl rfl rfl rfl ?_ | refine ev_gf2 rfl rfl HH_land rfl ?_ | refine ev_gf2 rfl rfl HH_draft rfl ?_ | refine ev_gf2 rfl rfl (by with_reducible assumption) rfl ?_)
        exact ev_ri rfl rfl rfl
      · repeat (first | refine ev_gos 99 rfl ?_ | refine ev_gf2 rfl rfl rfl rfl ?_ | refine ev_gf2 rfl rfl HH_land rfl ?_ | refine ev_gf2 rfl rfl HH_draft rfl ?_ | refine ev_gf2 rfl rfl (by with_reducible assumption) rfl ?_)
        refine ev_cs rfl rfl rfl (e_inB (nI k) 0 4 rfl (by decide) (by decide)) ?_
        rw [e4, hb]
        (first | refine ev_ift rfl rfl rfl rfl ?_ | refine ev_iff rfl rfl rfl rfl ?_)
        repeat (first | refine ev_gos 99 rfl ?_ | refine ev_gf2 rfl rfl rfl rfl ?_ | refine ev_gf2 rfl rfl HH_land rfl ?_ | refine ev_gf2 rfl rfl HH_draft rfl ?_ | refine ev_gf2 rfl rfl (by with_reducible assumption) rfl ?_)
        refine ev_ix 0 rfl rfl rfl (by decide) (by decide) ?_
        refine (?_ : Ek sc _ m_M_wind 21 _ [.int (A 27 0)] _ _ _ _ _)
        rw [hM.1]
        refine ev_ift rfl rfl rfl (i_ne w2) ?_
        repeat (first | refine ev_gos 99 rfl ?_ | refine ev_gf2 rfl rfl rfl rfl ?_ | refine ev_gf2 rfl rfl HH_land rfl ?_ | refine ev_gf2 rfl rfl HH_draft rfl ?_ | refine ev_gf2 rfl rfl (by with_reducible assumption) rfl ?_)
        refine ev_cv rfl rfl rfl (e_mremember (s := upA (remS s fi c) 9 (nI k)) (c := c) d5 d4) ?_
        repeat (first | refine ev_gos 99 rfl ?_ | refine ev_gf2 rfl rfl rfl rfl ?_ | refine ev_gf2 rfl rfl HH_land rfl ?_ | refine ev_gf2 rfl rfl HH_draft rfl ?_ | refine ev_gf2 rfl rfl (by with_reducible assumption) rfl ?_)
        refine ev_ix 57 rfl rfl rfl (by decide) (by decide) ?_
        repeat (first | refine ev_gos 99 rfl ?_ | refine ev_gf2 rfl rfl rfl rfl ?_ | refine ev_gf2 rfl rfl HH_land rfl ?_ | refine ev_gf2 rfl rfl HH_draft rfl ?_ | refine ev_gf2 rfl rfl (by with_reducible assumption) rfl ?_)
        refine iv_29 57 rfl rfl (by decide) ?_
        repeat (first | refine ev_gos 99 rfl ?_ | refine ev_gf2 rfl rfl rfl rfl ?_ | refine ev_gf2 rfl rfl HH_land rfl ?_ | refine ev_gf2 rfl rfl HH_draft rfl ?_ | refine ev_gf2 rfl rfl (by with_reducible assumption) rfl ?_)
        exact ev_ri rfl hS.2.2.2.2.2.2.2 rfl
theorem b_snow (h : INV s l A B W H P fi c) : Both sc (d + 12) m_C_snow 1 m_M_snow 1 [] w s l A B := by
  obtain ⟨hN, hM, hR, hK, hS, ⟨d1, d2, d3, d4, d5, d6⟩, hX, hI, hT, hF, hO, hB⟩ := id h
  have h49 := hN.n49
  rcases h.w0 with ⟨w1, w2, w3⟩ | ⟨w1, w2, w3⟩
  · refine ⟨-1000000003, HH w s l A B, w, s, l, A, B, ?_, ?_, ⟨W, H, P, fi, c, h⟩⟩
    · repeat (first | refine ev_gos 99 rfl ?_ | refine ev_gf2 rfl rfl rfl rfl ?_ | refine ev_gf2 rfl rfl HH_land rfl ?_ | refine ev_gf2 rfl rfl HH_draft rfl ?_ | refine ev_gf2 rfl rfl (by with_reducible assumption) rfl ?_)
      refine ev_cv rfl rfl rfl (e_hasNorth hN.1 hN.2.2.2.1) ?_
      rw [w3]
      (first | refine ev_ift rfl rfl rfl rfl ?_ | refine ev_iff rfl rfl rfl rfl ?_)
      repeat (first | refine ev_gos 99 rfl ?_ | refine ev_gf2 rfl rfl rfl rfl ?_ | refine ev_gf2 rfl rfl HH_land rfl ?_ | refine ev_gf2 rfl rfl HH_draft rfl ?_ | refine ev_gf2 rfl rfl (by with_reducible assumption) rfl ?_)
      exact ev_ri rfl rfl rfl
    · repeat (first | refine ev_gos 99 rfl ?_ | refine ev_gf2 rfl rfl rfl rfl ?_ | refine ev_gf2 rfl rfl HH_land rfl ?_ | refine ev_gf2 rfl rfl HH_draft rfl ?_ | refine ev_gf2 rfl rfl (by with_reducible assumption) rfl ?_)
      refine ev_ix 0 rfl rfl rfl (by decide) (by decide) ?_
      rw [hM.1]
      refine ev_iff rfl rfl rfl (j_ne w2) ?_
      repeat (first | refine ev_gos 99 rfl ?_ | refine ev_gf2 rfl rfl rfl rfl ?_ | refine ev_gf2 rfl rfl HH_land rfl ?_ | refine ev_gf2 rfl rfl HH_draft rfl ?_ | refine ev_gf2 rfl rfl (by with_reducible assumption) rfl ?_)
      exact ev_ri rfl rfl rfl
  · have hS2 := SP_snow hS h49
    refine ⟨nI (cntS W (W * H) (dnS (mapP snF (A 10) 49) 3 49)), HH w (remS s fi c) l (upA (remA A s fi c) 10 (mapP snF (A 10) 49)) B, w, upA (remS s fi c) 23 (nI (rmC c + 1)), l, upA (upA (upA (remA A s fi c) 10 (mapP snF (A 10) 49)) 32 (pstM (A 32) (A 29) c)) 29 (mapP snM (A 29) (W * H)), B, ?_, ?_, ⟨W, H, P, rmF fi c, rmC c + 1, hN, hM, hR, hK, hS2, ⟨rfl, rmF_lt d2, rfl, rmC_le d4, rfl, DD_rem hS d2 d4 d6⟩, hX, hI, hT, hF, hO, hB⟩⟩
    · repeat (first | refine ev_gos 99 rfl ?_ | refine ev_gf2 rfl rfl rfl rfl ?_ | refine ev_gf2 rfl rfl HH_land rfl ?_ | refine ev_gf2 rfl rfl HH_draft rfl ?_ | refine ev_gf2 rfl rfl (by with_reducible assumption) rfl ?_)
      refine ev_cv rfl rfl rfl (e_hasNorth hN.1 hN.2.2.2.1) ?_
      rw [w3]
      (first | refine ev_ift rfl rfl rfl rfl ?_ | refine ev_iff rfl rfl rfl rfl ?_)
      repeat (first | refine ev_gos 99 rfl ?_ | refine ev_gf2 rfl rfl rfl rfl ?_ | refine ev_gf2 rfl rfl HH_land rfl ?_ | refine ev_gf2 rfl rfl HH_draft rfl ?_ | refine ev_gf2 rfl rfl (by with_reducible assumption) rfl ?_)
      refine ev_cv rfl rfl rfl (e_remember d1 d2 d3 d4) ?_
      repeat (first | refine ev_gos 99 rfl ?_ | refine ev_gf2 rfl rfl rfl rfl ?_ | refine ev_gf2 rfl rfl HH_land rfl ?_ | refine ev_gf2 rfl rfl HH_draft rfl ?_ | refine ev_gf2 rfl rfl (by with_reducible assumption) rfl ?_)
      refine ev_cv rfl rfl rfl e_snowOver ?_
      repeat (first | refine ev_gos 99 rfl ?_ | refine ev_gf2 rfl rfl rfl rfl ?_ | refine ev_gf2 rfl rfl HH_land rfl ?_ | refine ev_gf2 rfl rfl HH_draft rfl ?_ | refine ev_gf2 rfl rfl (by with_reducible assumption) rfl ?_)
      refine ev_cv rfl rfl rfl (e_countNow (W := W) (N := W * H) hN.1 hN.2.2.2.2.2.2.2.1 hN.2.2.2.2.2.2.2.2.1 hN.2.2.2.2.2.2.2.2.2.1) ?_
      exact ev_ri rfl rfl rfl
    · repeat (first | refine ev_gos 99 rfl ?_ | refine ev_gf2 rfl rfl rfl rfl ?_ | refine ev_gf2 rfl rfl HH_land rfl ?_ | refine ev_gf2 rfl rfl HH_draft rfl ?_ | refine ev_gf2 rfl rfl (by with_reducible assumption) rfl ?_)
      refine ev_ix 0 rfl rfl rfl (by decide) (by decide) ?_
      refine (?_ : Ek sc _ m_M_snow 6 _ [.int (A 27 0)] _ _ _ _ _)
      rw [hM.1]
      refine ev_ift rfl rfl rfl (i_ne w2) ?_
      repeat (first | refine ev_gos 99 rfl ?_ | refine ev_gf2 rfl rfl rfl rfl ?_ | refine ev_gf2 rfl rfl HH_land rfl ?_ | refine ev_gf2 rfl rfl HH_draft rfl ?_ | refine ev_gf2 rfl rfl (by with_reducible assumption) rfl ?_)
      refine ev_cv rfl rfl rfl (e_mremember (s := remS s fi c) (c := c) d5 d4) ?_
      repeat (first | refine ev_gos 99 rfl ?_ | refine ev_gf2 rfl rfl rfl rfl ?_ | refine ev_gf2 rfl rfl HH_land rfl ?_ | refine ev_gf2 rfl rfl HH_draft rfl ?_ | refine ev_gf2 rfl rfl (by with_reducible assumption) rfl ?_)
      refine ev_cv rfl rfl rfl (e_msnows (A := upA (upA (remA A s fi c) 10 _) 32 _) hM) ?_
      repeat (first | refine ev_gos 99 rfl ?_ | refine ev_gf2 rfl rfl rfl rfl ?_ | refine ev_gf2 rfl rfl HH_land rfl ?_ | refine ev_gf2 rfl rfl HH_draft rfl ?_ | refine ev_gf2 rfl rfl (by with_reducible assumption) rfl ?_)
      refine ev_cv rfl rfl rfl (e_mcountN (A := upA (upA (upA (remA A s fi c) 10 _) 32 _) 29 _) hM) ?_
      refine (?_ : Ek sc _ m_M_snow 28 _ [.int (nI (cntS W (W * H) (dnS (mapP snM (A 29) (W * H)) 3 (W * H))))] _ _ _ _ _)
      exact ev_ri rfl (by rw [cnt_eq hN hS2]) rfl
theorem e_mthaw_loop {rk : Int64} (hM : MN (A 27) rk W H P) (f : Nat → Int32) {r : Option Value} {h' : AHp} (hout : Ev sc (d + 4) m_M_thaw 54 [some (.ref 26), none] [] (HH w s l (upA A 29 (mapP mlM f (W * H))) B) r h') : ∀ (n i : Nat), i + n = W * H → Ev sc (d + 4) m_M_thaw 20 [some (.ref 26), some (.int (nI i))] [.ref 26, .int (nI i)] (HH w s l (upA A 29 (mapP mlM f i)) B) r h' := by
  have h49 := hM.n49
  intro n
  induction n with
  | zero =>
    intro i hi
    have e : i = W * H := by omega
    refine ev_cv rfl rfl rfl (e_mcells (A := upA A 29 _) hM) ?_
    rw [← e]
    refine ev_ift rfl rfl rfl (c_ge ((nI_leI (by omega) (by omega)).mpr (by omega))) ?_
    rw [← e] at hout
    exact ev_wk2 hout rfl (by repeat' (first | exact trivial | refine ⟨rfl, ?_⟩))
  | succ n ih =>
    intro i hi
    refine ev_cv rfl rfl rfl (e_mcells (A := upA A 29 _) hM) ?_
    refine ev_iff rfl rfl rfl (d_ge (nI_lt3 (by omega) (by omega) (by omega))) ?_
    repeat (first | refine ev_gos 99 rfl ?_ | refine ev_gf2 rfl rfl rfl rfl ?_ | refine ev_gf2 rfl rfl HH_land rfl ?_ | refine ev_gf2 rfl rfl HH_draft rfl ?_ | refine ev_gf2 rfl rfl (by with_reducible assumption) rfl ?_)
    refine ev_ix i rfl rfl (Int32.zero_add _) (by omega) (by decide) ?_
    rw [upA_at, mapP_at]
    repeat (first | refine ev_gos 99 rfl ?_ | refine ev_gf2 rfl rfl rfl rfl ?_ | refine ev_gf2 rfl rfl HH_land rfl ?_ | refine ev_gf2 rfl rfl HH_draft rfl ?_ | refine ev_gf2 rfl rfl (by with_reducible assumption) rfl ?_)
    have h3 := ih (i + 1) (by omega)
    rw [← nI_1, ← mapP_s] at h3
    refine ev_cs rfl rfl rfl (e_greater sc _ _ _ _) ?_
    refine iw_29 i rfl (Int32.zero_add _) (by omega) ?_
    repeat (first | refine ev_gos 99 rfl ?_ | refine ev_gf2 rfl rfl rfl rfl ?_ | refine ev_gf2 rfl rfl HH_land rfl ?_ | refine ev_gf2 rfl rfl HH_draft rfl ?_ | refine ev_gf2 rfl rfl (by with_reducible assumption) rfl ?_)
    exact h3
theorem b_thaw (h : INV s l A B W H P fi c) : Both sc (d + 12) m_C_thaw 1 m_M_thaw 2 [] w s l A B := by
  obtain ⟨hN, hM, hR, hK, hS, ⟨d1, d2, d3, d4, d5, d6⟩, hX, hI, hT, hF, hO, hB⟩ := id h
  have h49 := hN.n49
  rcases h.w0 with ⟨w1, w2, w3⟩ | ⟨w1, w2, w3⟩
  · refine ⟨-1000000003, HH w s l A B, w, s, l, A, B, ?_, ?_, ⟨W, H, P, fi, c, h⟩⟩
    · repeat (first | refine ev_gos 99 rfl ?_ | refine ev_gf2 rfl rfl rfl rfl ?_ | refine ev_gf2 rfl rfl HH_land rfl ?_ | refine ev_gf2 rfl rfl HH_draft rfl ?_ | refine ev_gf2 rfl rfl (by with_reducible assumption) rfl ?_)
      refine ev_cv rfl rfl rfl (e_hasNorth hN.1 hN.2.2.2.1) ?_
      rw [w3]
      (first | refine ev_ift rfl rfl rfl rfl ?_ | refine ev_iff rfl rfl rfl rfl ?_)
      repeat (first | refine ev_gos 99 rfl ?_ | refine ev_gf2 rfl rfl rfl rfl ?_ | refine ev_gf2 rfl rfl HH_land rfl ?_ | refine ev_gf2 rfl rfl HH_draft rfl ?_ | refine ev_gf2 rfl rfl (by with_reducible assumption) rfl ?_)
      exact ev_ri rfl rfl rfl
    · repeat (first | refine ev_gos 99 rfl ?_ | refine ev_gf2 rfl rfl rfl rfl ?_ | refine ev_gf2 rfl rfl HH_land rfl ?_ | refine ev_gf2 rfl rfl HH_draft rfl ?_ | refine ev_gf2 rfl rfl (by with_reducible assumption) rfl ?_)
      refine ev_ix 0 rfl rfl rfl (by decide) (by decide) ?_
      rw [hM.1]
      refine ev_iff rfl rfl rfl (j_ne w2) ?_
      repeat (first | refine ev_gos 99 rfl ?_ | refine ev_gf2 rfl rfl rfl rfl ?_ | refine ev_gf2 rfl rfl HH_land rfl ?_ | refine ev_gf2 rfl rfl HH_draft rfl ?_ | refine ev_gf2 rfl rfl (by with_reducible assumption) rfl ?_)
      exact ev_ri rfl rfl rfl
  · have hS2 := SP_melt hS h49
    refine ⟨nI (cntS W (W * H) (dnS (mapP mlF (A 10) 49) 3 49)), HH w (remS s fi c) l (upA (remA A s fi c) 10 (mapP mlF (A 10) 49)) B, w, upA (remS s fi c) 23 (nI (rmC c + 1)), l, upA (upA (upA (remA A s fi c) 10 (mapP mlF (A 10) 49)) 32 (pstM (A 32) (A 29) c)) 29 (mapP mlM (A 29) (W * H)), B, ?_, ?_, ⟨W, H, P, rmF fi c, rmC c + 1, hN, hM, hR, hK, hS2, ⟨rfl, rmF_lt d2, rfl, rmC_le d4, rfl, DD_rem hS d2 d4 d6⟩, hX, hI, hT, hF, hO, hB⟩⟩
    · repeat (first | refine ev_gos 99 rfl ?_ | refine ev_gf2 rfl rfl rfl rfl ?_ | refine ev_gf2 rfl rfl HH_land rfl ?_ | refine ev_gf2 rfl rfl HH_draft rfl ?_ | refine ev_gf2 rfl rfl (by with_reducible assumption) rfl ?_)
      refine ev_cv rfl rfl rfl (e_hasNorth hN.1 hN.2.2.2.1) ?_
      rw [w3]
      (first | refine ev_ift rfl rfl rfl rfl ?_ | refine ev_iff rfl rfl rfl rfl ?_)
      repeat (first | refine ev_gos 99 rfl ?_ | refine ev_gf2 rfl rfl rfl rfl ?_ | refine ev_gf2 rfl rfl HH_land rfl ?_ | refine ev_gf2 rfl rfl HH_draft rfl ?_ | refine ev_gf2 rfl rfl (by with_reducible assumption) rfl ?_)
      refine ev_cv rfl rfl rfl (e_remember d1 d2 d3 d4) ?_
      repeat (first | refine ev_gos 99 rfl ?_ | refine ev_gf2 rfl rfl rfl rfl ?_ | refine ev_gf2 rfl rfl HH_land rfl ?_ | refine ev_gf2 rfl rfl HH_draft rfl ?_ | refine ev_gf2 rfl rfl (by with_reducible assumption) rfl ?_)
      refine ev_cv rfl rfl rfl e_melt ?_
      repeat (first | refine ev_gos 99 rfl ?_ | refine ev_gf2 rfl rfl rfl rfl ?_ | refine ev_gf2 rfl rfl HH_land rfl ?_ | refine ev_gf2 rfl rfl HH_draft rfl ?_ | refine ev_gf2 rfl rfl (by with_reducible assumption) rfl ?_)
      refine ev_cv rfl rfl rfl (e_countNow (W := W) (N := W * H) hN.1 hN.2.2.2.2.2.2.2.1 hN.2.2.2.2.2.2.2.2.1 hN.2.2.2.2.2.2.2.2.2.1) ?_
      exact ev_ri rfl rfl rfl
    · repeat (first | refine ev_gos 99 rfl ?_ | refine ev_gf2 rfl rfl rfl rfl ?_ | refine ev_gf2 rfl rfl HH_land rfl ?_ | refine ev_gf2 rfl rfl HH_draft rfl ?_ | refine ev_gf2 rfl rfl (by with_reducible assumption) rfl ?_)
      refine ev_ix 0 rfl rfl rfl (by decide) (by decide) ?_
      refine (?_ : Ek sc _ m_M_thaw 6 _ [.int (A 27 0)] _ _ _ _ _)
      rw [hM.1]
      refine ev_ift rfl rfl rfl (i_ne w2) ?_
      repeat (first | refine ev_gos 99 rfl ?_ | refine ev_gf2 rfl rfl rfl rfl ?_ | refine ev_gf2 rfl rfl HH_land rfl ?_ | refine ev_gf2 rfl rfl HH_draft rfl ?_ | refine ev_gf2 rfl rfl (by with_reducible assumption) rfl ?_)
      refine ev_cv rfl rfl rfl (e_mremember (s := remS s fi c) (c := c) d5 d4) ?_
      repeat (first | refine ev_gos 99 rfl ?_ | refine ev_gf2 rfl rfl rfl rfl ?_ | refine ev_gf2 rfl rfl HH_land rfl ?_ | refine ev_gf2 rfl rfl HH_draft rfl ?_ | refine ev_gf2 rfl rfl (by with_reducible assumption) rfl ?_)
      have q : Ev sc (d + 12) m_M_thaw 54 [some (.ref 26), none] [] (HH w (upA (remS s fi c) 23 (nI (rmC c + 1))) l (upA (upA (upA (remA A s fi c) 10 (mapP mlF (A 10) 49)) 32 (pstM (A 32) (A 29) c)) 29 (mapP mlM (A 29) (W * H))) B) (some (.int (nI (cntS W (W * H) (dnS (mapP mlF (A 10) 49) 3 49))))) (HH w (upA (remS s fi c) 23 (nI (rmC c + 1))) l (upA (upA (upA (remA A s fi c) 10 (mapP mlF (A 10) 49)) 32 (pstM (A 32) (A 29) c)) 29 (mapP mlM (A 29) (W * H))) B) := by
        repeat (first | refine ev_gos 99 rfl ?_ | refine ev_gf2 rfl rfl rfl rfl ?_ | refine ev_gf2 rfl rfl HH_land rfl ?_ | refine ev_gf2 rfl rfl HH_draft rfl ?_ | refine ev_gf2 rfl rfl (by with_reducible assumption) rfl ?_)
        refine ev_cv rfl rfl rfl (e_mcountN (A := upA (upA (upA (remA A s fi c) 10 _) 32 _) 29 _) hM) ?_
        refine (?_ : Ek sc _ m_M_thaw 62 _ [.int (nI (cntS W (W * H) (dnS (mapP mlM (A 29) (W * H)) 3 (W * H))))] _ _ _ _ _)
        exact ev_ri rfl (by rw [cnt_eq hN hS2]) rfl
      have z := e_mthaw_loop (A := upA (upA (remA A s fi c) 10 (mapP mlF (A 10) 49)) 32 (pstM (A 32) (A 29) c)) (rk := l 3) (W := W) (H := H) (P := P) hM (A 29) q (W * H) 0 (Nat.zero_add _)
      rw [mapP_0, show upA (upA (upA (remA A s fi c) 10 (mapP mlF (A 10) 49)) 32 (pstM (A 32) (A 29) c)) 29 (A 29) = upA (upA (remA A s fi c) 10 (mapP mlF (A 10) 49)) 32 (pstM (A 32) (A 29) c) from upA_id _ 29] at z
      exact z
end DEE
