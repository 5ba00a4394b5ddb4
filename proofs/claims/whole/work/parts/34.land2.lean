/-! Land: over the groups -/
section LND2
variable {sc : Scr} {d p pk ps W N : Nat} {h : AHp} {xw xh xp tw : Int32} {al le re rk : Int64} {sh : Nat → Int64}
theorem e_countedAs {n : Nat} (hn : n < 2 ^ 31) : Ev sc d m_L_countedAs 0 (iniL 2 [.ref p, .int (nI n)]) [] h (some (.int (nI (cntd n)))) h := by
  refine ev_gos 99 rfl ?_
  unfold cntd
  by_cases h1 : n < 3
  · refine ev_iff rfl rfl rfl (d_gt (nI_nlt (a := 2) (b := n) (by omega) (by decide) : ¬ nI 2 < nI n)) ?_
    refine ev_gos 99 rfl ?_
    exact ev_ri rfl (by rw [if_pos h1]) rfl
  · refine ev_ift rfl rfl rfl (c_gt ((nI_ltI (by decide) hn).mpr (by omega) : nI 2 < nI n)) ?_
    refine ev_gos 99 rfl ?_
    by_cases h2 : n < 5
    · refine ev_iff rfl rfl rfl (d_gt (fun z => absurd ((nI_ltI (a := 4) (by decide) hn).mp z) (by omega) : ¬ nI 4 < nI n)) ?_
      refine ev_gos 99 rfl ?_
      exact ev_ri rfl (by rw [if_neg h1, if_pos h2]; rfl) rfl
    · refine ev_ift rfl rfl rfl (c_gt ((nI_ltI (by decide) hn).mpr (by omega) : nI 4 < nI n)) ?_
      refine ev_gos 99 rfl ?_
      refine ev_ri rfl ?_ rfl
      rw [if_neg h1, if_neg h2]
      show nI n / nI 3 + 1 = _
      rw [pk_div hn (by decide) (by decide), nI_1]
theorem e_groupsIn_loop (hL : h[p]? = some (Lnd xw xh xp tw al le re rk pk ps)) (hw : xw = nI W) (ha : al = allS N) (hl : le = lefS W N) (hr : re = rigS W N) (X0 : Int64) : ∀ (n i : Nat) (X : Int64), i + n = 49 → Ev sc (d + 4) m_L_groupsIn 9 [some (.ref p), some (.long X0), none, some (.long X), none, some (.int (nI i))] [.int 49, .int (nI i)] h (some (.int (nI (gfd W N (fun a _ => a + 1) n X i)))) h := by
  intro n
  induction n with
  | zero =>
    intro i X hi
    have e : i = 49 := by omega
    subst e
    refine ev_ift rfl rfl rfl (c_ge (by decide : (49 : Int32) ≤ nI 49)) ?_
    repeat (first | refine ev_gos 99 rfl ?_ | refine ev_gf2 rfl rfl rfl rfl ?_ | refine ev_gf2 rfl rfl (by with_reducible assumption) rfl ?_)
    exact ev_ri rfl rfl rfl
  | succ n ih =>
    intro i X hi
    refine ev_iff rfl rfl rfl (d_ge (nI_lt3 (c49 (by omega)) (by decide) (by omega) : ¬ nI 49 ≤ nI i)) ?_
    repeat (first | refine ev_gos 99 rfl ?_ | refine ev_gf2 rfl rfl rfl rfl ?_ | refine ev_gf2 rfl rfl (by with_reducible assumption) rfl ?_)
    by_cases hX : X = 0
    · subst hX
      refine ev_ift rfl rfl rfl (i_eq (lc_eq.mpr rfl)) ?_
      repeat (first | refine ev_gos 99 rfl ?_ | refine ev_gf2 rfl rfl rfl rfl ?_ | refine ev_gf2 rfl rfl (by with_reducible assumption) rfl ?_)
      exact ev_ri rfl (by rw [gfd_0]) rfl
    · refine ev_iff rfl rfl rfl (j_eq (fun z => hX (lc_eq.mp z))) ?_
      repeat (first | refine ev_gos 99 rfl ?_ | refine ev_gf2 rfl rfl rfl rfl ?_ | refine ev_gf2 rfl rfl (by with_reducible assumption) rfl ?_)
      refine ev_cv rfl rfl hL (e_firstGroup hL hw ha hl hr X) ?_
      repeat (first | refine ev_gos 99 rfl ?_ | refine ev_gf2 rfl rfl rfl rfl ?_ | refine ev_gf2 rfl rfl (by with_reducible assumption) rfl ?_)
      rw [gfd_s hX]
      have h3 := ih (i + 1) (X &&& (fgS W N X ^^^ (-1))) (by omega)
      rw [← nI_1] at h3
      exact h3
theorem e_groupsIn (hL : h[p]? = some (Lnd xw xh xp tw al le re rk pk ps)) (hw : xw = nI W) (ha : al = allS N) (hl : le = lefS W N) (hr : re = rigS W N) (X : Int64) : Ev sc (d + 4) m_L_groupsIn 0 (iniL 6 [.ref p, .long X]) [] h (some (.int (nI (grpN W N X)))) h := by
  repeat (first | refine ev_gos 99 rfl ?_ | refine ev_gf2 rfl rfl rfl rfl ?_ | refine ev_gf2 rfl rfl (by with_reducible assumption) rfl ?_)
  exact e_groupsIn_loop hL hw ha hl hr X 49 0 X rfl
theorem e_countOf_loop (hL : h[p]? = some (Lnd xw xh xp tw al le re rk pk ps)) (hw : xw = nI W) (ha : al = allS N) (hl : le = lefS W N) (hr : re = rigS W N) (X0 : Int64) : ∀ (n i a : Nat) (X : Int64), i + n = 49 → Ev sc (d + 4) m_L_countOf 12 [some (.ref p), some (.long X0), none, some (.long X), none, some (.int (nI a)), some (.int (nI i)), none, none] [.int 49, .int (nI i)] h (some (.int (nI (gfd W N (fun a g => a + cntd (pop g)) n X a)))) h := by
  intro n
  induction n with
  | zero =>
    intro i a X hi
    have e : i = 49 := by omega
    subst e
    refine ev_ift rfl rfl rfl (c_ge (by decide : (49 : Int32) ≤ nI 49)) ?_
    repeat (first | refine ev_gos 99 rfl ?_ | refine ev_gf2 rfl rfl rfl rfl ?_ | refine ev_gf2 rfl rfl (by with_reducible assumption) rfl ?_)
    exact ev_ri rfl rfl rfl
  | succ n ih =>
    intro i a X hi
    refine ev_iff rfl rfl rfl (d_ge (nI_lt3 (c49 (by omega)) (by decide) (by omega) : ¬ nI 49 ≤ nI i)) ?_
    repeat (first | refine ev_gos 99 rfl ?_ | refine ev_gf2 rfl rfl rfl rfl ?_ | refine ev_gf2 rfl rfl (by with_reducible assumption) rfl ?_)
    by_cases hX : X = 0
    · subst hX
      refine ev_ift rfl rfl rfl (i_eq (lc_eq.mpr rfl)) ?_
      repeat (first | refine ev_gos 99 rfl ?_ | refine ev_gf2 rfl rfl rfl rfl ?_ | refine ev_gf2 rfl rfl (by with_reducible assumption) rfl ?_)
      exact ev_ri rfl (by rw [gfd_0]) rfl
    · refine ev_iff rfl rfl rfl (j_eq (fun z => hX (lc_eq.mp z))) ?_
      repeat (first | refine ev_gos 99 rfl ?_ | refine ev_gf2 rfl rfl rfl rfl ?_ | refine ev_gf2 rfl rfl (by with_reducible assumption) rfl ?_)
      refine ev_cv rfl rfl hL (e_firstGroup hL hw ha hl hr X) ?_
      repeat (first | refine ev_gos 99 rfl ?_ | refine ev_gf2 rfl rfl rfl rfl ?_ | refine ev_gf2 rfl rfl (by with_reducible assumption) rfl ?_)
      refine ev_cs rfl rfl rfl (e_bitCountL sc _ h _) ?_
      refine ev_cv rfl rfl hL (e_countedAs (n := pop (fgS W N X)) (by have := pop_le (fgS W N X); omega)) ?_
      repeat (first | refine ev_gos 99 rfl ?_ | refine ev_gf2 rfl rfl rfl rfl ?_ | refine ev_gf2 rfl rfl (by with_reducible assumption) rfl ?_)
      rw [gfd_s hX]
      have h3 := ih (i + 1) (a + cntd (pop (fgS W N X))) (X &&& (fgS W N X ^^^ (-1))) (by omega)
      rw [← nI_1, ← nI_add] at h3
      exact ev_wk2 h3 rfl ⟨rfl, rfl, rfl, rfl, rfl, trivial⟩
theorem e_countOf (hL : h[p]? = some (Lnd xw xh xp tw al le re rk pk ps)) (hw : xw = nI W) (ha : al = allS N) (hl : le = lefS W N) (hr : re = rigS W N) (X : Int64) : Ev sc (d + 4) m_L_countOf 0 (iniL 9 [.ref p, .long X]) [] h (some (.int (nI (cntS W N X)))) h := by
  repeat (first | refine ev_gos 99 rfl ?_ | refine ev_gf2 rfl rfl rfl rfl ?_ | refine ev_gf2 rfl rfl (by with_reducible assumption) rfl ?_)
  exact e_countOf_loop hL hw ha hl hr X 49 0 0 X rfl
theorem e_isShape_loop (hL : h[p]? = some (Lnd xw xh xp tw al le re rk pk ps)) (hs : h[ps]? = some (aJ 245 sh)) (g : Int64) : ∀ (n i : Nat), i + n = 245 → (∀ j, j < i → ¬ sh j = g) → Ev sc d m_L_isShape 7 [some (.ref p), some (.long g), none, some (.int (nI i))] [.ref ps, .int (nI i)] h (some (.int (b01 (isSh sh g)))) h := by
  intro n
  induction n with
  | zero =>
    intro i hi hj
    have e : i = 245 := by omega
    subst e
    refine ev_len rfl (Or.inr (rd_of hs)) ?_
    refine ev_ift rfl rfl rfl (c_ge (by decide : Int32.ofNat 245 ≤ nI 245)) ?_
    repeat (first | refine ev_gos 99 rfl ?_ | refine ev_gf2 rfl rfl rfl rfl ?_ | refine ev_gf2 rfl rfl (by with_reducible assumption) rfl ?_)
    refine ev_rz rfl (Or.inl rfl) ?_ rfl
    unfold isSh
    rw [anyF_false (fun j hj2 => decide_eq_false (hj j hj2))]
    rfl
  | succ n ih =>
    intro i hi hj
    refine ev_len rfl (Or.inr (rd_of hs)) ?_
    refine ev_iff rfl rfl rfl (d_ge (nI_lt3 (by omega) (by decide) (by omega) : ¬ nI 245 ≤ nI i)) ?_
    repeat (first | refine ev_gos 99 rfl ?_ | refine ev_gf2 rfl rfl rfl rfl ?_ | refine ev_gf2 rfl rfl (by with_reducible assumption) rfl ?_)
    refine ev_la rfl hs (inB_of (by rw [nI_toInt (by omega)]; omega) (by rw [nI_toInt (by omega)]; omega)) ?_
    rw [nI_clamp (by omega)]
    repeat (first | refine ev_gos 99 rfl ?_ | refine ev_gf2 rfl rfl rfl rfl ?_ | refine ev_gf2 rfl rfl (by with_reducible assumption) rfl ?_)
    by_cases e : sh i = g
    · refine ev_iff rfl rfl rfl (j_ne (lc_eq.mpr e)) ?_
      repeat (first | refine ev_gos 99 rfl ?_ | refine ev_gf2 rfl rfl rfl rfl ?_ | refine ev_gf2 rfl rfl (by with_reducible assumption) rfl ?_)
      refine ev_rz rfl (Or.inr rfl) ?_ rfl
      unfold isSh
      rw [anyF_iff.mpr ⟨i, by omega, decide_eq_true e⟩]
      rfl
    · refine ev_ift rfl rfl rfl (i_ne (fun z => e (lc_eq.mp z))) ?_
      repeat (first | refine ev_gos 99 rfl ?_ | refine ev_gf2 rfl rfl rfl rfl ?_ | refine ev_gf2 rfl rfl (by with_reducible assumption) rfl ?_)
      have h3 := ih (i + 1) (by omega) (fun j hj2 => by
        by_cases e2 : j = i
        · subst e2; exact e
        · exact hj j (by omega))
      rw [← nI_1] at h3
      exact h3
theorem e_isShape (hL : h[p]? = some (Lnd xw xh xp tw al le re rk pk ps)) (hs : h[ps]? = some (aJ 245 sh)) (g : Int64) : Ev sc d m_L_isShape 0 (iniL 4 [.ref p, .long g]) [] h (some (.int (b01 (isSh sh g)))) h := by
  repeat (first | refine ev_gos 99 rfl ?_ | refine ev_gf2 rfl rfl rfl rfl ?_ | refine ev_gf2 rfl rfl (by with_reducible assumption) rfl ?_)
  exact e_isShape_loop hL hs g 245 0 rfl (fun j hj => by omega)
theorem e_forgedIn_loop (hL : h[p]? = some (Lnd xw xh xp tw al le re rk pk ps)) (hs : h[ps]? = some (aJ 245 sh)) (hw : xw = nI W) (ha : al = allS N) (hl : le = lefS W N) (hr : re = rigS W N) (X0 : Int64) : ∀ (n i a : Nat) (X : Int64), i + n = 49 → Ev sc (d + 4) m_L_forgedIn 12 [some (.ref p), some (.long X0), none, some (.long X), none, some (.int (nI a)), some (.int (nI i)), none, none] [.int 49, .int (nI i)] h (some (.int (nI (gfd W N (fun a g => a + (bif isSh sh g then 0 else 1)) n X a)))) h := by
  intro n
  induction n with
  | zero =>
    intro i a X hi
    have e : i = 49 := by omega
    subst e
    refine ev_ift rfl rfl rfl (c_ge (by decide : (49 : Int32) ≤ nI 49)) ?_
    repeat (first | refine ev_gos 99 rfl ?_ | refine ev_gf2 rfl rfl rfl rfl ?_ | refine ev_gf2 rfl rfl (by with_reducible assumption) rfl ?_)
    exact ev_ri rfl rfl rfl
  | succ n ih =>
    intro i a X hi
    refine ev_iff rfl rfl rfl (d_ge (nI_lt3 (c49 (by omega)) (by decide) (by omega) : ¬ nI 49 ≤ nI i)) ?_
    repeat (first | refine ev_gos 99 rfl ?_ | refine ev_gf2 rfl rfl rfl rfl ?_ | refine ev_gf2 rfl rfl (by with_reducible assumption) rfl ?_)
    by_cases hX : X = 0
    · subst hX
      refine ev_ift rfl rfl rfl (i_eq (lc_eq.mpr rfl)) ?_
      repeat (first | refine ev_gos 99 rfl ?_ | refine ev_gf2 rfl rfl rfl rfl ?_ | refine ev_gf2 rfl rfl (by with_reducible assumption) rfl ?_)
      exact ev_ri rfl (by rw [gfd_0]) rfl
    · refine ev_iff rfl rfl rfl (j_eq (fun z => hX (lc_eq.mp z))) ?_
      repeat (first | refine ev_gos 99 rfl ?_ | refine ev_gf2 rfl rfl rfl rfl ?_ | refine ev_gf2 rfl rfl (by with_reducible assumption) rfl ?_)
      refine ev_cv rfl rfl hL (e_firstGroup hL hw ha hl hr X) ?_
      repeat (first | refine ev_gos 99 rfl ?_ | refine ev_gf2 rfl rfl rfl rfl ?_ | refine ev_gf2 rfl rfl (by with_reducible assumption) rfl ?_)
      refine ev_cv rfl rfl hL (e_isShape hL hs _) ?_
      rw [gfd_s hX]
      cases hS : isSh sh (fgS W N X) with
      | true =>
        refine ev_ift rfl rfl rfl rfl ?_
        repeat (first | refine ev_gos 99 rfl ?_ | refine ev_gf2 rfl rfl rfl rfl ?_ | refine ev_gf2 rfl rfl (by with_reducible assumption) rfl ?_)
        have h3 := ih (i + 1) a (X &&& (fgS W N X ^^^ (-1))) (by omega)
        rw [← nI_1] at h3
        exact ev_wk2 h3 rfl ⟨rfl, rfl, rfl, rfl, rfl, trivial⟩
      | false =>
        refine ev_iff rfl rfl rfl rfl ?_
        repeat (first | refine ev_gos 99 rfl ?_ | refine ev_gf2 rfl rfl rfl rfl ?_ | refine ev_gf2 rfl rfl (by with_reducible assumption) rfl ?_)
        have h3 := ih (i + 1) (a + 1) (X &&& (fgS W N X ^^^ (-1))) (by omega)
        rw [← nI_1, ← nI_1] at h3
        exact ev_wk2 h3 rfl ⟨rfl, rfl, rfl, rfl, rfl, trivial⟩
theorem e_forgedIn (hL : h[p]? = some (Lnd xw xh xp tw al le re rk pk ps)) (hs : h[ps]? = some (aJ 245 sh)) (hw : xw = nI W) (ha : al = allS N) (hl : le = lefS W N) (hr : re = rigS W N) (X : Int64) : Ev sc (d + 4) m_L_forgedIn 0 (iniL 9 [.ref p, .long X]) [] h (some (.int (nI (frgS W N sh X)))) h := by
  repeat (first | refine ev_gos 99 rfl ?_ | refine ev_gf2 rfl rfl rfl rfl ?_ | refine ev_gf2 rfl rfl (by with_reducible assumption) rfl ?_)
  exact e_forgedIn_loop hL hs hw ha hl hr X 49 0 0 X rfl
theorem e_greatestIn_loop (hL : h[p]? = some (Lnd xw xh xp tw al le re rk pk ps)) (hw : xw = nI W) (ha : al = allS N) (hl : le = lefS W N) (hr : re = rigS W N) (hne : ∀ X : Int64, ¬ X = 0 → ¬ fgS W N X = 0) (X0 : Int64) : ∀ (n i : Nat) (a : Int32 × Nat) (X : Int64), i + n = 49 → a.2 ≤ 64 → Ev sc (d + 4) m_L_greatestIn 15 [some (.ref p), some (.long X0), none, some (.long X), none, some (.int a.1), some (.int (nI a.2)), some (.int (nI i)), none, none] [.int 49, .int (nI i)] h (some (.int (gfd W N bigF n X a).1)) h := by
  intro n
  induction n with
  | zero =>
    intro i a X hi _
    have e : i = 49 := by omega
    subst e
    refine ev_ift rfl rfl rfl (c_ge (by decide : (49 : Int32) ≤ nI 49)) ?_
    repeat (first | refine ev_gos 99 rfl ?_ | refine ev_gf2 rfl rfl rfl rfl ?_ | refine ev_gf2 rfl rfl (by with_reducible assumption) rfl ?_)
    exact ev_ri rfl rfl rfl
  | succ n ih =>
    intro i a X hi ha2
    refine ev_iff rfl rfl rfl (d_ge (nI_lt3 (c49 (by omega)) (by decide) (by omega) : ¬ nI 49 ≤ nI i)) ?_
    repeat (first | refine ev_gos 99 rfl ?_ | refine ev_gf2 rfl rfl rfl rfl ?_ | refine ev_gf2 rfl rfl (by with_reducible assumption) rfl ?_)
    by_cases hX : X = 0
    · subst hX
      refine ev_ift rfl rfl rfl (i_eq (lc_eq.mpr rfl)) ?_
      repeat (first | refine ev_gos 99 rfl ?_ | refine ev_gf2 rfl rfl rfl rfl ?_ | refine ev_gf2 rfl rfl (by with_reducible assumption) rfl ?_)
      exact ev_ri rfl (by rw [gfd_0]) rfl
    · refine ev_iff rfl rfl rfl (j_eq (fun z => hX (lc_eq.mp z))) ?_
      repeat (first | refine ev_gos 99 rfl ?_ | refine ev_gf2 rfl rfl rfl rfl ?_ | refine ev_gf2 rfl rfl (by with_reducible assumption) rfl ?_)
      refine ev_cv rfl rfl hL (e_firstGroup hL hw ha hl hr X) ?_
      repeat (first | refine ev_gos 99 rfl ?_ | refine ev_gf2 rfl rfl rfl rfl ?_ | refine ev_gf2 rfl rfl (by with_reducible assumption) rfl ?_)
      refine ev_cs rfl rfl rfl (e_bitCountL sc _ h _) ?_
      repeat (first | refine ev_gos 99 rfl ?_ | refine ev_gf2 rfl rfl rfl rfl ?_ | refine ev_gf2 rfl rfl (by with_reducible assumption) rfl ?_)
      rw [gfd_s hX]
      have hp := pop_le (fgS W N X)
      unfold bigF
      by_cases hb : a.2 < pop (fgS W N X)
      · rw [if_pos hb]
        refine ev_iff rfl rfl rfl (d_le (nI_lt3 (by omega) (by omega) (by omega))) ?_
        repeat (first | refine ev_gos 99 rfl ?_ | refine ev_gf2 rfl rfl rfl rfl ?_ | refine ev_gf2 rfl rfl (by with_reducible assumption) rfl ?_)
        refine ev_cs rfl rfl rfl (e_leastOf sc _ h (hne X hX)) ?_
        repeat (first | refine ev_gos 99 rfl ?_ | refine ev_gf2 rfl rfl rfl rfl ?_ | refine ev_gf2 rfl rfl (by with_reducible assumption) rfl ?_)
        refine ev_cs rfl rfl rfl (e_bitCountL sc _ h _) ?_
        repeat (first | refine ev_gos 99 rfl ?_ | refine ev_gf2 rfl rfl rfl rfl ?_ | refine ev_gf2 rfl rfl (by with_reducible assumption) rfl ?_)
        have h3 := ih (i + 1) (nI (lo (fgS W N X)), pop (fgS W N X)) (X &&& (fgS W N X ^^^ (-1))) (by omega) hp
        rw [← nI_1] at h3
        exact ev_wk2 h3 rfl ⟨rfl, rfl, rfl, rfl, rfl, rfl, trivial⟩
      · rw [if_neg hb]
        refine ev_ift rfl rfl rfl (c_le ((nI_leI (by omega) (by omega)).mpr (by omega))) ?_
        repeat (first | refine ev_gos 99 rfl ?_ | refine ev_gf2 rfl rfl rfl rfl ?_ | refine ev_gf2 rfl rfl (by with_reducible assumption) rfl ?_)
        have h3 := ih (i + 1) a (X &&& (fgS W N X ^^^ (-1))) (by omega) ha2
        rw [← nI_1] at h3
        exact ev_wk2 h3 rfl ⟨rfl, rfl, rfl, rfl, rfl, rfl, trivial⟩
theorem e_greatestIn (hL : h[p]? = some (Lnd xw xh xp tw al le re rk pk ps)) (hw : xw = nI W) (ha : al = allS N) (hl : le = lefS W N) (hr : re = rigS W N) (hne : ∀ X : Int64, ¬ X = 0 → ¬ fgS W N X = 0) (X : Int64) : Ev sc (d + 4) m_L_greatestIn 0 (iniL 10 [.ref p, .long X]) [] h (some (.int (bigS W N X))) h := by
  repeat (first | refine ev_gos 99 rfl ?_ | refine ev_gf2 rfl rfl rfl rfl ?_ | refine ev_gf2 rfl rfl (by with_reducible assumption) rfl ?_)
  exact e_greatestIn_loop hL hw ha hl hr hne X 49 0 (-1, 0) X rfl (by decide)
end LND2
