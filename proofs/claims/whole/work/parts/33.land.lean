/-! the class's static methods; Land -/
theorem c49 {k : Nat} (h : k < 49) : k < 2 ^ 31 := by omega
theorem e_has (sc : Scr) (d : Nat) (h : AHp) (x : Int64) {k : Nat} (hk : k < 49) : Ev sc d m_C_has 0 (iniL 3 [.long x, .int (nI k)]) [] h (some (.int (b01 (bs x k)))) h := by
  refine ev_gos 99 rfl ?_
  refine ev_iff rfl rfl rfl (j_lt (nI_pos (c49 hk))) ?_
  refine ev_gos 99 rfl ?_
  refine ev_iff rfl rfl rfl (d_ge (nI_lt3 (c49 hk) (by decide) (by omega) : ¬ nI 49 ≤ nI k)) ?_
  refine ev_gos 99 rfl ?_
  have e := bs_has x (k := k) (by omega)
  cases hb : bs x k with
  | false =>
    rw [hb] at e
    refine ev_ift rfl rfl rfl (i_eq (lc_eq.mpr e)) ?_
    refine ev_gos 99 rfl ?_
    exact ev_rz rfl (Or.inl rfl) rfl rfl
  | true =>
    rw [hb] at e
    refine ev_iff rfl rfl rfl (j_eq (fun z => absurd (e.symm.trans (lc_eq.mp z)) (by decide))) ?_
    refine ev_gos 99 rfl ?_
    exact ev_rz rfl (Or.inr rfl) rfl rfl
theorem e_leastOf (sc : Scr) (d : Nat) (h : AHp) {x : Int64} (hx : ¬ x = 0) : Ev sc (d + 1) m_C_leastOf 0 (iniL 2 [.long x]) [] h (some (.int (nI (lo x)))) h := by
  refine ev_gos 99 rfl ?_
  refine ev_ift rfl rfl rfl (i_ne (fun z => hx (lc_eq.mp z))) ?_
  refine ev_gos 99 rfl ?_
  refine ev_cs rfl rfl rfl (e_bitCountL sc d h ((x &&& -x) - 1)) ?_
  exact ev_ri rfl (by rw [low_num hx]) rfl
abbrev Lnd (xw xh xp tw : Int32) (al le re rk : Int64) (pk ps : Nat) : ACell := oI 1 [.int xw, .int xh, .int xp, .int tw, .long al, .long le, .long re, .long rk, .ref pk, .ref ps]
section LND
variable {sc : Scr} {d p pk ps W N : Nat} {h : AHp} {xw xh xp tw : Int32} {al le re rk : Int64}
theorem e_cells (hL : h[p]? = some (Lnd xw xh xp tw al le re rk pk ps)) : Ev sc d m_L_cells 0 (iniL 1 [.ref p]) [] h (some (.int (xw * xh))) h := by
  repeat (first | refine ev_gos 99 rfl ?_ | refine ev_gf2 rfl rfl rfl rfl ?_ | refine ev_gf2 rfl rfl (by with_reducible assumption) rfl ?_)
  exact ev_ri rfl rfl rfl
theorem e_moved (hL : h[p]? = some (Lnd xw xh xp tw al le re rk pk ps)) (hw : xw = nI W) (ha : al = allS N) (hl : le = lefS W N) (hr : re = rigS W N) (x : Int64) {k : Nat} (h1 : 1 ≤ k) (h4 : k ≤ 4) : Ev sc d m_L_moved 0 (iniL 4 [.ref p, .long x, .int (nI k)]) [] h (some (.long (mvS W N x k))) h := by
  subst hw; subst ha; subst hl; subst hr
  repeat (first | refine ev_gos 99 rfl ?_ | refine ev_gf2 rfl rfl rfl rfl ?_ | refine ev_gf2 rfl rfl (by with_reducible assumption) rfl ?_)
  rcases (show k = 1 ∨ k = 2 ∨ k = 3 ∨ k = 4 by omega) with rfl | rfl | rfl | rfl
  · refine ev_sw rfl rfl (rfl : _ = some 32) ?_
    repeat (first | refine ev_gos 99 rfl ?_ | refine ev_gf2 rfl rfl rfl rfl ?_ | refine ev_gf2 rfl rfl (by with_reducible assumption) rfl ?_)
    exact ev_rl rfl rfl rfl
  · refine ev_sw rfl rfl (rfl : _ = some 45) ?_
    repeat (first | refine ev_gos 99 rfl ?_ | refine ev_gf2 rfl rfl rfl rfl ?_ | refine ev_gf2 rfl rfl (by with_reducible assumption) rfl ?_)
    exact ev_rl rfl rfl rfl
  · refine ev_sw rfl rfl (rfl : _ = some 57) ?_
    repeat (first | refine ev_gos 99 rfl ?_ | refine ev_gf2 rfl rfl rfl rfl ?_ | refine ev_gf2 rfl rfl (by with_reducible assumption) rfl ?_)
    exact ev_rl rfl rfl rfl
  · refine ev_sw rfl rfl (rfl : _ = some 70) ?_
    repeat (first | refine ev_gos 99 rfl ?_ | refine ev_gf2 rfl rfl rfl rfl ?_ | refine ev_gf2 rfl rfl (by with_reducible assumption) rfl ?_)
    exact ev_rl rfl rfl rfl
theorem e_grown (hL : h[p]? = some (Lnd xw xh xp tw al le re rk pk ps)) (hw : xw = nI W) (ha : al = allS N) (hl : le = lefS W N) (hr : re = rigS W N) (x : Int64) : Ev sc (d + 1) m_L_grown 0 (iniL 3 [.ref p, .long x]) [] h (some (.long (grnS W N x))) h := by
  repeat (first | refine ev_gos 99 rfl ?_ | refine ev_gf2 rfl rfl rfl rfl ?_ | refine ev_gf2 rfl rfl (by with_reducible assumption) rfl ?_)
  refine ev_cv rfl rfl hL (e_moved hL hw ha hl hr x (k := 1) (by decide) (by decide)) ?_
  repeat (first | refine ev_gos 99 rfl ?_ | refine ev_gf2 rfl rfl rfl rfl ?_ | refine ev_gf2 rfl rfl (by with_reducible assumption) rfl ?_)
  refine ev_cv rfl rfl hL (e_moved hL hw ha hl hr x (k := 2) (by decide) (by decide)) ?_
  repeat (first | refine ev_gos 99 rfl ?_ | refine ev_gf2 rfl rfl rfl rfl ?_ | refine ev_gf2 rfl rfl (by with_reducible assumption) rfl ?_)
  refine ev_cv rfl rfl hL (e_moved hL hw ha hl hr x (k := 3) (by decide) (by decide)) ?_
  repeat (first | refine ev_gos 99 rfl ?_ | refine ev_gf2 rfl rfl rfl rfl ?_ | refine ev_gf2 rfl rfl (by with_reducible assumption) rfl ?_)
  refine ev_cv rfl rfl hL (e_moved hL hw ha hl hr x (k := 4) (by decide) (by decide)) ?_
  repeat (first | refine ev_gos 99 rfl ?_ | refine ev_gf2 rfl rfl rfl rfl ?_ | refine ev_gf2 rfl rfl (by with_reducible assumption) rfl ?_)
  exact ev_rl rfl rfl rfl
theorem e_groupOf_loop (hL : h[p]? = some (Lnd xw xh xp tw al le re rk pk ps)) (hw : xw = nI W) (ha : al = allS N) (hl : le = lefS W N) (hr : re = rigS W N) (X st : Int64) : ∀ (n i : Nat) (g : Int64), i + n = 49 → Ev sc (d + 2) m_L_groupOf 12 [some (.ref p), some (.long st), none, some (.long X), none, some (.long g), none, some (.int (nI i)), none, none] [.int 49, .int (nI i)] h (some (.long (itG W N X n g))) h := by
  intro n
  induction n with
  | zero =>
    intro i g hi
    have e : i = 49 := by omega
    subst e
    refine ev_ift rfl rfl rfl (c_ge (by decide : (49 : Int32) ≤ nI 49)) ?_
    repeat (first | refine ev_gos 99 rfl ?_ | refine ev_gf2 rfl rfl rfl rfl ?_ | refine ev_gf2 rfl rfl (by with_reducible assumption) rfl ?_)
    exact ev_rl rfl rfl rfl
  | succ n ih =>
    intro i g hi
    refine ev_iff rfl rfl rfl (d_ge (nI_lt3 (c49 (by omega)) (by decide) (by omega) : ¬ nI 49 ≤ nI i)) ?_
    repeat (first | refine ev_gos 99 rfl ?_ | refine ev_gf2 rfl rfl rfl rfl ?_ | refine ev_gf2 rfl rfl (by with_reducible assumption) rfl ?_)
    refine ev_cv rfl rfl hL (e_grown hL hw ha hl hr g) ?_
    repeat (first | refine ev_gos 99 rfl ?_ | refine ev_gf2 rfl rfl rfl rfl ?_ | refine ev_gf2 rfl rfl (by with_reducible assumption) rfl ?_)
    by_cases hf : stG W N X g = g
    · refine ev_iff rfl rfl rfl (j_ne (lc_eq.mpr hf)) ?_
      repeat (first | refine ev_gos 99 rfl ?_ | refine ev_gf2 rfl rfl rfl rfl ?_ | refine ev_gf2 rfl rfl (by with_reducible assumption) rfl ?_)
      exact ev_rl rfl (itG_fix hf (n + 1)).symm rfl
    · refine ev_ift rfl rfl rfl (i_ne (fun z => hf (lc_eq.mp z))) ?_
      repeat (first | refine ev_gos 99 rfl ?_ | refine ev_gf2 rfl rfl rfl rfl ?_ | refine ev_gf2 rfl rfl (by with_reducible assumption) rfl ?_)
      have h3 := ih (i + 1) (stG W N X g) (by omega)
      rw [← nI_1] at h3
      exact ev_wk2 h3 rfl ⟨rfl, rfl, rfl, rfl, rfl, trivial⟩
theorem e_groupOf (hL : h[p]? = some (Lnd xw xh xp tw al le re rk pk ps)) (hw : xw = nI W) (ha : al = allS N) (hl : le = lefS W N) (hr : re = rigS W N) (X st : Int64) : Ev sc (d + 2) m_L_groupOf 0 (iniL 10 [.ref p, .long st, .long X]) [] h (some (.long (grpS W N X st))) h := by
  repeat (first | refine ev_gos 99 rfl ?_ | refine ev_gf2 rfl rfl rfl rfl ?_ | refine ev_gf2 rfl rfl (by with_reducible assumption) rfl ?_)
  exact e_groupOf_loop hL hw ha hl hr X st 49 0 (st &&& X) rfl
theorem e_firstGroup (hL : h[p]? = some (Lnd xw xh xp tw al le re rk pk ps)) (hw : xw = nI W) (ha : al = allS N) (hl : le = lefS W N) (hr : re = rigS W N) (X : Int64) : Ev sc (d + 3) m_L_firstGroup 0 (iniL 3 [.ref p, .long X]) [] h (some (.long (fgS W N X))) h := by
  repeat (first | refine ev_gos 99 rfl ?_ | refine ev_gf2 rfl rfl rfl rfl ?_ | refine ev_gf2 rfl rfl (by with_reducible assumption) rfl ?_)
  refine ev_cv rfl rfl hL (e_groupOf hL hw ha hl hr X (X &&& -X)) ?_
  repeat (first | refine ev_gos 99 rfl ?_ | refine ev_gf2 rfl rfl rfl rfl ?_ | refine ev_gf2 rfl rfl (by with_reducible assumption) rfl ?_)
  exact ev_rl rfl rfl rfl
end LND
