/-! the model: draws, refusals, a new north -/
theorem ev_lre {sc : Scr} {d M pc nx a b : Nat} {v : Value} {L : Lcs} {S : Stk} {h h' : AHp} {r : Option Value} {c n : Nat} {x y : Int64} (hc : cAt M pc = some (.lrem, nx, a, b, v)) (hy : ¬ y = 0) (k : Ek sc d M nx L (.long (x - x / y * y) :: S) h r h' c n) : Ek sc d M pc L (.long y :: .long x :: S) h r h' c n := by
  refine ev_stp (pc' := nx) (L' := L) (S' := .long (x - x / y * y) :: S) ?_ k
  unfold stp
  simp only [hc]
  show aluS nx L (llD (fun x y => x - x / y * y) (.long y :: .long x :: S)) = _
  unfold llD
  have hb : (y == 0) = false := beq_eq_false_iff_ne.mpr hy
  simp only [hb]
  rfl
def SD (x : Int32) : Prop := ∃ t, t < 2 ^ 31 ∧ x = nI t
theorem SD_dS (x : Int32) : SD (dS x) := dS_nI x
theorem mulAnd (t m c : Nat) : (nI t * nI m + nI c) &&& 2147483647 = nI ((t * m + c) % 2147483648) := by
  rw [pk_mul, nI_add, pk_and _ (m := 2147483647) 31 (by decide)]
  generalize t * m + c = a
  have e : (nI a).toBitVec.toNat % 2 ^ 31 = a % 2147483648 := by
    show (BitVec.ofNat 32 a).toNat % 2 ^ 31 = _
    rw [BitVec.toNat_ofNat]
    omega
  rw [e]
theorem dS_eq (t : Nat) : dS (nI t) = nI ((t * 1103515245 + 12345) % 2147483648) := mulAnd t 1103515245 12345
def hapM (W H P : Nat) (rk : Int64) (g : Nat → Int32) (x : Int32) (f : Nat → Int32) : Int32 × (Nat → Int32) :=
  if drN x 8 = 0 then (if P = 0 then (dS x, f) else
    bif mayB W H rk f (kdM g (drN (dS x) P)).toNatClampNeg (drN (dS (dS x)) (W * H)) then (dS (dS (dS x)), mapP (prF (shpM W H (kdM g (drN (dS x) P)).toNatClampNeg (drN (dS (dS x)) (W * H)))) (upd f (49 + drN (dS x) P) (nI (drN (dS (dS x)) (W * H)))) (W * H)) else (dS (dS (dS x)), f))
  else if drN x 8 = 1 then (bif bs rk (drN (dS x) (W * H)) then (dS (dS x), f) else (dS (dS x), upd f (drN (dS x) (W * H)) (rnM (f (drN (dS x) (W * H))))))
  else if drN x 8 = 2 then (dS x, mapP snM f (W * H))
  else if drN x 8 = 3 then (dS (dS x), upd f 57 (nI (drN (dS x) 5)))
  else (dS x, f)
def bgF (g : Nat → Int32) (_ : Nat → Int32) : Nat → Int32 := fun j => if j = 57 then g 4 else if 49 ≤ j ∧ j ≤ 55 then -1 else 0
section MDR
variable {sc : Scr} {d : Nat} {w : Bool} {s : Nat → Int32} {l : Nat → Int64} {A : Nat → Nat → Int32} {B : Nat → Nat → Int64} {W H P : Nat} {rk : Int64}
theorem e_mdraw {x : Int32} (hx : SD x) (hl : l 8 = x.toInt64) {m : Nat} (h1 : 1 ≤ m) (h2 : m < 2 ^ 31) : Ev sc d m_M_draw 0 (iniL 2 [.ref 26, .int (nI m)]) [] (HH w s l A B) (some (.int (nI (drN x m)))) (HH w s (upA l 8 (dS x).toInt64) A B) := by
  obtain ⟨t, t1, rfl⟩ := hx
  rw [nI_l t1] at hl
  unfold drN
  have hT : (t * 1103515245 + 12345) % 2147483648 < 2147483648 := Nat.mod_lt _ (by decide)
  rw [dS_eq t, nI_l (by omega), nI_clamp (by omega)]
  have e : l 8 * 1103515245 + 12345 - (l 8 * 1103515245 + 12345) / 2147483648 * 2147483648 = lN ((t * 1103515245 + 12345) % 2147483648) := by
    rw [hl, show (1103515245 : Int64) = lN 1103515245 from rfl, show (12345 : Int64) = lN 12345 from rfl, show (2147483648 : Int64) = lN 2147483648 from rfl, lN_mul, lN_add]
    exact pk_lRem (by omega) (by decide) (by decide)
  repeat (first | refine ev_gos 99 rfl ?_ | refine ev_gf2 rfl rfl rfl rfl ?_ | refine ev_gf2 rfl rfl HH_land rfl ?_ | refine ev_gf2 rfl rfl HH_draft rfl ?_ | refine ev_gf2 rfl rfl (by with_reducible assumption) rfl ?_)
  refine pf_M_l8 rfl ?_
  refine (?_ : Ek sc d m_M_draw 20 _ _ (HH w s (upA l 8 (l 8 * 1103515245 + 12345 - (l 8 * 1103515245 + 12345) / 2147483648 * 2147483648)) A B) _ _ _ _)
  rw [e]
  generalize (t * 1103515245 + 12345) % 2147483648 = T at hT ⊢
  repeat (first | refine ev_gos 99 rfl ?_ | refine ev_gf2 rfl rfl rfl rfl ?_ | refine ev_gf2 rfl rfl HH_land rfl ?_ | refine ev_gf2 rfl rfl HH_draft rfl ?_ | refine ev_gf2 rfl rfl (by with_reducible assumption) rfl ?_)
  refine ev_gos 4 rfl ?_
  refine ev_lre rfl (fun z => by
    rw [nI_l h2] at z
    have := (pk_lEQ (a := m) (b := 0) (by omega) (by decide)).mp z
    omega) ?_
  repeat (first | refine ev_gos 99 rfl ?_ | refine ev_gf2 rfl rfl rfl rfl ?_ | refine ev_gf2 rfl rfl HH_land rfl ?_ | refine ev_gf2 rfl rfl HH_draft rfl ?_ | refine ev_gf2 rfl rfl (by with_reducible assumption) rfl ?_)
  refine ev_ri rfl ?_ rfl
  show (lN T / lN 65536 - lN T / lN 65536 / (nI m).toInt64 * (nI m).toInt64).toInt32 = _
  rw [nI_l h2, pk_lDiv (by omega) (by decide) (by decide), pk_lRem (by omega) h1 (by omega), lN_i]
theorem e_mdr_lie (hM : MN (A 27) rk W H P) (h0 : 0 < W * H) (p0 : 0 < P) {y : Int32} (hy : SD y) (hl : l 8 = y.toInt64) : Ev sc (d + 4) m_M_draws 8 [some (.ref 26), some (.int 0), none, none] [.int 0] (HH w s l A B) none (bif mayB W H rk (A 29) (kdM (A 27) (drN y P)).toNatClampNeg (drN (dS y) (W * H)) then HH w s (upA l 8 (dS (dS y)).toInt64) (upA A 29 (mapP (prF (shpM W H (kdM (A 27) (drN y P)).toNatClampNeg (drN (dS y) (W * H)))) (upd (A 29) (49 + drN y P) (nI (drN (dS y) (W * H)))) (W * H))) B else HH w s (upA l 8 (dS (dS y)).toInt64) A B) := by
  have h49 := hM.n49
  have hP7 : P ≤ 7 := hM.2.2.2.2.2.1
  (first | refine ev_ift rfl rfl rfl rfl ?_ | refine ev_iff rfl rfl rfl rfl ?_)
  repeat (first | refine ev_gos 99 rfl ?_ | refine ev_gf2 rfl rfl rfl rfl ?_ | refine ev_gf2 rfl rfl HH_land rfl ?_ | refine ev_gf2 rfl rfl HH_draft rfl ?_ | refine ev_gf2 rfl rfl (by with_reducible assumption) rfl ?_)
  refine ev_ix 2 rfl rfl rfl (by decide) (by decide) ?_
  rw [hM.2.2.1]
  refine ev_iff rfl rfl rfl (j_le (nI_nle (by omega) (by omega))) ?_
  repeat (first | refine ev_gos 99 rfl ?_ | refine ev_gf2 rfl rfl rfl rfl ?_ | refine ev_gf2 rfl rfl HH_land rfl ?_ | refine ev_gf2 rfl rfl HH_draft rfl ?_ | refine ev_gf2 rfl rfl (by with_reducible assumption) rfl ?_)
  refine ev_ix 2 rfl rfl rfl (by decide) (by decide) ?_
  rw [hM.2.2.1]
  refine ev_cv rfl rfl rfl (e_mdraw hy hl (m := P) (by omega) (by omega)) ?_
  repeat (first | refine ev_gos 99 rfl ?_ | refine ev_gf2 rfl rfl rfl rfl ?_ | refine ev_gf2 rfl rfl HH_land rfl ?_ | refine ev_gf2 rfl rfl HH_draft rfl ?_ | refine ev_gf2 rfl rfl (by with_reducible assumption) rfl ?_)
  refine ev_cv rfl rfl rfl (e_mcells hM) ?_
  refine ev_cv rfl rfl rfl (e_mdraw (l := upA l 8 (dS y).toInt64) (SD_dS _) (upA_at _ _ _) (m := W * H) (by omega) (by omega)) ?_
  rw [upA_up]
  have hp := drN_lt y (m := P) (by omega)
  have hc := drN_lt (dS y) (m := W * H) h0
  generalize drN y P = p at hp ⊢
  generalize drN (dS y) (W * H) = c at hc ⊢
  generalize (dS (dS y)).toInt64 = z
  repeat (first | refine ev_gos 99 rfl ?_ | refine ev_gf2 rfl rfl rfl rfl ?_ | refine ev_gf2 rfl rfl HH_land rfl ?_ | refine ev_gf2 rfl rfl HH_draft rfl ?_ | refine ev_gf2 rfl rfl (by with_reducible assumption) rfl ?_)
  refine ev_ix (5 + p) rfl rfl (nI_add 5 p) (by omega) (by decide) ?_
  obtain ⟨k, k1, k2⟩ := hM.2.2.2.2.2.2.2.1 p hp
  have k3 : kdM (A 27) p = nI k := k2
  rw [k2, k3, nI_clamp (by omega)]
  repeat (first | refine ev_gos 99 rfl ?_ | refine ev_gf2 rfl rfl rfl rfl ?_ | refine ev_gf2 rfl rfl HH_land rfl ?_ | refine ev_gf2 rfl rfl HH_draft rfl ?_ | refine ev_gf2 rfl rfl (by with_reducible assumption) rfl ?_)
  refine ev_cv rfl rfl rfl (e_mmayLie hM k1 hc) ?_
  generalize mayB W H rk (A 29) k c = b
  refine (?_ : Ek sc (d + 4) m_M_draws 57 _ [.int (b01 b)] _ _ _ _ _)
  cases b with
  | false =>
    (first | refine ev_ift rfl rfl rfl rfl ?_ | refine ev_iff rfl rfl rfl rfl ?_)
    repeat (first | refine ev_gos 99 rfl ?_ | refine ev_gf2 rfl rfl rfl rfl ?_ | refine ev_gf2 rfl rfl HH_land rfl ?_ | refine ev_gf2 rfl rfl HH_draft rfl ?_ | refine ev_gf2 rfl rfl (by with_reducible assumption) rfl ?_)
    exact ev_rv rfl rfl
  | true =>
    (first | refine ev_ift rfl rfl rfl rfl ?_ | refine ev_iff rfl rfl rfl rfl ?_)
    repeat (first | refine ev_gos 99 rfl ?_ | refine ev_gf2 rfl rfl rfl rfl ?_ | refine ev_gf2 rfl rfl HH_land rfl ?_ | refine ev_gf2 rfl rfl HH_draft rfl ?_ | refine ev_gf2 rfl rfl (by with_reducible assumption) rfl ?_)
    refine ev_cv rfl rfl rfl (e_mliesN hM hp hc k1 k2) ?_
    repeat (first | refine ev_gos 99 rfl ?_ | refine ev_gf2 rfl rfl rfl rfl ?_ | refine ev_gf2 rfl rfl HH_land rfl ?_ | refine ev_gf2 rfl rfl HH_draft rfl ?_ | refine ev_gf2 rfl rfl (by with_reducible assumption) rfl ?_)
    exact ev_rv rfl rfl
theorem e_mdr_none (hM : MN (A 27) rk W H P) {D : Nat} (hD : (D = 0 ∧ P = 0) ∨ 4 ≤ D) (hD8 : D < 8) : Ev sc (d + 4) m_M_draws 8 [some (.ref 26), some (.int (nI D)), none, none] [.int (nI D)] (HH w s l A B) none (HH w s l A B) := by
  have fin : Ev sc (d + 4) m_M_draws 75 [some (.ref 26), some (.int (nI D)), none, none] [.int 1, .int (nI D)] (HH w s l A B) none (HH w s l A B) := by
    refine ev_ift rfl rfl rfl (c_ne (fun z => by have := (nI_eq (b := 1) (by omega) (by decide)).mp z; omega)) ?_
    repeat (first | refine ev_gos 99 rfl ?_ | refine ev_gf2 rfl rfl rfl rfl ?_ | refine ev_gf2 rfl rfl HH_land rfl ?_ | refine ev_gf2 rfl rfl HH_draft rfl ?_ | refine ev_gf2 rfl rfl (by with_reducible assumption) rfl ?_)
    refine ev_ift rfl rfl rfl (c_ne (fun z => by have := (nI_eq (b := 2) (by omega) (by decide)).mp z; omega)) ?_
    repeat (first | refine ev_gos 99 rfl ?_ | refine ev_gf2 rfl rfl rfl rfl ?_ | refine ev_gf2 rfl rfl HH_land rfl ?_ | refine ev_gf2 rfl rfl HH_draft rfl ?_ | refine ev_gf2 rfl rfl (by with_reducible assumption) rfl ?_)
    refine ev_ift rfl rfl rfl (c_ne (fun z => by have := (nI_eq (b := 3) (by omega) (by decide)).mp z; omega)) ?_
    exact ev_rv rfl rfl
  by_cases d0 : D = 0
  · have p0 : P = 0 := by omega
    refine ev_iff rfl rfl rfl (j_ne (by rw [d0]; rfl)) ?_
    repeat (first | refine ev_gos 99 rfl ?_ | refine ev_gf2 rfl rfl rfl rfl ?_ | refine ev_gf2 rfl rfl HH_land rfl ?_ | refine ev_gf2 rfl rfl HH_draft rfl ?_ | refine ev_gf2 rfl rfl (by with_reducible assumption) rfl ?_)
    refine ev_ix 2 rfl rfl rfl (by decide) (by decide) ?_
    rw [hM.2.2.1]
    refine ev_ift rfl rfl rfl (i_le (by rw [p0]; decide)) ?_
    repeat (first | refine ev_gos 99 rfl ?_ | refine ev_gf2 rfl rfl rfl rfl ?_ | refine ev_gf2 rfl rfl HH_land rfl ?_ | refine ev_gf2 rfl rfl HH_draft rfl ?_ | refine ev_gf2 rfl rfl (by with_reducible assumption) rfl ?_)
    exact fin
  · refine ev_ift rfl rfl rfl (i_ne (nI_ne (by omega) (by omega))) ?_
    repeat (first | refine ev_gos 99 rfl ?_ | refine ev_gf2 rfl rfl rfl rfl ?_ | refine ev_gf2 rfl rfl HH_land rfl ?_ | refine ev_gf2 rfl rfl HH_draft rfl ?_ | refine ev_gf2 rfl rfl (by with_reducible assumption) rfl ?_)
    exact fin
theorem e_mdr_hare (hM : MN (A 27) rk W H P) (h0 : 0 < W * H) {y : Int32} (hy : SD y) (hl : l 8 = y.toInt64) : Ev sc (d + 4) m_M_draws 8 [some (.ref 26), some (.int 1), none, none] [.int 1] (HH w s l A B) none (bif bs rk (drN y (W * H)) then HH w s (upA l 8 (dS y).toInt64) A B else HH w s (upA l 8 (dS y).toInt64) (upA A 29 (upd (A 29) (drN y (W * H)) (rnM (A 29 (drN y (W * H)))))) B) := by
  have h49 := hM.n49
  (first | refine ev_ift rfl rfl rfl rfl ?_ | refine ev_iff rfl rfl rfl rfl ?_)
  repeat (first | refine ev_gos 99 rfl ?_ | refine ev_gf2 rfl rfl rfl rfl ?_ | refine ev_gf2 rfl rfl HH_land rfl ?_ | refine ev_gf2 rfl rfl HH_draft rfl ?_ | refine ev_gf2 rfl rfl (by with_reducible assumption) rfl ?_)
  (first | refine ev_ift rfl rfl rfl rfl ?_ | refine ev_iff rfl rfl rfl rfl ?_)
  repeat (first | refine ev_gos 99 rfl ?_ | refine ev_gf2 rfl rfl rfl rfl ?_ | refine ev_gf2 rfl rfl HH_land rfl ?_ | refine ev_gf2 rfl rfl HH_draft rfl ?_ | refine ev_gf2 rfl rfl (by with_reducible assumption) rfl ?_)
  refine ev_cv rfl rfl rfl (e_mcells hM) ?_
  refine ev_cv rfl rfl rfl (e_mdraw hy hl (m := W * H) (by omega) (by omega)) ?_
  have hc := drN_lt y (m := W * H) h0
  generalize drN y (W * H) = c at hc ⊢
  generalize (dS y).toInt64 = z
  repeat (first | refine ev_gos 99 rfl ?_ | refine ev_gf2 rfl rfl rfl rfl ?_ | refine ev_gf2 rfl rfl HH_land rfl ?_ | refine ev_gf2 rfl rfl HH_draft rfl ?_ | refine ev_gf2 rfl rfl (by with_reducible assumption) rfl ?_)
  refine ev_cv rfl rfl rfl (e_misRock hM (c := c) (by omega)) ?_
  generalize bs rk c = b
  refine (?_ : Ek sc (d + 4) m_M_draws 92 _ [.int (b01 b)] _ _ _ _ _)
  cases b with
  | true =>
    (first | refine ev_ift rfl rfl rfl rfl ?_ | refine ev_iff rfl rfl rfl rfl ?_)
    repeat (first | refine ev_gos 99 rfl ?_ | refine ev_gf2 rfl rfl rfl rfl ?_ | refine ev_gf2 rfl rfl HH_land rfl ?_ | refine ev_gf2 rfl rfl HH_draft rfl ?_ | refine ev_gf2 rfl rfl (by with_reducible assumption) rfl ?_)
    exact ev_rv rfl rfl
  | false =>
    (first | refine ev_ift rfl rfl rfl rfl ?_ | refine ev_iff rfl rfl rfl rfl ?_)
    repeat (first | refine ev_gos 99 rfl ?_ | refine ev_gf2 rfl rfl rfl rfl ?_ | refine ev_gf2 rfl rfl HH_land rfl ?_ | refine ev_gf2 rfl rfl HH_draft rfl ?_ | refine ev_gf2 rfl rfl (by with_reducible assumption) rfl ?_)
    refine ev_cv rfl rfl rfl (e_mruns (c := c) (by omega)) ?_
    repeat (first | refine ev_gos 99 rfl ?_ | refine ev_gf2 rfl rfl rfl rfl ?_ | refine ev_gf2 rfl rfl HH_land rfl ?_ | refine ev_gf2 rfl rfl HH_draft rfl ?_ | refine ev_gf2 rfl rfl (by with_reducible assumption) rfl ?_)
    exact ev_rv rfl rfl
theorem e_mdr_snow (hM : MN (A 27) rk W H P) : Ev sc (d + 4) m_M_draws 8 [some (.ref 26), some (.int 2), none, none] [.int 2] (HH w s l A B) none (HH w s l (upA A 29 (mapP snM (A 29) (W * H))) B) := by
  (first | refine ev_ift rfl rfl rfl rfl ?_ | refine ev_iff rfl rfl rfl rfl ?_)
  repeat (first | refine ev_gos 99 rfl ?_ | refine ev_gf2 rfl rfl rfl rfl ?_ | refine ev_gf2 rfl rfl HH_land rfl ?_ | refine ev_gf2 rfl rfl HH_draft rfl ?_ | refine ev_gf2 rfl rfl (by with_reducible assumption) rfl ?_)
  (first | refine ev_ift rfl rfl rfl rfl ?_ | refine ev_iff rfl rfl rfl rfl ?_)
  repeat (first | refine ev_gos 99 rfl ?_ | refine ev_gf2 rfl rfl rfl rfl ?_ | refine ev_gf2 rfl rfl HH_land rfl ?_ | refine ev_gf2 rfl rfl HH_draft rfl ?_ | refine ev_gf2 rfl rfl (by with_reducible assumption) rfl ?_)
  (first | refine ev_ift rfl rfl rfl rfl ?_ | refine ev_iff rfl rfl rfl rfl ?_)
  repeat (first | refine ev_gos 99 rfl ?_ | refine ev_gf2 rfl rfl rfl rfl ?_ | refine ev_gf2 rfl rfl HH_land rfl ?_ | refine ev_gf2 rfl rfl HH_draft rfl ?_ | refine ev_gf2 rfl rfl (by with_reducible assumption) rfl ?_)
  refine ev_cv rfl rfl rfl (e_msnows hM) ?_
  repeat (first | refine ev_gos 99 rfl ?_ | refine ev_gf2 rfl rfl rfl rfl ?_ | refine ev_gf2 rfl rfl HH_land rfl ?_ | refine ev_gf2 rfl rfl HH_draft rfl ?_ | refine ev_gf2 rfl rfl (by with_reducible assumption) rfl ?_)
  exact ev_rv rfl rfl
theorem e_mdr_wind {y : Int32} (hy : SD y) (hl : l 8 = y.toInt64) : Ev sc (d + 4) m_M_draws 8 [some (.ref 26), some (.int 3), none, none] [.int 3] (HH w s l A B) none (HH w s (upA l 8 (dS y).toInt64) (upA A 29 (upd (A 29) 57 (nI (drN y 5)))) B) := by
  (first | refine ev_ift rfl rfl rfl rfl ?_ | refine ev_iff rfl rfl rfl rfl ?_)
  repeat (first | refine ev_gos 99 rfl ?_ | refine ev_gf2 rfl rfl rfl rfl ?_ | refine ev_gf2 rfl rfl HH_land rfl ?_ | refine ev_gf2 rfl rfl HH_draft rfl ?_ | refine ev_gf2 rfl rfl (by with_reducible assumption) rfl ?_)
  (first | refine ev_ift rfl rfl rfl rfl ?_ | refine ev_iff rfl rfl rfl rfl ?_)
  repeat (first | refine ev_gos 99 rfl ?_ | refine ev_gf2 rfl rfl rfl rfl ?_ | refine ev_gf2 rfl rfl HH_land rfl ?_ | refine ev_gf2 rfl rfl HH_draft rfl ?_ | refine ev_gf2 rfl rfl (by with_reducible assumption) rfl ?_)
  (first | refine ev_ift rfl rfl rfl rfl ?_ | refine ev_iff rfl rfl rfl rfl ?_)
  repeat (first | refine ev_gos 99 rfl ?_ | refine ev_gf2 rfl rfl rfl rfl ?_ | refine ev_gf2 rfl rfl HH_land rfl ?_ | refine ev_gf2 rfl rfl HH_draft rfl ?_ | refine ev_gf2 rfl rfl (by with_reducible assumption) rfl ?_)
  (first | refine ev_ift rfl rfl rfl rfl ?_ | refine ev_iff rfl rfl rfl rfl ?_)
  repeat (first | refine ev_gos 99 rfl ?_ | refine ev_gf2 rfl rfl rfl rfl ?_ | refine ev_gf2 rfl rfl HH_land rfl ?_ | refine ev_gf2 rfl rfl HH_draft rfl ?_ | refine ev_gf2 rfl rfl (by with_reducible assumption) rfl ?_)
  refine ev_cv rfl rfl rfl (e_mdraw hy hl (m := 5) (by decide) (by decide)) ?_
  generalize (dS y).toInt64 = z
  refine iv_29 57 rfl rfl (by decide) ?_
  exact ev_rv rfl rfl
theorem e_mdraws (hM : MN (A 27) rk W H P) (h0 : 0 < W * H) {x : Int32} (hx : SD x) (hl : l 8 = x.toInt64) : Ev sc (d + 4) m_M_draws 0 (iniL 4 [.ref 26]) [] (HH w s l A B) none (HH w s (upA l 8 (hapM W H P rk (A 27) x (A 29)).1.toInt64) (upA A 29 (hapM W H P rk (A 27) x (A 29)).2) B) := by
  repeat (first | refine ev_gos 99 rfl ?_ | refine ev_gf2 rfl rfl rfl rfl ?_ | refine ev_gf2 rfl rfl HH_land rfl ?_ | refine ev_gf2 rfl rfl HH_draft rfl ?_ | refine ev_gf2 rfl rfl (by with_reducible assumption) rfl ?_)
  refine ev_cv rfl rfl rfl (e_mdraw hx hl (m := 8) (by decide) (by decide)) ?_
  have hd := drN_lt x (m := 8) (by decide)
  have hy := SD_dS x
  unfold hapM
  generalize drN x 8 = D at hd ⊢
  generalize dS x = y at hy ⊢
  repeat (first | refine ev_gos 99 rfl ?_ | refine ev_gf2 rfl rfl rfl rfl ?_ | refine ev_gf2 rfl rfl HH_land rfl ?_ | refine ev_gf2 rfl rfl HH_draft rfl ?_ | refine ev_gf2 rfl rfl (by with_reducible assumption) rfl ?_)
  by_cases d0 : D = 0
  · rw [if_pos d0]
    by_cases p0 : P = 0
    · rw [if_pos p0]
      have q := e_mdr_none (sc := sc) (d := d) (w := w) (s := s) (l := upA l 8 y.toInt64) (A := A) (B := B) hM (D := D) (Or.inl ⟨d0, p0⟩) hd
      show Ek _ _ _ _ _ _ _ _ (HH w s (upA l 8 y.toInt64) (upA A 29 (A 29)) B) 0 0
      rw [upA_id A 29]
      exact q
    · rw [if_neg p0]
      have q := e_mdr_lie (sc := sc) (d := d) (w := w) (s := s) (l := upA l 8 y.toInt64) (A := A) (B := B) hM h0 (by omega) hy (upA_at _ _ _)
      rw [upA_up] at q
      rw [d0]
      cases hb : mayB W H rk (A 29) (kdM (A 27) (drN y P)).toNatClampNeg (drN (dS y) (W * H)) with
      | true =>
        rw [hb] at q
        exact q
      | false =>
        rw [hb] at q
        show Ek _ _ _ _ _ _ _ _ (HH w s (upA l 8 (dS (dS y)).toInt64) (upA A 29 (A 29)) B) 0 0
        rw [upA_id A 29]
        exact q
  · rw [if_neg d0]
    by_cases d1 : D = 1
    · rw [if_pos d1]
      have q := e_mdr_hare (sc := sc) (d := d) (w := w) (s := s) (l := upA l 8 y.toInt64) (A := A) (B := B) hM h0 hy (upA_at _ _ _)
      rw [upA_up] at q
      rw [d1]
      cases hb : bs rk (drN y (W * H)) with
      | false =>
        rw [hb] at q
        exact q
      | true =>
        rw [hb] at q
        show Ek _ _ _ _ _ _ _ _ (HH w s (upA l 8 (dS y).toInt64) (upA A 29 (A 29)) B) 0 0
        rw [upA_id A 29]
        exact q
    · rw [if_neg d1]
      by_cases d2 : D = 2
      · rw [if_pos d2, d2]
        exact e_mdr_snow hM
      · rw [if_neg d2]
        by_cases d3 : D = 3
        · rw [if_pos d3, d3]
          have q := e_mdr_wind (sc := sc) (d := d) (w := w) (s := s) (l := upA l 8 y.toInt64) (A := A) (B := B) hy (upA_at _ _ _)
          rw [upA_up] at q
          exact q
        · rw [if_neg d3]
          have q := e_mdr_none (sc := sc) (d := d) (w := w) (s := s) (l := upA l 8 y.toInt64) (A := A) (B := B) hM (D := D) (Or.inr (by omega)) hd
          show Ek _ _ _ _ _ _ _ _ (HH w s (upA l 8 y.toInt64) (upA A 29 (A 29)) B) 0 0
          rw [upA_id A 29]
          exact q
theorem e_mrefuses (hM : MN (A 27) rk W H P) (n : Int32) : Ev sc (d + 1) m_M_refuses 0 (iniL 2 [.ref 26, .int n]) [] (HH w s l A B) (some (.int (rfs n W (A 29 56)))) (HH w s l A B) := by
  have hW7 : W ≤ 7 := hM.2.2.2.1
  unfold rfs
  repeat (first | refine ev_gos 99 rfl ?_ | refine ev_gf2 rfl rfl rfl rfl ?_ | refine ev_gf2 rfl rfl HH_land rfl ?_ | refine ev_gf2 rfl rfl HH_draft rfl ?_ | refine ev_gf2 rfl rfl (by with_reducible assumption) rfl ?_)
  refine ev_cs rfl rfl rfl (e_inB n 1 20 rfl (by decide) (by decide)) ?_
  unfold in3
  by_cases h1 : n < 1
  · rw [if_pos h1, decide_eq_false (fun z => le_nlt z h1)]
    (first | refine ev_ift rfl rfl rfl rfl ?_ | refine ev_iff rfl rfl rfl rfl ?_)
    repeat (first | refine ev_gos 99 rfl ?_ | refine ev_gf2 rfl rfl rfl rfl ?_ | refine ev_gf2 rfl rfl HH_land rfl ?_ | refine ev_gf2 rfl rfl HH_draft rfl ?_ | refine ev_gf2 rfl rfl (by with_reducible assumption) rfl ?_)
    exact ev_ri rfl rfl rfl
  · rw [if_neg h1, decide_eq_true (nlt_le3 h1)]
    by_cases h2 : 20 < n
    · rw [if_pos h2, decide_eq_false (fun z => le_nlt z h2)]
      (first | refine ev_ift rfl rfl rfl rfl ?_ | refine ev_iff rfl rfl rfl rfl ?_)
      repeat (first | refine ev_gos 99 rfl ?_ | refine ev_gf2 rfl rfl rfl rfl ?_ | refine ev_gf2 rfl rfl HH_land rfl ?_ | refine ev_gf2 rfl rfl HH_draft rfl ?_ | refine ev_gf2 rfl rfl (by with_reducible assumption) rfl ?_)
      exact ev_ri rfl rfl rfl
    · rw [if_neg h2, decide_eq_true (nlt_le3 h2)]
      (first | refine ev_ift rfl rfl rfl rfl ?_ | refine ev_iff rfl rfl rfl rfl ?_)
      repeat (first | refine ev_gos 99 rfl ?_ | refine ev_gf2 rfl rfl rfl rfl ?_ | refine ev_gf2 rfl rfl HH_land rfl ?_ | refine ev_gf2 rfl rfl HH_draft rfl ?_ | refine ev_gf2 rfl rfl (by with_reducible assumption) rfl ?_)
      refine ev_ix 0 rfl rfl rfl (by decide) (by decide) ?_
      rw [hM.1]
      by_cases h3 : W = 0
      · rw [if_pos h3]
        refine ev_iff rfl rfl rfl (j_ne (by rw [h3]; rfl)) ?_
        repeat (first | refine ev_gos 99 rfl ?_ | refine ev_gf2 rfl rfl rfl rfl ?_ | refine ev_gf2 rfl rfl HH_land rfl ?_ | refine ev_gf2 rfl rfl HH_draft rfl ?_ | refine ev_gf2 rfl rfl (by with_reducible assumption) rfl ?_)
        exact ev_ri rfl rfl rfl
      · rw [if_neg h3]
        refine ev_ift rfl rfl rfl (i_ne (nI_ne (by omega) (by omega))) ?_
        repeat (first | refine ev_gos 99 rfl ?_ | refine ev_gf2 rfl rfl rfl rfl ?_ | refine ev_gf2 rfl rfl HH_land rfl ?_ | refine ev_gf2 rfl rfl HH_draft rfl ?_ | refine ev_gf2 rfl rfl (by with_reducible assumption) rfl ?_)
        refine ev_ix 56 rfl rfl rfl (by decide) (by decide) ?_
        repeat (first | refine ev_gos 99 rfl ?_ | refine ev_gf2 rfl rfl rfl rfl ?_ | refine ev_gf2 rfl rfl HH_land rfl ?_ | refine ev_gf2 rfl rfl HH_draft rfl ?_ | refine ev_gf2 rfl rfl (by with_reducible assumption) rfl ?_)
        by_cases h4 : 9000 < A 29 56
        · rw [if_pos h4]
          refine ev_iff rfl rfl rfl (d_le (fun z => le_nlt z h4)) ?_
          repeat (first | refine ev_gos 99 rfl ?_ | refine ev_gf2 rfl rfl rfl rfl ?_ | refine ev_gf2 rfl rfl HH_land rfl ?_ | refine ev_gf2 rfl rfl HH_draft rfl ?_ | refine ev_gf2 rfl rfl (by with_reducible assumption) rfl ?_)
          exact ev_ri rfl rfl rfl
        · rw [if_neg h4]
          refine ev_ift rfl rfl rfl (c_le (nlt_le3 h4)) ?_
          repeat (first | refine ev_gos 99 rfl ?_ | refine ev_gf2 rfl rfl rfl rfl ?_ | refine ev_gf2 rfl rfl HH_land rfl ?_ | refine ev_gf2 rfl rfl HH_draft rfl ?_ | refine ev_gf2 rfl rfl (by with_reducible assumption) rfl ?_)
          exact ev_ri rfl rfl rfl
def bgR (j : Nat) (_ : Int32) : Int32 := if 49 ≤ j ∧ j ≤ 55 then -1 else 0
theorem e_mbegins_loop (f : Nat → Int32) {h' : AHp} (hout : Ev sc (d + 1) m_M_begins 39 [some (.ref 26), none] [] (HH w s l (upA A 29 (mapP bgR f 58)) B) none h') : ∀ (n i : Nat), i + n = 58 → Ev sc (d + 1) m_M_begins 5 [some (.ref 26), some (.int (nI i))] [.int 58, .int (nI i)] (HH w s l (upA A 29 (mapP bgR f i)) B) none h' := by
  intro n
  induction n with
  | zero =>
    intro i hi
    have e : i = 58 := by omega
    subst e
    refine ev_ift rfl rfl rfl (c_ge (by decide : (58 : Int32) ≤ nI 58)) ?_
    exact ev_wk2 hout rfl (by repeat' (first | exact trivial | refine ⟨rfl, ?_⟩))
  | succ n ih =>
    intro i hi
    refine ev_iff rfl rfl rfl (d_ge (nI_lt3 (b := 58) (by omega) (by omega) (by omega))) ?_
    repeat (first | refine ev_gos 99 rfl ?_ | refine ev_gf2 rfl rfl rfl rfl ?_ | refine ev_gf2 rfl rfl HH_land rfl ?_ | refine ev_gf2 rfl rfl HH_draft rfl ?_ | refine ev_gf2 rfl rfl (by with_reducible assumption) rfl ?_)
    refine ev_cs rfl rfl rfl (e_inB (nI i) 49 55 rfl (by decide) (by decide)) ?_
    have h3 := ih (i + 1) (by omega)
    rw [← nI_1, ← mapP_s] at h3
    unfold in3
    unfold bgR at h3
    by_cases h1 : 49 ≤ i ∧ i ≤ 55
    · rw [if_pos h1] at h3
      have q1 : (49 : Int32) ≤ nI i := (nI_leI (a := 49) (by omega) (by omega)).mpr h1.1
      have q2 : nI i ≤ (55 : Int32) := (nI_leI (b := 55) (by omega) (by omega)).mpr h1.2
      rw [decide_eq_true q1, decide_eq_true q2]
      (first | refine ev_ift rfl rfl rfl rfl ?_ | refine ev_iff rfl rfl rfl rfl ?_)
      repeat (first | refine ev_gos 99 rfl ?_ | refine ev_gf2 rfl rfl rfl rfl ?_ | refine ev_gf2 rfl rfl HH_land rfl ?_ | refine ev_gf2 rfl rfl HH_draft rfl ?_ | refine ev_gf2 rfl rfl (by with_reducible assumption) rfl ?_)
      refine iw_29 i rfl rfl (by omega) ?_
      repeat (first | refine ev_gos 99 rfl ?_ | refine ev_gf2 rfl rfl rfl rfl ?_ | refine ev_gf2 rfl rfl HH_land rfl ?_ | refine ev_gf2 rfl rfl HH_draft rfl ?_ | refine ev_gf2 rfl rfl (by with_reducible assumption) rfl ?_)
      exact h3
    · rw [if_neg h1] at h3
      have e : (decide ((49 : Int32) ≤ nI i) && decide (nI i ≤ (55 : Int32))) = false := by
        cases hb : (decide ((49 : Int32) ≤ nI i) && decide (nI i ≤ (55 : Int32))) with
        | false => rfl
        | true =>
          obtain ⟨q1, q2⟩ := andE hb
          exact absurd ⟨(nI_leI (a := 49) (by omega) (by omega)).mp (of_decide_eq_true q1), (nI_leI (b := 55) (by omega) (by omega)).mp (of_decide_eq_true q2)⟩ h1
      rw [e]
      (first | refine ev_ift rfl rfl rfl rfl ?_ | refine ev_iff rfl rfl rfl rfl ?_)
      repeat (first | refine ev_gos 99 rfl ?_ | refine ev_gf2 rfl rfl rfl rfl ?_ | refine ev_gf2 rfl rfl HH_land rfl ?_ | refine ev_gf2 rfl rfl HH_draft rfl ?_ | refine ev_gf2 rfl rfl (by with_reducible assumption) rfl ?_)
      refine iw_29 i rfl rfl (by omega) ?_
      repeat (first | refine ev_gos 99 rfl ?_ | refine ev_gf2 rfl rfl rfl rfl ?_ | refine ev_gf2 rfl rfl HH_land rfl ?_ | refine ev_gf2 rfl rfl HH_draft rfl ?_ | refine ev_gf2 rfl rfl (by with_reducible assumption) rfl ?_)
      exact h3
theorem e_mbegins : Ev sc (d + 1) m_M_begins 0 (iniL 2 [.ref 26]) [] (HH w s l A B) none (HH w (upA (upA (upA s 23 0) 26 0) 27 0) l (upA (upA A 29 (upd (mapP bgR (A 29) 58) 57 (A 27 4))) 34 (upd (upd (A 34) 0 0) 1 0)) B) := by
  have q : Ev sc (d + 1) m_M_begins 39 [some (.ref 26), none] [] (HH w s l (upA A 29 (mapP bgR (A 29) 58)) B) none (HH w (upA (upA (upA s 23 0) 26 0) 27 0) l (upA (upA A 29 (upd (mapP bgR (A 29) 58) 57 (A 27 4))) 34 (upd (upd (A 34) 0 0) 1 0)) B) := by
    repeat (first | refine ev_gos 99 rfl ?_ | refine ev_gf2 rfl rfl rfl rfl ?_ | refine ev_gf2 rfl rfl HH_land rfl ?_ | refine ev_gf2 rfl rfl HH_draft rfl ?_ | refine ev_gf2 rfl rfl (by with_reducible assumption) rfl ?_)
    refine ev_ix 4 rfl rfl rfl (by decide) (by decide) ?_
    refine iw_29 57 rfl rfl (by decide) ?_
    repeat (first | refine ev_gos 99 rfl ?_ | refine ev_gf2 rfl rfl rfl rfl ?_ | refine ev_gf2 rfl rfl HH_land rfl ?_ | refine ev_gf2 rfl rfl HH_draft rfl ?_ | refine ev_gf2 rfl rfl (by with_reducible assumption) rfl ?_)
    refine pf_M_23 rfl ?_
    repeat (first | refine ev_gos 99 rfl ?_ | refine ev_gf2 rfl rfl rfl rfl ?_ | refine ev_gf2 rfl rfl HH_land rfl ?_ | refine ev_gf2 rfl rfl HH_draft rfl ?_ | refine ev_gf2 rfl rfl (by with_reducible assumption) rfl ?_)
    refine pf_M_26 rfl ?_
    repeat (first | refine ev_gos 99 rfl ?_ | refine ev_gf2 rfl rfl rfl rfl ?_ | refine ev_gf2 rfl rfl HH_land rfl ?_ | refine ev_gf2 rfl rfl HH_draft rfl ?_ | refine ev_gf2 rfl rfl (by with_reducible assumption) rfl ?_)
    refine pf_M_27 rfl ?_
    repeat (first | refine ev_gos 99 rfl ?_ | refine ev_gf2 rfl rfl rfl rfl ?_ | refine ev_gf2 rfl rfl HH_land rfl ?_ | refine ev_gf2 rfl rfl HH_draft rfl ?_ | refine ev_gf2 rfl rfl (by with_reducible assumption) rfl ?_)
    refine is_34 rfl rfl ?_
    repeat (first | refine ev_gos 99 rfl ?_ | refine ev_gf2 rfl rfl rfl rfl ?_ | refine ev_gf2 rfl rfl HH_land rfl ?_ | refine ev_gf2 rfl rfl HH_draft rfl ?_ | refine ev_gf2 rfl rfl (by with_reducible assumption) rfl ?_)
    refine is_34 rfl rfl ?_
    refine ev_rv rfl ?_
    rw [upA_up]
    rfl
  have z := e_mbegins_loop (A 29) q 58 0 rfl
  rw [mapP_0, upA_id] at z
  repeat (first | refine ev_gos 99 rfl ?_ | refine ev_gf2 rfl rfl rfl rfl ?_ | refine ev_gf2 rfl rfl HH_land rfl ?_ | refine ev_gf2 rfl rfl HH_draft rfl ?_ | refine ev_gf2 rfl rfl (by with_reducible assumption) rfl ?_)
  exact z
end MDR
