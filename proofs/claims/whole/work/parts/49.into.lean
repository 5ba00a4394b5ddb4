/-! the reader: a whole text -/
theorem sw_out {dd lo hi : Int} {offs : Array Int} {pc : Nat} {x : Int32} (h : x.toInt < lo ∨ hi < x.toInt) : swT (.tableswitch dd lo hi offs) pc x = some ((pc : Int) + dd).toNat := by
  show (bif decide (x.toInt < lo) || decide (hi < x.toInt) then some ((pc : Int) + dd).toNat else _) = _
  rcases h with h | h
  · rw [decide_eq_true h]
    rfl
  · rw [decide_eq_true h, Bool.or_true]
    rfl
def clzR (t : Nat → Int32) (n : Nat) (r : RS) (i : Nat) : RS :=
  if ¬ t i = 110 ∧ r.1 19 = 0 then cmR r 1 (nI i) else
  if t i = 110 then endR t n (sdR t n (sR r 3 (nI (i + 1))) (i + 1)) (nE t n (nE t n (i + 1))) else
  if t i = 112 then endR t n (psR t n (sR r 3 (nI (i + 1))) (i + 1)) (nE t n (i + 1)) else
  if t i = 119 then endR t n (wdR t n (sR r 3 (nI (i + 1))) (i + 1)) (nE t n (i + 1)) else
  if t i = 114 then endR t n (rkR t n (sR r 3 (nI (i + 1))) (i + 1)) (nE t n (nE t n (i + 1))) else
  endR t n (cmR (sR r 3 (nI (i + 1))) 1 (nI i)) (i + 1)
/-- what holds of a draft while it is read -/
def RV (n : Nat) (r : RS) (W H P i : Nat) : Prop := r.1 3 = nI i ∧ i ≤ n ∧ r.1 19 = nI W ∧ r.1 20 = nI H ∧ r.1 21 = nI P ∧ W ≤ 7 ∧ H ≤ 7 ∧ P ≤ 7 ∧ ((W = 0 ∧ H = 0) ∨ (2 ≤ W ∧ 2 ≤ H)) ∧ r.2.1 4 = allS (W * H) ∧ r.2.1 5 = lefS W (W * H) ∧ r.2.1 6 = rigS W (W * H)
theorem RV_q {n : Nat} {r r' : RS} {W H P i i' : Nat} (h : RV n r W H P i) (h3 : r'.1 3 = nI i') (hi : i' ≤ n) (h19 : r'.1 19 = r.1 19) (h20 : r'.1 20 = r.1 20) (h21 : r'.1 21 = r.1 21) (h4 : r'.2.1 4 = r.2.1 4) (h5 : r'.2.1 5 = r.2.1 5) (h6 : r'.2.1 6 = r.2.1 6) : RV n r' W H P i' := by
  obtain ⟨a1, a2, a3, a4, a5, a6, a7, a8, a9, a10, a11, a12⟩ := h
  exact ⟨h3, hi, h19.trans a3, h20.trans a4, h21.trans a5, a6, a7, a8, a9, h4.trans a10, h5.trans a11, h6.trans a12⟩
theorem RV_sk {n : Nat} {r : RS} {W H P i k : Nat} (h : RV n r W H P i) (hk : k ≤ n) : RV n (sR r 3 (nI k)) W H P k := RV_q h rfl hk rfl rfl rfl rfl rfl rfl
theorem RV_nm {t : Nat → Int32} {n : Nat} {r : RS} {W H P i : Nat} (h : RV n r W H P i) (x y : Int32) : RV n (nmR t n r i x y) W H P (nE t n i) :=
  RV_q h (nm_pl _ _ _ _ _ _) (nE_b t h.2.1).2 (nm_q _ _ _ _ _ _ (by decide) (by decide) (by decide) (by decide)) (nm_q _ _ _ _ _ _ (by decide) (by decide) (by decide) (by decide)) (nm_q _ _ _ _ _ _ (by decide) (by decide) (by decide) (by decide)) (by rw [nm_2]) (by rw [nm_2]) (by rw [nm_2])
theorem RV_cm {n : Nat} {r : RS} {W H P i : Nat} (h : RV n r W H P i) (a b : Int32) : RV n (cmR r a b) W H P i := by
  obtain ⟨f1, f2, f3, f4⟩ := cm_facts r a b
  exact RV_q h ((f3 3 (by decide) (by decide)).trans h.1) h.2.1 (f3 19 (by decide) (by decide)) (f3 20 (by decide) (by decide)) (f3 21 (by decide) (by decide)) (by rw [f4]) (by rw [f4]) (by rw [f4])
theorem RV_if {n : Nat} {r : RS} {W H P i : Nat} (h : RV n r W H P i) (p : Prop) [Decidable p] (a b : Int32) : RV n (if p then r else cmR r a b) W H P i := by
  split
  · exact h
  · exact RV_cm h a b
theorem RV_en {t : Nat → Int32} {n : Nat} {r : RS} {W H P i : Nat} (h : RV n r W H P i) : ∃ i', RV n (endR t n r i) W H P i' := by
  have hj := skN_b t h.2.1
  unfold endR
  split
  · rename_i hc
    exact ⟨_, RV_sk h (k := skN t n i + 1) hc.1⟩
  · exact ⟨_, RV_cm (RV_sk h hj.2) _ _⟩
theorem RV_sd {t : Nat → Int32} {n : Nat} {r : RS} {W H P i : Nat} (h : RV n r W H P i) : ∃ W' H', RV n (sdR t n r i) W' H' P (nE t n (nE t n i)) := by
  have h1 := RV_if h (r.1 19 = 0) 3 (nI (i - 1))
  unfold sdR
  dsimp only
  generalize (if r.1 19 = 0 then r else cmR r 3 (nI (i - 1))) = r1 at h1 ⊢
  have h2 := RV_nm (t := t) h1 2 7
  have h3 := RV_nm (t := t) h2 2 7
  by_cases h0 : (nmR t n (nmR t n r1 i 2 7) (nE t n i) 2 7).1 1 = 0
  · rw [if_pos h0]
    obtain ⟨o1, o2⟩ := nm_ok h0
    obtain ⟨o3, o4⟩ := nm_ok o1
    obtain ⟨a, a1, a2, a3⟩ := rngN (v := nV t n i) (a := 2) (b := 7) (by decide) (by decide) (nm_rng o4).1 (nm_rng o4).2
    obtain ⟨b, b1, b2, b3⟩ := rngN (v := nV t n (nE t n i)) (a := 2) (b := 7) (by decide) (by decide) (nm_rng o2).1 (nm_rng o2).2
    rw [a3, b3, nI_clamp (by omega), nI_clamp (by omega)]
    generalize nmR t n (nmR t n r1 i 2 7) (nE t n i) 2 7 = r3 at h3 ⊢
    obtain ⟨q1, q2, q3, q4, q5, q6, q7, q8, q9, q10, q11, q12⟩ := h3
    exact ⟨a, b, q1, q2, rfl, rfl, q5, a2, b2, q8, Or.inr ⟨a1, b1⟩, rfl, rfl, rfl⟩
  · rw [if_neg h0]
    exact ⟨W, H, h3⟩
theorem RV_ps {t : Nat → Int32} {n : Nat} {r : RS} {W H P i : Nat} (h : RV n r W H P i) : ∃ P', RV n (psR t n r i) W H P' (nE t n i) := by
  have h1 := RV_if h (r.1 21 < 7) 3 (nI (i - 1))
  have hq7 : (if r.1 21 < 7 then r else cmR r 3 (nI (i - 1))).1 1 = 0 → P < 7 := by
    intro o3
    by_cases hq : r.1 21 < 7
    · rw [h.2.2.2.2.1] at hq
      exact (nI_ltI (b := 7) (by have := h.2.2.2.2.2.2.2.1; omega) (by decide)).mp hq
    · rw [if_neg hq] at o3
      exact absurd o3 (cm_fn r _ (by decide))
  unfold psR
  dsimp only
  generalize (if r.1 21 < 7 then r else cmR r 3 (nI (i - 1))) = r1 at h1 hq7 ⊢
  have h2 := RV_nm (t := t) h1 0 4
  by_cases h0 : (nmR t n r1 i 0 4).1 1 = 0
  · rw [if_pos h0]
    obtain ⟨o3, o4⟩ := nm_ok h0
    have hP6 := hq7 o3
    generalize nmR t n r1 i 0 4 = r3 at h2 ⊢
    obtain ⟨a1, a2, a3, a4, a5, a6, a7, a8, a9, a10, a11, a12⟩ := h2
    refine ⟨P + 1, a1, a2, a3, a4, ?_, a6, a7, by omega, a9, a10, a11, a12⟩
    show r.1 21 + 1 = _
    rw [h.2.2.2.2.1, nI_1]
  · rw [if_neg h0]
    exact ⟨P, h2⟩
theorem RV_wd {t : Nat → Int32} {n : Nat} {r : RS} {W H P i : Nat} (h : RV n r W H P i) : RV n (wdR t n r i) W H P (nE t n i) := by
  have h1 := RV_if h (r.1 5 = 0) 3 (nI (i - 1))
  unfold wdR
  dsimp only
  generalize (if r.1 5 = 0 then r else cmR r 3 (nI (i - 1))) = r1 at h1 ⊢
  have h2 := RV_nm (t := t) h1 0 4
  by_cases h0 : (nmR t n r1 i 0 4).1 1 = 0
  · rw [if_pos h0]
    generalize nmR t n r1 i 0 4 = r3 at h2 ⊢
    exact RV_q h2 h2.1 h2.2.1 rfl rfl rfl rfl rfl rfl
  · rw [if_neg h0]
    exact h2
theorem RV_rk {t : Nat → Int32} {n : Nat} {r : RS} {W H P i : Nat} (h : RV n r W H P i) : RV n (rkR t n r i) W H P (nE t n (nE t n i)) := by
  have h1 := RV_if h (pop (r.2.1 7) < 8) 3 (nI (i - 1))
  unfold rkR
  dsimp only
  generalize (if pop (r.2.1 7) < 8 then r else cmR r 3 (nI (i - 1))) = r1 at h1 ⊢
  have h2 := RV_nm (t := t) (RV_nm (t := t) h1 0 (r.1 19 - 1)) 0 (r.1 20 - 1)
  generalize nmR t n (nmR t n r1 i 0 (r.1 19 - 1)) (nE t n i) 0 (r.1 20 - 1) = q at h2 ⊢
  by_cases h0 : q.1 1 = 0
  · rw [if_pos h0]
    unfold adR
    generalize (1 : Int64) <<< ((r.1 19 * nV t n (nE t n i) + nV t n i).toInt64 &&& 63) = x
    have h3 := RV_if h2 (q.2.1 7 &&& x = 0) 4 (q.1 4)
    generalize (if q.2.1 7 &&& x = 0 then q else cmR q 4 (q.1 4)) = q2 at h3 ⊢
    exact RV_q h3 h3.1 h3.2.1 rfl rfl rfl rfl rfl rfl
  · rw [if_neg h0]
    exact h2
theorem RV_cl {t : Nat → Int32} {n : Nat} {r : RS} {W H P i : Nat} (h : RV n r W H P i) (hi : i < n) : ∃ W' H' P' i', RV n (clzR t n r i) W' H' P' i' := by
  have h0 := RV_sk h (k := i + 1) hi
  unfold clzR
  split
  · exact ⟨_, _, _, _, RV_cm h _ _⟩
  · split
    · obtain ⟨W', H', h1⟩ := RV_sd (t := t) h0
      obtain ⟨i', h2⟩ := RV_en (t := t) h1
      exact ⟨_, _, _, _, h2⟩
    · split
      · obtain ⟨P', h1⟩ := RV_ps (t := t) h0
        obtain ⟨i', h2⟩ := RV_en (t := t) h1
        exact ⟨_, _, _, _, h2⟩
      · split
        · obtain ⟨i', h2⟩ := RV_en (t := t) (RV_wd (t := t) h0)
          exact ⟨_, _, _, _, h2⟩
        · split
          · obtain ⟨i', h2⟩ := RV_en (t := t) (RV_rk (t := t) h0)
            exact ⟨_, _, _, _, h2⟩
          · obtain ⟨i', h2⟩ := RV_en (t := t) (RV_cm h0 1 (nI i))
            exact ⟨_, _, _, _, h2⟩
/-- the loop over the clauses -/
def lpR (t : Nat → Int32) (n : Nat) : Nat → RS → RS
  | 0, r => r
  | f + 1, r => if (r.1 3).toNatClampNeg < n ∧ r.1 1 = 0 then lpR t n f (sR (clzR t n r (r.1 3).toNatClampNeg) 3 (nI (skN t n ((clzR t n r (r.1 3).toNatClampNeg).1 3).toNatClampNeg))) else r
theorem lp_s {t : Nat → Int32} {n f i i' : Nat} {r : RS} (h3 : r.1 3 = nI i) (hi : i < n) (hn : n ≤ 240) (hi' : i' ≤ n) (h1 : r.1 1 = 0) (hc : (clzR t n r i).1 3 = nI i') : lpR t n (f + 1) r = lpR t n f (sR (clzR t n r i) 3 (nI (skN t n i'))) := by
  show (if (r.1 3).toNatClampNeg < n ∧ r.1 1 = 0 then _ else _) = _
  rw [h3, nI_clamp (by omega), if_pos ⟨hi, h1⟩, hc, nI_clamp (by omega)]
theorem lp_e {t : Nat → Int32} {n f i : Nat} {r : RS} (h3 : r.1 3 = nI i) (hi : i ≤ n) (hn : n ≤ 240) (h : ¬ (i < n ∧ r.1 1 = 0)) : lpR t n f r = r := by
  cases f with
  | zero => rfl
  | succ f =>
    show (if (r.1 3).toNatClampNeg < n ∧ r.1 1 = 0 then _ else _) = _
    rw [h3, nI_clamp (by omega), if_neg h]
theorem RV_lp {t : Nat → Int32} {n : Nat} (hn : n ≤ 240) : ∀ (f : Nat) (r : RS) (W H P i : Nat), RV n r W H P i → ∃ W' H' P' i', RV n (lpR t n f r) W' H' P' i'
  | 0, r, W, H, P, i, h => ⟨W, H, P, i, h⟩
  | f + 1, r, W, H, P, i, h => by
    by_cases hc : i < n ∧ r.1 1 = 0
    · obtain ⟨W', H', P', i', h2⟩ := RV_cl (t := t) h hc.1
      rw [lp_s h.1 hc.1 hn h2.2.1 hc.2 h2.1]
      exact RV_lp hn f _ _ _ _ _ (RV_sk h2 (skN_b t h2.2.1).2)
    · rw [lp_e h.1 h.2.1 hn hc]
      exact ⟨W, H, P, i, h⟩
/-- the state in which reading begins -/
def r0R (t : Nat → Int32) (n : Nat) (r : RS) : RS := sR (clrR (sR (sR (sR (sR r 1 0) 2 (-1)) 3 0) 5 0)) 3 (nI (skN t n 0))
section INT
variable {sc : Scr} {d : Nat} {w : Bool} {s : Nat → Int32} {l : Nat → Int64} {A : Nat → Nat → Int32} {B : Nat → Nat → Int64} {r : RS} {t : Nat → Int32} {n : Nat}
theorem RV_0 (t : Nat → Int32) (n : Nat) (r : RS) : RV n (r0R t n r) 0 0 0 (skN t n 0) := ⟨rfl, (skN_b t (Nat.zero_le n)).2, rfl, rfl, rfl, by decide, by decide, by decide, Or.inl ⟨rfl, rfl⟩, all_0.symm, (lef_0 0).symm, (rig_0 0).symm⟩
theorem e_readClause (ht : A 2 = t) (hs : s 0 = nI n) (hn : n ≤ 240) {W H P i : Nat} (hr : RV n r W H P i) (hi : i < n) : Ev sc (d + 3) m_R_readClause 0 (iniL 3 [.ref 1, .ref (wL (!w))]) [] (DR w s l A B r) none (DR w s l A B (clzR t n r i)) := by
  have h0 := RV_sk hr (k := i + 1) hi
  have hz : (sR r 3 (nI (i + 1))).1 19 = 0 → (sR r 3 (nI (i + 1))).2.1 5 = 0 ∧ (sR r 3 (nI (i + 1))).2.1 6 = 0 := by
    intro z
    have hW : W = 0 := (nI_eq (b := 0) (by have := hr.2.2.2.2.2.1; omega) (by decide)).mp (hr.2.2.1.symm.trans z)
    refine ⟨hr.2.2.2.2.2.2.2.2.2.2.1.trans ?_, hr.2.2.2.2.2.2.2.2.2.2.2.trans ?_⟩
    · rw [hW, Nat.zero_mul, lef_0]
    · rw [hW, Nat.zero_mul, rig_0]
  have hfin : ∀ (r1 : RS) (W' H' P' i1 : Nat), RV n r1 W' H' P' i1 → ∀ L2 : Lcs, L2.length = 3 → gL L2 0 = some (.ref 1) → Ev sc (d + 3) m_R_readClause 143 [some (.ref 1), some (.ref (wL (!w))), none] [] (DR w s l A B r1) none (DR w s l A B (endR t n r1 i1)) := by
    intro r1 W' H' P' i1 h1 _ _ _
    repeat (first | refine ev_gos 99 rfl ?_ | refine ev_gf2 rfl rfl rfl rfl ?_ | refine ev_gf2 rfl rfl HH_land rfl ?_ | refine ev_gf2 rfl rfl HH_draft rfl ?_ | refine ev_gf2 rfl rfl (by with_reducible assumption) rfl ?_)
    refine ev_cv rfl rfl rfl (e_readEnd ht hs hn h1.2.1 h1.1) ?_
    exact ev_rv rfl rfl
  have hfin2 : ∀ (r1 : RS) (W' H' P' i1 : Nat) (x : Int32), RV n r1 W' H' P' i1 → Ev sc (d + 3) m_R_readClause 143 [some (.ref 1), some (.ref (wL (!w))), some (.int x)] [] (DR w s l A B r1) none (DR w s l A B (endR t n r1 i1)) := fun r1 W' H' P' i1 x h1 => ev_wk2 (hfin r1 W' H' P' i1 h1 [some (.ref 1), none, none] rfl rfl) rfl (by repeat' (first | exact trivial | refine ⟨rfl, ?_⟩))
  repeat (first | refine ev_gos 99 rfl ?_ | refine ev_gf2 rfl rfl rfl rfl ?_ | refine ev_gf2 rfl rfl HH_land rfl ?_ | refine ev_gf2 rfl rfl HH_draft rfl ?_ | refine ev_gf2 rfl rfl (by with_reducible assumption) rfl ?_)
  refine ev_ia rfl rfl (by show inB (r.1 3) 240 = true; rw [hr.1]; exact inI (by omega) (by decide)) ?_
  refine (?_ : Ek sc (d + 3) m_R_readClause 9 _ [.int (A 2 (r.1 3).toNatClampNeg)] _ _ _ _ _)
  rw [hr.1, nI_clamp (by omega), ht]
  unfold clzR
  generalize hx : t i = x
  have key : ¬ (¬ x = 110 ∧ r.1 19 = 0) → Ev sc (d + 3) m_R_readClause 33 [some (.ref 1), some (.ref (wL (!w))), some (.int x)] [] (DR w s l A B r) none (DR w s l A B (if x = 110 then endR t n (sdR t n (sR r 3 (nI (i + 1))) (i + 1)) (nE t n (nE t n (i + 1))) else if x = 112 then endR t n (psR t n (sR r 3 (nI (i + 1))) (i + 1)) (nE t n (i + 1)) else if x = 119 then endR t n (wdR t n (sR r 3 (nI (i + 1))) (i + 1)) (nE t n (i + 1)) else if x = 114 then endR t n (rkR t n (sR r 3 (nI (i + 1))) (i + 1)) (nE t n (nE t n (i + 1))) else endR t n (cmR (sR r 3 (nI (i + 1))) 1 (nI i)) (i + 1))) := by
    intro hq
    repeat (first | refine ev_gos 99 rfl ?_ | refine ev_gf2 rfl rfl rfl rfl ?_ | refine ev_gf2 rfl rfl HH_land rfl ?_ | refine ev_gf2 rfl rfl HH_draft rfl ?_ | refine ev_gf2 rfl rfl (by with_reducible assumption) rfl ?_)
    refine pD_3 rfl ?_
    refine (?_ : Ek sc (d + 3) m_R_readClause 43 _ _ (DR w s l A B (sR r 3 (r.1 3 + 1))) _ _ _ _)
    rw [hr.1, nI_1]
    repeat (first | refine ev_gos 99 rfl ?_ | refine ev_gf2 rfl rfl rfl rfl ?_ | refine ev_gf2 rfl rfl HH_land rfl ?_ | refine ev_gf2 rfl rfl HH_draft rfl ?_ | refine ev_gf2 rfl rfl (by with_reducible assumption) rfl ?_)
    by_cases c1 : x = 110
    · rw [if_pos c1]
      refine ev_sw rfl rfl (by rw [c1]; rfl : _ = some 100) ?_
      repeat (first | refine ev_gos 99 rfl ?_ | refine ev_gf2 rfl rfl rfl rfl ?_ | refine ev_gf2 rfl rfl HH_land rfl ?_ | refine ev_gf2 rfl rfl HH_draft rfl ?_ | refine ev_gf2 rfl rfl (by with_reducible assumption) rfl ?_)
      refine ev_cv rfl rfl rfl (e_readSides ht hs hn (i := i + 1) (by omega) hi rfl hz) ?_
      obtain ⟨W', H', h1⟩ := RV_sd (t := t) h0
      refine ev_gos 1 rfl ?_
      exact hfin2 _ _ _ _ _ x h1
    · rw [if_neg c1]
      by_cases c2 : x = 112
      · rw [if_pos c2]
        refine ev_sw rfl rfl (by rw [c2]; rfl : _ = some 108) ?_
        repeat (first | refine ev_gos 99 rfl ?_ | refine ev_gf2 rfl rfl rfl rfl ?_ | refine ev_gf2 rfl rfl HH_land rfl ?_ | refine ev_gf2 rfl rfl HH_draft rfl ?_ | refine ev_gf2 rfl rfl (by with_reducible assumption) rfl ?_)
        refine ev_cv rfl rfl rfl (e_readPerson ht hs hn (i := i + 1) (P := P) (by omega) hi rfl h0.2.2.2.2.1 h0.2.2.2.2.2.2.2.1) ?_
        obtain ⟨P', h1⟩ := RV_ps (t := t) h0
        refine ev_gos 1 rfl ?_
        exact hfin2 _ _ _ _ _ x h1
      · rw [if_neg c2]
        by_cases c3 : x = 119
        · rw [if_pos c3]
          refine ev_sw rfl rfl (by rw [c3]; rfl : _ = some 116) ?_
          repeat (first | refine ev_gos 99 rfl ?_ | refine ev_gf2 rfl rfl rfl rfl ?_ | refine ev_gf2 rfl rfl HH_land rfl ?_ | refine ev_gf2 rfl rfl HH_draft rfl ?_ | refine ev_gf2 rfl rfl (by with_reducible assumption) rfl ?_)
          refine ev_cv rfl rfl rfl (e_readWind ht hs hn (i := i + 1) (by omega) hi rfl) ?_
          refine ev_gos 1 rfl ?_
          exact hfin2 _ _ _ _ _ x (RV_wd (t := t) h0)
        · rw [if_neg c3]
          by_cases c4 : x = 114
          · rw [if_pos c4]
            refine ev_sw rfl rfl (by rw [c4]; rfl : _ = some 124) ?_
            repeat (first | refine ev_gos 99 rfl ?_ | refine ev_gf2 rfl rfl rfl rfl ?_ | refine ev_gf2 rfl rfl HH_land rfl ?_ | refine ev_gf2 rfl rfl HH_draft rfl ?_ | refine ev_gf2 rfl rfl (by with_reducible assumption) rfl ?_)
            refine ev_cv rfl rfl rfl (e_readRock ht hs hn (i := i + 1) (by omega) hi rfl) ?_
            refine ev_gos 1 rfl ?_
            exact hfin2 _ _ _ _ _ x (RV_rk (t := t) h0)
          · rw [if_neg c4]
            have hsw : swT (.tableswitch 88 110 119 #[56, 88, 64, 88, 80, 88, 88, 88, 88, 72]) 44 x = some 132 := by
              by_cases o1 : x.toInt < 110 ∨ 119 < x.toInt
              · exact sw_out o1
              · obtain ⟨k, k1, k2, k3⟩ := rngN (v := x) (a := 110) (b := 119) (by decide) (by decide) (by rw [Int32.lt_iff_toInt_lt]; exact fun z => o1 (Or.inl z)) (by rw [Int32.lt_iff_toInt_lt]; exact fun z => o1 (Or.inr z))
                subst k3
                rcases (show k = 110 ∨ k = 111 ∨ k = 112 ∨ k = 113 ∨ k = 114 ∨ k = 115 ∨ k = 116 ∨ k = 117 ∨ k = 118 ∨ k = 119 by omega) with rfl | rfl | rfl | rfl | rfl | rfl | rfl | rfl | rfl | rfl
                · exact absurd rfl c1
                · rfl
                · exact absurd rfl c2
                · rfl
                · exact absurd rfl c4
                · rfl
                · rfl
                · rfl
                · rfl
                · exact absurd rfl c3
            refine ev_sw rfl rfl hsw ?_
            repeat (first | refine ev_gos 99 rfl ?_ | refine ev_gf2 rfl rfl rfl rfl ?_ | refine ev_gf2 rfl rfl HH_land rfl ?_ | refine ev_gf2 rfl rfl HH_draft rfl ?_ | refine ev_gf2 rfl rfl (by with_reducible assumption) rfl ?_)
            refine ev_cv rfl rfl rfl (e_complain 1 (nI (i + 1) - 1)) ?_
            rw [nI_pred]
            exact hfin2 _ _ _ _ _ x (RV_cm h0 1 (nI i))
  repeat (first | refine ev_gos 99 rfl ?_ | refine ev_gf2 rfl rfl rfl rfl ?_ | refine ev_gf2 rfl rfl HH_land rfl ?_ | refine ev_gf2 rfl rfl HH_draft rfl ?_ | refine ev_gf2 rfl rfl (by with_reducible assumption) rfl ?_)
  by_cases c1 : x = 110
  · refine ev_ift rfl rfl rfl (c_eq c1) ?_
    rw [if_neg (fun z => z.1 c1)]
    exact key (fun z => z.1 c1)
  · refine ev_iff rfl rfl rfl (d_eq c1) ?_
    repeat (first | refine ev_gos 99 rfl ?_ | refine ev_gf2 rfl rfl rfl rfl ?_ | refine ev_gf2 rfl rfl HH_land rfl ?_ | refine ev_gf2 rfl rfl HH_draft rfl ?_ | refine ev_gf2 rfl rfl (by with_reducible assumption) rfl ?_)
    by_cases c2 : r.1 19 = 0
    · rw [if_pos ⟨c1, c2⟩]
      refine ev_iff rfl rfl rfl (j_ne c2) ?_
      repeat (first | refine ev_gos 99 rfl ?_ | refine ev_gf2 rfl rfl rfl rfl ?_ | refine ev_gf2 rfl rfl HH_land rfl ?_ | refine ev_gf2 rfl rfl HH_draft rfl ?_ | refine ev_gf2 rfl rfl (by with_reducible assumption) rfl ?_)
      refine ev_cv rfl rfl rfl (e_complain 1 (r.1 3)) ?_
      rw [hr.1]
      exact ev_rv rfl rfl
    · rw [if_neg (fun z => c2 z.2)]
      refine ev_ift rfl rfl rfl (i_ne c2) ?_
      exact key (fun z => c2 z.2)
theorem e_into_loop (ht : A 2 = t) (hs : s 0 = nI n) (hn : n ≤ 240) {h' : AHp} (hk : ∀ r1 : RS, Ev sc (d + 4) m_R_readInto 70 [some (.ref 1), some (.ref (wL (!w))), none] [] (DR w s l A B r1) none h' → True) (hfin : Ev sc (d + 4) m_R_readInto 70 [some (.ref 1), some (.ref (wL (!w))), none] [] (DR w s l A B (lpR t n 240 r)) none h') : ∀ (f k : Nat) (r1 : RS) (W H P i : Nat), k + f = 240 → RV n r1 W H P i → lpR t n f r1 = lpR t n 240 r → Ev sc (d + 4) m_R_readInto 34 [some (.ref 1), some (.ref (wL (!w))), some (.int (nI k))] [.int 240, .int (nI k)] (DR w s l A B r1) none h' := by
  intro f
  induction f with
  | zero =>
    intro k r1 W H P i hk hr he
    have e : k = 240 := by omega
    subst e
    refine ev_ift rfl rfl rfl (c_ge (by decide : (240 : Int32) ≤ nI 240)) ?_
    rw [← he] at hfin
    exact ev_wk2 hfin rfl (by repeat' (first | exact trivial | refine ⟨rfl, ?_⟩))
  | succ f ih =>
    intro k r1 W H P i hk hr he
    refine ev_iff rfl rfl rfl (d_ge (nI_lt3 (b := 240) (by omega) (by omega) (by omega))) ?_
    repeat (first | refine ev_gos 99 rfl ?_ | refine ev_gf2 rfl rfl rfl rfl ?_ | refine ev_gf2 rfl rfl HH_land rfl ?_ | refine ev_gf2 rfl rfl HH_draft rfl ?_ | refine ev_gf2 rfl rfl (by with_reducible assumption) rfl ?_)
    by_cases h1 : i < n
    · refine ev_iff rfl rfl rfl (d_ge (by show ¬ s 0 ≤ r1.1 3; rw [hs, hr.1]; exact nI_lt3 (by omega) (by omega) (by omega))) ?_
      repeat (first | refine ev_gos 99 rfl ?_ | refine ev_gf2 rfl rfl rfl rfl ?_ | refine ev_gf2 rfl rfl HH_land rfl ?_ | refine ev_gf2 rfl rfl HH_draft rfl ?_ | refine ev_gf2 rfl rfl (by with_reducible assumption) rfl ?_)
      by_cases h2 : r1.1 1 = 0
      · refine ev_iff rfl rfl rfl (j_ne h2) ?_
        repeat (first | refine ev_gos 99 rfl ?_ | refine ev_gf2 rfl rfl rfl rfl ?_ | refine ev_gf2 rfl rfl HH_land rfl ?_ | refine ev_gf2 rfl rfl HH_draft rfl ?_ | refine ev_gf2 rfl rfl (by with_reducible assumption) rfl ?_)
        refine ev_cv rfl rfl rfl (e_readClause ht hs hn hr h1) ?_
        obtain ⟨W', H', P', i', h3⟩ := RV_cl (t := t) hr h1
        repeat (first | refine ev_gos 99 rfl ?_ | refine ev_gf2 rfl rfl rfl rfl ?_ | refine ev_gf2 rfl rfl HH_land rfl ?_ | refine ev_gf2 rfl rfl HH_draft rfl ?_ | refine ev_gf2 rfl rfl (by with_reducible assumption) rfl ?_)
        refine ev_cv rfl rfl rfl (e_skip ht hs hn h3.2.1 h3.1) ?_
        repeat (first | refine ev_gos 99 rfl ?_ | refine ev_gf2 rfl rfl rfl rfl ?_ | refine ev_gf2 rfl rfl HH_land rfl ?_ | refine ev_gf2 rfl rfl HH_draft rfl ?_ | refine ev_gf2 rfl rfl (by with_reducible assumption) rfl ?_)
        rw [lp_s hr.1 h1 hn h3.2.1 h2 h3.1] at he
        have h5 := ih (k + 1) _ W' H' P' _ (by omega) (RV_sk h3 (skN_b t h3.2.1).2) he
        rw [← nI_1] at h5
        exact h5
      · rw [lp_e hr.1 hr.2.1 hn (fun z => h2 z.2)] at he
        refine ev_ift rfl rfl rfl (i_ne h2) ?_
        rw [← he] at hfin
        exact ev_wk2 hfin rfl (by repeat' (first | exact trivial | refine ⟨rfl, ?_⟩))
    · rw [lp_e hr.1 hr.2.1 hn (fun z => h1 z.1)] at he
      refine ev_ift rfl rfl rfl (c_ge (by show s 0 ≤ r1.1 3; rw [hs, hr.1]; exact (nI_leI (by omega) (by have := hr.2.1; omega)).mpr (by omega))) ?_
      rw [← he] at hfin
      exact ev_wk2 hfin rfl (by repeat' (first | exact trivial | refine ⟨rfl, ?_⟩))
theorem e_readInto (ht : A 2 = t) (hs : s 0 = nI n) (hn : n ≤ 240) : ∃ W H P i, RV n (lpR t n 240 (r0R t n r)) W H P i ∧ Ev sc (d + 4) m_R_readInto 0 (iniL 3 [.ref 1, .ref (wL (!w))]) [] (DR w s l A B r) none (DR w (upA s 0 0) l A B (sRb (lpR t n 240 (r0R t n r)) (fo (dsK W (W * H) ((lpR t n 240 (r0R t n r)).2.1 7)) 5 (lpR t n 240 (r0R t n r)).2.2.2))) := by
  obtain ⟨W, H, P, i, hv⟩ := RV_lp (t := t) hn 240 _ _ _ _ _ (RV_0 t n r)
  refine ⟨W, H, P, i, hv, ?_⟩
  refine ev_gos 99 rfl ?_
  refine pD_1 rfl ?_
  refine ev_gos 99 rfl ?_
  refine pD_2 rfl ?_
  refine ev_gos 99 rfl ?_
  refine pD_3 rfl ?_
  refine ev_gos 99 rfl ?_
  refine pD_5 (Or.inl rfl) rfl ?_
  repeat (first | refine ev_gos 99 rfl ?_ | refine ev_gf2 rfl rfl rfl rfl ?_ | refine ev_gf2 rfl rfl HH_land rfl ?_ | refine ev_gf2 rfl rfl HH_draft rfl ?_ | refine ev_gf2 rfl rfl (by with_reducible assumption) rfl ?_)
  refine ev_cv rfl rfl HH_draft e_clear ?_
  repeat (first | refine ev_gos 99 rfl ?_ | refine ev_gf2 rfl rfl rfl rfl ?_ | refine ev_gf2 rfl rfl HH_land rfl ?_ | refine ev_gf2 rfl rfl HH_draft rfl ?_ | refine ev_gf2 rfl rfl (by with_reducible assumption) rfl ?_)
  refine ev_cv rfl rfl rfl (e_skip (n := n) (i := 0) ht hs hn (Nat.zero_le n) rfl) ?_
  repeat (first | refine ev_gos 99 rfl ?_ | refine ev_gf2 rfl rfl rfl rfl ?_ | refine ev_gf2 rfl rfl HH_land rfl ?_ | refine ev_gf2 rfl rfl HH_draft rfl ?_ | refine ev_gf2 rfl rfl (by with_reducible assumption) rfl ?_)
  refine e_into_loop (r := r0R t n r) ht hs hn (fun _ _ => trivial) ?_ 240 0 _ 0 0 0 _ rfl (RV_0 t n r) rfl
  repeat (first | refine ev_gos 99 rfl ?_ | refine ev_gf2 rfl rfl rfl rfl ?_ | refine ev_gf2 rfl rfl HH_land rfl ?_ | refine ev_gf2 rfl rfl HH_draft rfl ?_ | refine ev_gf2 rfl rfl (by with_reducible assumption) rfl ?_)
  refine ev_cv rfl rfl HH_draft (e_drawShapes hv.2.2.2.2.2.1 hv.2.2.2.2.2.2.1 hv.2.2.1 hv.2.2.2.1 hv.2.2.2.2.2.2.2.2.2.1 hv.2.2.2.2.2.2.2.2.2.2.1 hv.2.2.2.2.2.2.2.2.2.2.2) ?_
  repeat (first | refine ev_gos 99 rfl ?_ | refine ev_gf2 rfl rfl rfl rfl ?_ | refine ev_gf2 rfl rfl HH_land rfl ?_ | refine ev_gf2 rfl rfl HH_draft rfl ?_ | refine ev_gf2 rfl rfl (by with_reducible assumption) rfl ?_)
  refine pf_R_0 rfl ?_
  rw [rs_out _ _ rfl]
  exact ev_rv rfl rfl
theorem e_add {k : Nat} (hk : k ≤ 240) (hs : s 0 = nI k) (x : Int32) : Ev sc d m_R_add 0 (iniL 2 [.ref 1, .int x]) [] (HH w s l A B) (some (.int (if k < 240 then nI (k + 1) else -1000000004))) (if k < 240 then HH w (upA s 0 (nI (k + 1))) l (upA A 2 (upd (A 2) k x)) B else HH w s l A B) := by
  repeat (first | refine ev_gos 99 rfl ?_ | refine ev_gf2 rfl rfl rfl rfl ?_ | refine ev_gf2 rfl rfl HH_land rfl ?_ | refine ev_gf2 rfl rfl HH_draft rfl ?_ | refine ev_gf2 rfl rfl (by with_reducible assumption) rfl ?_)
  by_cases h6 : k < 240
  · refine ev_ift rfl rfl rfl (c_lt (by rw [hs]; exact (nI_ltI (by omega) (by decide)).mpr h6 : s 0 < nI 240)) ?_
    repeat (first | refine ev_gos 99 rfl ?_ | refine ev_gf2 rfl rfl rfl rfl ?_ | refine ev_gf2 rfl rfl HH_land rfl ?_ | refine ev_gf2 rfl rfl HH_draft rfl ?_ | refine ev_gf2 rfl rfl (by with_reducible assumption) rfl ?_)
    refine is_2 rfl (by rw [hs]; exact inI h6 (by decide)) ?_
    repeat (first | refine ev_gos 99 rfl ?_ | refine ev_gf2 rfl rfl rfl rfl ?_ | refine ev_gf2 rfl rfl HH_land rfl ?_ | refine ev_gf2 rfl rfl HH_draft rfl ?_ | refine ev_gf2 rfl rfl (by with_reducible assumption) rfl ?_)
    refine pf_R_0 rfl ?_
    repeat (first | refine ev_gos 99 rfl ?_ | refine ev_gf2 rfl rfl rfl rfl ?_ | refine ev_gf2 rfl rfl HH_land rfl ?_ | refine ev_gf2 rfl rfl HH_draft rfl ?_ | refine ev_gf2 rfl rfl (by with_reducible assumption) rfl ?_)
    rw [if_pos h6, if_pos h6]
    have e1 : s 0 + 1 = nI (k + 1) := by rw [hs, nI_1]
    refine ev_ri rfl e1 ?_
    show HH w (upA s 0 (s 0 + 1)) l (upA A 2 (upd (A 2) (s 0).toNatClampNeg x)) B = _
    rw [e1, hs, nI_clamp (by omega)]
  · refine ev_iff rfl rfl rfl (d_lt (by rw [hs]; exact fun z => h6 ((nI_ltI (by omega) (by decide)).mp z) : ¬ s 0 < nI 240)) ?_
    repeat (first | refine ev_gos 99 rfl ?_ | refine ev_gf2 rfl rfl rfl rfl ?_ | refine ev_gf2 rfl rfl HH_land rfl ?_ | refine ev_gf2 rfl rfl HH_draft rfl ?_ | refine ev_gf2 rfl rfl (by with_reducible assumption) rfl ?_)
    rw [if_neg h6, if_neg h6]
    exact ev_ri rfl rfl rfl
end INT
