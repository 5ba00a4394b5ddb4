/-! the model: who lies farthest out, deeds, nights -/
def slM (W H : Nat) (g f : Nat → Int32) (p : Nat) : Int64 := if atM f p = -1 then 0 else shpM W H (kdM g p).toNatClampNeg (atM f p).toNatClampNeg
/-- all rows one place on -/
def shf (R : Nat → Int32) (k : Nat) : Nat → Int32 := fun j => if j < k then R (j + 58) else R j
theorem shf_0 (R : Nat → Int32) : shf R 0 = R := by funext j; unfold shf; rw [if_neg (by omega)]
theorem shf_s (R : Nat → Int32) (k : Nat) : upd (shf R k) k (R (k + 58)) = shf R (k + 1) := by
  funext j
  by_cases h : j = k
  · rw [h, pk_us]
    unfold shf
    rw [if_pos (by omega)]
  · rw [pk_un h]
    unfold shf
    by_cases h2 : j < k
    · rw [if_pos h2, if_pos (by omega)]
    · rw [if_neg h2, if_neg (by omega)]
def pstM (R f : Nat → Int32) (c : Nat) : Nat → Int32 := va_cpy f (if c = 30 then shf R 1682 else R) 0 (58 * rmC c) 58
/-- where the wind doesn't come, to the model -/
def stl (W H : Nat) (rk : Int64) (f : Nat → Int32) (k c : Nat) : Bool := if k = 0 then true else ohas (rk ||| dnS f 1 49) (bsd W H c (opW k))
def nmF (W H : Nat) (rk : Int64) (f : Nat → Int32) (k c : Nat) (v : Int32) : Int32 := if 0 < v then (if v - (bif stl W H rk f k c then 1 else 2) < 0 then 0 else v - (bif stl W H rk f k c then 1 else 2)) else v
def nmI (W H : Nat) (rk : Int64) (f : Nat → Int32) (k : Nat) : Nat → Int32 := upd (mapP (nmF W H rk f k) f (W * H)) 56 (f 56 + 1)
def snM (_ : Nat) (v : Int32) : Int32 := if 5 ≤ v then v - 1 else 0
def mlM (_ : Nat) (v : Int32) : Int32 := if v - 3 < 0 then 0 else v - 3
def rnM (v : Int32) : Int32 := if 9 < v + 2 then 9 else v + 2
theorem lt_le1 {x : Int32} : 0 < x ↔ 1 ≤ x := by
  rw [Int32.lt_iff_toInt_lt, Int32.le_iff_toInt_le]
  show (0 : Int) < x.toInt ↔ (1 : Int) ≤ x.toInt
  omega
section MDE
variable {sc : Scr} {d : Nat} {w : Bool} {s : Nat → Int32} {l : Nat → Int64} {A : Nat → Nat → Int32} {B : Nat → Nat → Int64} {W H P : Nat} {rk : Int64}
theorem e_mfar_in (hM : MN (A 27) rk W H P) (hL : LF (atM (A 29)) (W * H)) {p : Nat} (hp : p < P) (x y : Int32) {r : Option Value} {h' : AHp} (hout : Ev sc (d + 1) m_M_farOut 98 [some (.ref 26), some (.int x), some (.int y), some (.int (nI p)), some (.int (encF (nrP W (atM (A 29)) p P))), none] [] (HH w s l A B) r h') : ∀ (n i : Nat), i + n = P → Ev sc (d + 1) m_M_farOut 30 [some (.ref 26), some (.int x), some (.int y), some (.int (nI p)), some (.int (encF (nrP W (atM (A 29)) p i))), some (.int (nI i))] [.int 2, .ref 27, .int (nI i)] (HH w s l A B) r h' := by
  have hP7 : P ≤ 7 := hM.2.2.2.2.2.1
  have h49 := hM.n49
  intro n
  induction n with
  | zero =>
    intro i hi
    have e : i = P := by omega
    refine ev_ix 2 rfl rfl rfl (by decide) (by decide) ?_
    rw [hM.2.2.1, ← e]
    refine ev_ift rfl rfl rfl (c_ge ((nI_leI (by omega) (by omega)).mpr (by omega))) ?_
    rw [← e] at hout
    exact ev_wk2 hout rfl (by repeat' (first | exact trivial | refine ⟨rfl, ?_⟩))
  | succ n ih =>
    intro i hi
    refine ev_ix 2 rfl rfl rfl (by decide) (by decide) ?_
    rw [hM.2.2.1]
    refine ev_iff rfl rfl rfl (d_ge (nI_lt3 (by omega) (by omega) (by omega))) ?_
    repeat (first | refine ev_gos 99 rfl ?_ | refine ev_gf2 rfl rfl rfl rfl ?_ | refine ev_gf2 rfl rfl HH_land rfl ?_ | refine ev_gf2 rfl rfl HH_draft rfl ?_ | refine ev_gf2 rfl rfl (by with_reducible assumption) rfl ?_)
    have h3 := ih (i + 1) (by omega)
    rw [← nI_1] at h3
    have hskip : (i = p ∨ atM (A 29) p = -1 ∨ atM (A 29) i = -1) → nrP W (atM (A 29)) p (i + 1) = nrP W (atM (A 29)) p i := fun h => by
      show (if i = p ∨ atM (A 29) p = -1 ∨ atM (A 29) i = -1 then _ else _) = _
      rw [if_pos h]
    by_cases h1 : i = p
    · rw [hskip (Or.inl h1)] at h3
      refine ev_ift rfl rfl rfl (c_eq (by rw [h1])) ?_
      repeat (first | refine ev_gos 99 rfl ?_ | refine ev_gf2 rfl rfl rfl rfl ?_ | refine ev_gf2 rfl rfl HH_land rfl ?_ | refine ev_gf2 rfl rfl HH_draft rfl ?_ | refine ev_gf2 rfl rfl (by with_reducible assumption) rfl ?_)
      exact h3
    · refine ev_iff rfl rfl rfl (d_eq (fun z => h1 ((nI_eq (by omega) (by omega)).mp z.symm))) ?_
      repeat (first | refine ev_gos 99 rfl ?_ | refine ev_gf2 rfl rfl rfl rfl ?_ | refine ev_gf2 rfl rfl HH_land rfl ?_ | refine ev_gf2 rfl rfl HH_draft rfl ?_ | refine ev_gf2 rfl rfl (by with_reducible assumption) rfl ?_)
      refine ev_cv rfl rfl rfl (e_misLying (p := p) (by omega)) ?_
      by_cases h2 : atM (A 29) p = -1
      · rw [decide_eq_false (fun z => z h2)]
        rw [hskip (Or.inr (Or.inl h2))] at h3
        (first | refine ev_ift rfl rfl rfl rfl ?_ | refine ev_iff rfl rfl rfl rfl ?_)
        repeat (first | refine ev_gos 99 rfl ?_ | refine ev_gf2 rfl rfl rfl rfl ?_ | refine ev_gf2 rfl rfl HH_land rfl ?_ | refine ev_gf2 rfl rfl HH_draft rfl ?_ | refine ev_gf2 rfl rfl (by with_reducible assumption) rfl ?_)
        exact h3
      · rw [decide_eq_true h2]
        (first | refine ev_ift rfl rfl rfl rfl ?_ | refine ev_iff rfl rfl rfl rfl ?_)
        repeat (first | refine ev_gos 99 rfl ?_ | refine ev_gf2 rfl rfl rfl rfl ?_ | refine ev_gf2 rfl rfl HH_land rfl ?_ | refine ev_gf2 rfl rfl HH_draft rfl ?_ | refine ev_gf2 rfl rfl (by with_reducible assumption) rfl ?_)
        refine ev_cv rfl rfl rfl (e_misLying (p := i) (by omega)) ?_
        by_cases h4 : atM (A 29) i = -1
        · rw [decide_eq_false (fun z => z h4)]
          rw [hskip (Or.inr (Or.inr h4))] at h3
          (first | refine ev_ift rfl rfl rfl rfl ?_ | refine ev_iff rfl rfl rfl rfl ?_)
          repeat (first | refine ev_gos 99 rfl ?_ | refine ev_gf2 rfl rfl rfl rfl ?_ | refine ev_gf2 rfl rfl HH_land rfl ?_ | refine ev_gf2 rfl rfl HH_draft rfl ?_ | refine ev_gf2 rfl rfl (by with_reducible assumption) rfl ?_)
          exact h3
        · rw [decide_eq_true h4]
          (first | refine ev_ift rfl rfl rfl rfl ?_ | refine ev_iff rfl rfl rfl rfl ?_)
          repeat (first | refine ev_gos 99 rfl ?_ | refine ev_gf2 rfl rfl rfl rfl ?_ | refine ev_gf2 rfl rfl HH_land rfl ?_ | refine ev_gf2 rfl rfl HH_draft rfl ?_ | refine ev_gf2 rfl rfl (by with_reducible assumption) rfl ?_)
          refine ev_ix (49 + p) rfl rfl (nI_add 49 p) (by omega) (by decide) ?_
          repeat (first | refine ev_gos 99 rfl ?_ | refine ev_gf2 rfl rfl rfl rfl ?_ | refine ev_gf2 rfl rfl HH_land rfl ?_ | refine ev_gf2 rfl rfl HH_draft rfl ?_ | refine ev_gf2 rfl rfl (by with_reducible assumption) rfl ?_)
          refine ev_ix (49 + i) rfl rfl (nI_add 49 i) (by omega) (by decide) ?_
          rcases hL p (by omega) with e | ⟨a, a1, a2⟩
          · exact absurd e h2
          rcases hL i (by omega) with e | ⟨b, b1, b2⟩
          · exact absurd e h4
          have a3 : A 29 (49 + p) = nI a := a2
          have b3 : A 29 (49 + i) = nI b := b2
          rw [a3, b3]
          obtain ⟨hW, hH⟩ := hM.pos (by omega)
          refine ev_cv rfl rfl rfl (e_msteps hM (by omega) (by omega) (by omega)) ?_
          refine ev_cs rfl rfl rfl (e_lesser sc _ _ _ _) ?_
          have hst : nrP W (atM (A 29)) p (i + 1) = if nrP W (atM (A 29)) p i = -1 then nI (dist W a b) else if nI (dist W a b) < nrP W (atM (A 29)) p i then nI (dist W a b) else nrP W (atM (A 29)) p i := by
            show (if i = p ∨ atM (A 29) p = -1 ∨ atM (A 29) i = -1 then _ else _) = _
            rw [if_neg (by simp [h1, h2, h4]), a2, b2, nI_clamp (by omega), nI_clamp (by omega)]
          have hd := dist_le W (show a < 49 by omega) (show b < 49 by omega)
          have hen : (if encF (nrP W (atM (A 29)) p i) < nI (dist W a b) then encF (nrP W (atM (A 29)) p i) else nI (dist W a b)) = encF (nrP W (atM (A 29)) p (i + 1)) := by
            rw [hst]
            unfold encF
            rcases nrP_rng (W := W) hL h49 hP7 (p := p) (by omega) i (by omega) with e | ⟨v, v1, v2⟩
            · rw [e, if_pos rfl, if_pos rfl, if_neg (enc_ne (by omega)), if_neg]
              show ¬ nI 100000000 < nI (dist W a b)
              exact nI_nlt (by omega) (by omega)
            · have hne : ¬ nI v = -1 := enc_ne (by omega)
              rw [v2, if_neg hne, if_neg hne]
              by_cases q : dist W a b < v
              · rw [if_pos ((nI_ltI (by omega) (by omega)).mpr q), if_neg (nI_nlt (by omega) (by omega)), if_neg (enc_ne (by omega))]
              · rw [if_neg (fun z => q ((nI_ltI (by omega) (by omega)).mp z)), if_neg hne]
                by_cases q2 : v < dist W a b
                · rw [if_pos ((nI_ltI (by omega) (by omega)).mpr q2)]
                · rw [if_neg (fun z => q2 ((nI_ltI (by omega) (by omega)).mp z))]
                  congr 1
                  omega
          rw [← hen] at h3
          repeat (first | refine ev_gos 99 rfl ?_ | refine ev_gf2 rfl rfl rfl rfl ?_ | refine ev_gf2 rfl rfl HH_land rfl ?_ | refine ev_gf2 rfl rfl HH_draft rfl ?_ | refine ev_gf2 rfl rfl (by with_reducible assumption) rfl ?_)
          exact h3
theorem e_mfar_out (hM : MN (A 27) rk W H P) (hL : LF (atM (A 29)) (W * H)) : ∀ (n i : Nat), i + n = P → Ev sc (d + 1) m_M_farOut 12 [some (.ref 26), some (.int (farP W (atM (A 29)) P i).1), some (.int (farP W (atM (A 29)) P i).2), some (.int (nI i)), none, none] [.int 2, .ref 27, .int (nI i)] (HH w s l A B) (some (.int (farP W (atM (A 29)) P P).1)) (HH w s l A B) := by
  have hP7 : P ≤ 7 := hM.2.2.2.2.2.1
  have h49 := hM.n49
  have hmr : ∀ i, -1 ≤ (farP W (atM (A 29)) P i).2.toInt := by
    intro i
    induction i with
    | zero => show -1 ≤ (-1 : Int32).toInt; decide
    | succ i ih =>
      show -1 ≤ (if (farP W (atM (A 29)) P i).2 < nrP W (atM (A 29)) i P then (nI i, nrP W (atM (A 29)) i P) else farP W (atM (A 29)) P i).2.toInt
      split
      · rename_i q
        rw [Int32.lt_iff_toInt_lt] at q
        show -1 ≤ (nrP W (atM (A 29)) i P).toInt
        omega
      · exact ih
  intro n
  induction n with
  | zero =>
    intro i hi
    have e : i = P := by omega
    refine ev_ix 2 rfl rfl rfl (by decide) (by decide) ?_
    rw [hM.2.2.1, ← e]
    refine ev_ift rfl rfl rfl (c_ge ((nI_leI (by omega) (by omega)).mpr (by omega))) ?_
    repeat (first | refine ev_gos 99 rfl ?_ | refine ev_gf2 rfl rfl rfl rfl ?_ | refine ev_gf2 rfl rfl HH_land rfl ?_ | refine ev_gf2 rfl rfl HH_draft rfl ?_ | refine ev_gf2 rfl rfl (by with_reducible assumption) rfl ?_)
    exact ev_ri rfl rfl rfl
  | succ n ih =>
    intro i hi
    refine ev_ix 2 rfl rfl rfl (by decide) (by decide) ?_
    rw [hM.2.2.1]
    refine ev_iff rfl rfl rfl (d_ge (nI_lt3 (by omega) (by omega) (by omega))) ?_
    repeat (first | refine ev_gos 99 rfl ?_ | refine ev_gf2 rfl rfl rfl rfl ?_ | refine ev_gf2 rfl rfl HH_land rfl ?_ | refine ev_gf2 rfl rfl HH_draft rfl ?_ | refine ev_gf2 rfl rfl (by with_reducible assumption) rfl ?_)
    have h3 := ih (i + 1) (by omega)
    rw [← nI_1] at h3
    have hst : farP W (atM (A 29)) P (i + 1) = if (farP W (atM (A 29)) P i).2 < nrP W (atM (A 29)) i P then (nI i, nrP W (atM (A 29)) i P) else farP W (atM (A 29)) P i := rfl
    rw [hst] at h3
    have hm := hmr i
    refine e_mfar_in hM hL (p := i) (by omega) _ _ ?_ P 0 (Nat.zero_add P)
    generalize farP W (atM (A 29)) P i = a at h3 hm ⊢
    repeat (first | refine ev_gos 99 rfl ?_ | refine ev_gf2 rfl rfl rfl rfl ?_ | refine ev_gf2 rfl rfl HH_land rfl ?_ | refine ev_gf2 rfl rfl HH_draft rfl ?_ | refine ev_gf2 rfl rfl (by with_reducible assumption) rfl ?_)
    rcases nrP_rng (W := W) hL h49 hP7 (p := i) (by omega) P (Nat.le_refl P) with e | ⟨v, v1, v2⟩
    · rw [e] at h3 ⊢
      rw [if_neg (by rw [Int32.lt_iff_toInt_lt]; show ¬ a.2.toInt < -1; omega)] at h3
      refine ev_ift rfl rfl rfl (c_ge (by decide)) ?_
      repeat (first | refine ev_gos 99 rfl ?_ | refine ev_gf2 rfl rfl rfl rfl ?_ | refine ev_gf2 rfl rfl HH_land rfl ?_ | refine ev_gf2 rfl rfl HH_draft rfl ?_ | refine ev_gf2 rfl rfl (by with_reducible assumption) rfl ?_)
      exact ev_wk2 h3 rfl (by repeat' (first | exact trivial | refine ⟨rfl, ?_⟩))
    · have hne : ¬ nI v = -1 := enc_ne (by omega)
      have ee : encF (nI v) = nI v := by unfold encF; rw [if_neg hne]
      rw [v2] at h3 ⊢
      rw [ee]
      refine ev_iff rfl rfl rfl (d_ge (nI_lt3 (b := 100000000) (by omega) (by omega) (by omega))) ?_
      repeat (first | refine ev_gos 99 rfl ?_ | refine ev_gf2 rfl rfl rfl rfl ?_ | refine ev_gf2 rfl rfl HH_land rfl ?_ | refine ev_gf2 rfl rfl HH_draft rfl ?_ | refine ev_gf2 rfl rfl (by with_reducible assumption) rfl ?_)
      by_cases q : a.2 < nI v
      · rw [if_pos q] at h3
        refine ev_iff rfl rfl rfl (d_le (fun z => le_nlt z q)) ?_
        repeat (first | refine ev_gos 99 rfl ?_ | refine ev_gf2 rfl rfl rfl rfl ?_ | refine ev_gf2 rfl rfl HH_land rfl ?_ | refine ev_gf2 rfl rfl HH_draft rfl ?_ | refine ev_gf2 rfl rfl (by with_reducible assumption) rfl ?_)
        exact ev_wk2 h3 rfl (by repeat' (first | exact trivial | refine ⟨rfl, ?_⟩))
      · rw [if_neg q] at h3
        refine ev_ift rfl rfl rfl (c_le (nlt_le3 q)) ?_
        repeat (first | refine ev_gos 99 rfl ?_ | refine ev_gf2 rfl rfl rfl rfl ?_ | refine ev_gf2 rfl rfl HH_land rfl ?_ | refine ev_gf2 rfl rfl HH_draft rfl ?_ | refine ev_gf2 rfl rfl (by with_reducible assumption) rfl ?_)
        exact ev_wk2 h3 rfl (by repeat' (first | exact trivial | refine ⟨rfl, ?_⟩))
theorem e_mfar (hM : MN (A 27) rk W H P) (hL : LF (atM (A 29)) (W * H)) : Ev sc (d + 1) m_M_farOut 0 (iniL 6 [.ref 26]) [] (HH w s l A B) (some (.int (farP W (atM (A 29)) P P).1)) (HH w s l A B) := by
  repeat (first | refine ev_gos 99 rfl ?_ | refine ev_gf2 rfl rfl rfl rfl ?_ | refine ev_gf2 rfl rfl HH_land rfl ?_ | refine ev_gf2 rfl rfl HH_draft rfl ?_ | refine ev_gf2 rfl rfl (by with_reducible assumption) rfl ?_)
  exact e_mfar_out hM hL P 0 (Nat.zero_add P)
theorem e_mwhoAt_loop (hM : MN (A 27) rk W H P) (x : Int32) : ∀ (n i : Nat), i + n = P → Ev sc d m_M_whoIsAt 8 [some (.ref 26), some (.int x), some (.int (nI i))] [.int 2, .ref 27, .int (nI i)] (HH w s l A B) (some (.int (fnd (fun i => decide (atM (A 29) i = x)) n i))) (HH w s l A B) := by
  have hP7 : P ≤ 7 := hM.2.2.2.2.2.1
  intro n
  induction n with
  | zero =>
    intro i hi
    refine ev_ix 2 rfl rfl rfl (by decide) (by decide) ?_
    rw [hM.2.2.1]
    refine ev_ift rfl rfl rfl (c_ge ((nI_leI (by omega) (by omega)).mpr (by omega))) ?_
    repeat (first | refine ev_gos 99 rfl ?_ | refine ev_gf2 rfl rfl rfl rfl ?_ | refine ev_gf2 rfl rfl HH_land rfl ?_ | refine ev_gf2 rfl rfl HH_draft rfl ?_ | refine ev_gf2 rfl rfl (by with_reducible assumption) rfl ?_)
    exact ev_ri rfl rfl rfl
  | succ n ih =>
    intro i hi
    refine ev_ix 2 rfl rfl rfl (by decide) (by decide) ?_
    rw [hM.2.2.1]
    refine ev_iff rfl rfl rfl (d_ge (nI_lt3 (by omega) (by omega) (by omega))) ?_
    repeat (first | refine ev_gos 99 rfl ?_ | refine ev_gf2 rfl rfl rfl rfl ?_ | refine ev_gf2 rfl rfl HH_land rfl ?_ | refine ev_gf2 rfl rfl HH_draft rfl ?_ | refine ev_gf2 rfl rfl (by with_reducible assumption) rfl ?_)
    refine ev_ix (49 + i) rfl rfl (nI_add 49 i) (by omega) (by decide) ?_
    repeat (first | refine ev_gos 99 rfl ?_ | refine ev_gf2 rfl rfl rfl rfl ?_ | refine ev_gf2 rfl rfl HH_land rfl ?_ | refine ev_gf2 rfl rfl HH_draft rfl ?_ | refine ev_gf2 rfl rfl (by with_reducible assumption) rfl ?_)
    by_cases hq : A 29 (49 + i) = x
    · refine ev_iff rfl rfl rfl (d_ne hq) ?_
      repeat (first | refine ev_gos 99 rfl ?_ | refine ev_gf2 rfl rfl rfl rfl ?_ | refine ev_gf2 rfl rfl HH_land rfl ?_ | refine ev_gf2 rfl rfl HH_draft rfl ?_ | refine ev_gf2 rfl rfl (by with_reducible assumption) rfl ?_)
      refine ev_ri rfl ?_ rfl
      show nI i = (bif decide (atM (A 29) i = x) then _ else _)
      rw [decide_eq_true (show atM (A 29) i = x from hq)]
      rfl
    · refine ev_ift rfl rfl rfl (c_ne hq) ?_
      repeat (first | refine ev_gos 99 rfl ?_ | refine ev_gf2 rfl rfl rfl rfl ?_ | refine ev_gf2 rfl rfl HH_land rfl ?_ | refine ev_gf2 rfl rfl HH_draft rfl ?_ | refine ev_gf2 rfl rfl (by with_reducible assumption) rfl ?_)
      have h3 := ih (i + 1) (by omega)
      rw [← nI_1] at h3
      have e : fnd (fun i => decide (atM (A 29) i = x)) (n + 1) i = fnd (fun i => decide (atM (A 29) i = x)) n (i + 1) := by
        show (bif decide (atM (A 29) i = x) then _ else _) = _
        rw [decide_eq_false (show ¬ atM (A 29) i = x from hq)]
        rfl
      rw [e]
      exact h3
theorem e_mwhoAt (hM : MN (A 27) rk W H P) (x : Int32) : Ev sc d m_M_whoIsAt 0 (iniL 3 [.ref 26, .int x]) [] (HH w s l A B) (some (.int (fnd (fun i => decide (atM (A 29) i = x)) P 0))) (HH w s l A B) := by
  repeat (first | refine ev_gos 99 rfl ?_ | refine ev_gf2 rfl rfl rfl rfl ?_ | refine ev_gf2 rfl rfl HH_land rfl ?_ | refine ev_gf2 rfl rfl HH_draft rfl ?_ | refine ev_gf2 rfl rfl (by with_reducible assumption) rfl ?_)
  exact e_mwhoAt_loop hM x P 0 (Nat.zero_add P)
theorem e_mshapeOf (hM : MN (A 27) rk W H P) (hL : LF (atM (A 29)) (W * H)) {p : Nat} (hp : p < P) : Ev sc (d + 3) m_M_shapeOf 0 (iniL 2 [.ref 26, .int (nI p)]) [] (HH w s l A B) (some (.long (slM W H (A 27) (A 29) p))) (HH w s l A B) := by
  have hP7 : P ≤ 7 := hM.2.2.2.2.2.1
  have h49 := hM.n49
  unfold slM
  repeat (first | refine ev_gos 99 rfl ?_ | refine ev_gf2 rfl rfl rfl rfl ?_ | refine ev_gf2 rfl rfl HH_land rfl ?_ | refine ev_gf2 rfl rfl HH_draft rfl ?_ | refine ev_gf2 rfl rfl (by with_reducible assumption) rfl ?_)
  refine ev_cv rfl rfl rfl (e_misLying (p := p) (by omega)) ?_
  by_cases h2 : atM (A 29) p = -1
  · rw [decide_eq_false (fun z => z h2), if_pos h2]
    (first | refine ev_ift rfl rfl rfl rfl ?_ | refine ev_iff rfl rfl rfl rfl ?_)
    repeat (first | refine ev_gos 99 rfl ?_ | refine ev_gf2 rfl rfl rfl rfl ?_ | refine ev_gf2 rfl rfl HH_land rfl ?_ | refine ev_gf2 rfl rfl HH_draft rfl ?_ | refine ev_gf2 rfl rfl (by with_reducible assumption) rfl ?_)
    exact ev_rl rfl rfl rfl
  · rw [decide_eq_true h2, if_neg h2]
    (first | refine ev_ift rfl rfl rfl rfl ?_ | refine ev_iff rfl rfl rfl rfl ?_)
    repeat (first | refine ev_gos 99 rfl ?_ | refine ev_gf2 rfl rfl rfl rfl ?_ | refine ev_gf2 rfl rfl HH_land rfl ?_ | refine ev_gf2 rfl rfl HH_draft rfl ?_ | refine ev_gf2 rfl rfl (by with_reducible assumption) rfl ?_)
    refine ev_ix (5 + p) rfl rfl (nI_add 5 p) (by omega) (by decide) ?_
    repeat (first | refine ev_gos 99 rfl ?_ | refine ev_gf2 rfl rfl rfl rfl ?_ | refine ev_gf2 rfl rfl HH_land rfl ?_ | refine ev_gf2 rfl rfl HH_draft rfl ?_ | refine ev_gf2 rfl rfl (by with_reducible assumption) rfl ?_)
    refine ev_ix (49 + p) rfl rfl (nI_add 49 p) (by omega) (by decide) ?_
    obtain ⟨k, k1, k2⟩ := hM.2.2.2.2.2.2.2.1 p hp
    rcases hL p (by omega) with e | ⟨a, a1, a2⟩
    · exact absurd e h2
    have a3 : A 29 (49 + p) = nI a := a2
    have k3 : kdM (A 27) p = nI k := k2
    rw [k2, a3, a2, k3, nI_clamp (by omega), nI_clamp (by omega)]
    refine ev_cv rfl rfl rfl (e_mshape hM k1 a1) ?_
    repeat (first | refine ev_gos 99 rfl ?_ | refine ev_gf2 rfl rfl rfl rfl ?_ | refine ev_gf2 rfl rfl HH_land rfl ?_ | refine ev_gf2 rfl rfl HH_draft rfl ?_ | refine ev_gf2 rfl rfl (by with_reducible assumption) rfl ?_)
    exact ev_rl rfl rfl rfl
theorem e_mlayAside : Ev sc (d + 1) m_M_layAside 0 (iniL 1 [.ref 26]) [] (HH w s l A B) none (HH w s l (upA A 30 (va_cpy (A 29) (A 30) 0 0 58)) B) := by
  repeat (first | refine ev_gos 99 rfl ?_ | refine ev_gf2 rfl rfl rfl rfl ?_ | refine ev_gf2 rfl rfl HH_land rfl ?_ | refine ev_gf2 rfl rfl HH_draft rfl ?_ | refine ev_gf2 rfl rfl (by with_reducible assumption) rfl ?_)
  refine ev_cs rfl rfl rfl (e_copies (h := HH w s l A B) (p := 29) (q := 30) (m := 58) (m2 := 58) (f := A 29) (g := A 30) (i := 0) (j := 0) (z := 58) rfl rfl (by decide) rfl rfl rfl (by decide) (by decide) (by decide) (by decide)) ?_
  rw [HA_30]
  exact ev_rv rfl rfl
theorem e_mshift (R : Nat → Int32) {h' : AHp} (hout : Ev sc (d + 1) m_M_remember 39 [some (.ref 26), none] [] (HH w s l (upA A 32 (shf R 1682)) B) none h') : ∀ (n i : Nat), i + n = 1682 → Ev sc (d + 1) m_M_remember 15 [some (.ref 26), some (.int (nI i))] [.int 1682, .int (nI i)] (HH w s l (upA A 32 (shf R i)) B) none h' := by
  intro n
  induction n with
  | zero =>
    intro i hi
    have e : i = 1682 := by omega
    subst e
    refine ev_ift rfl rfl rfl (c_ge (by decide : (1682 : Int32) ≤ nI 1682)) ?_
    exact ev_wk2 hout rfl (by repeat' (first | exact trivial | refine ⟨rfl, ?_⟩))
  | succ n ih =>
    intro i hi
    refine ev_iff rfl rfl rfl (d_ge (nI_lt3 (b := 1682) (by omega) (by omega) (by omega))) ?_
    repeat (first | refine ev_gos 99 rfl ?_ | refine ev_gf2 rfl rfl rfl rfl ?_ | refine ev_gf2 rfl rfl HH_land rfl ?_ | refine ev_gf2 rfl rfl HH_draft rfl ?_ | refine ev_gf2 rfl rfl (by with_reducible assumption) rfl ?_)
    refine ev_ix (i + 58) rfl rfl (nI_add i 58) (by omega) (by decide) ?_
    rw [upA_at, show shf R i (i + 58) = R (i + 58) by unfold shf; rw [if_neg (by omega)]]
    refine iw_32 i rfl rfl (by omega) ?_
    rw [shf_s]
    repeat (first | refine ev_gos 99 rfl ?_ | refine ev_gf2 rfl rfl rfl rfl ?_ | refine ev_gf2 rfl rfl HH_land rfl ?_ | refine ev_gf2 rfl rfl HH_draft rfl ?_ | refine ev_gf2 rfl rfl (by with_reducible assumption) rfl ?_)
    have h3 := ih (i + 1) (by omega)
    rw [← nI_1] at h3
    exact h3
theorem e_mremember {c : Nat} (hc : s 23 = nI c) (h2 : c ≤ 30) : Ev sc (d + 1) m_M_remember 0 (iniL 2 [.ref 26]) [] (HH w s l A B) none (HH w (upA s 23 (nI (rmC c + 1))) l (upA A 32 (pstM (A 32) (A 29) c)) B) := by
  have key : ∀ (s1 : Nat → Int32) (R : Nat → Int32) (c1 : Nat), c1 < 30 → s1 23 = nI c1 → Ev sc (d + 1) m_M_remember 49 [some (.ref 26), none] [] (HH w s1 l (upA A 32 R) B) none (HH w (upA s1 23 (nI (c1 + 1))) l (upA A 32 (va_cpy (A 29) R 0 (58 * c1) 58)) B) := by
    intro s1 R c1 h1 h23
    repeat (first | refine ev_gos 99 rfl ?_ | refine ev_gf2 rfl rfl rfl rfl ?_ | refine ev_gf2 rfl rfl HH_land rfl ?_ | refine ev_gf2 rfl rfl HH_draft rfl ?_ | refine ev_gf2 rfl rfl (by with_reducible assumption) rfl ?_)
    refine ev_cs rfl rfl rfl (e_copies (h := HH w s1 l (upA A 32 R) B) (p := 29) (q := 32) (m := 58) (m2 := 1740) (f := A 29) (g := R) (i := 0) (j := 58 * c1) (z := 58) rfl rfl (by decide) rfl (by show 58 * s1 23 = _; rw [h23]; exact pk_mul 58 c1) rfl (by decide) (by omega) (by decide) (by decide)) ?_
    rw [HA_32, upA_up]
    repeat (first | refine ev_gos 99 rfl ?_ | refine ev_gf2 rfl rfl rfl rfl ?_ | refine ev_gf2 rfl rfl HH_land rfl ?_ | refine ev_gf2 rfl rfl HH_draft rfl ?_ | refine ev_gf2 rfl rfl (by with_reducible assumption) rfl ?_)
    refine pf_M_23 rfl ?_
    refine ev_rv rfl ?_
    show HH w (upA s1 23 (s1 23 + 1)) l _ B = _
    rw [h23, nI_1]
  repeat (first | refine ev_gos 99 rfl ?_ | refine ev_gf2 rfl rfl rfl rfl ?_ | refine ev_gf2 rfl rfl HH_land rfl ?_ | refine ev_gf2 rfl rfl HH_draft rfl ?_ | refine ev_gf2 rfl rfl (by with_reducible assumption) rfl ?_)
  unfold pstM rmC
  by_cases h30 : c = 30
  · rw [if_pos h30, if_pos h30]
    refine ev_iff rfl rfl rfl (d_ne (by rw [hc, h30]; rfl : s 23 = 30)) ?_
    repeat (first | refine ev_gos 99 rfl ?_ | refine ev_gf2 rfl rfl rfl rfl ?_ | refine ev_gf2 rfl rfl HH_land rfl ?_ | refine ev_gf2 rfl rfl HH_draft rfl ?_ | refine ev_gf2 rfl rfl (by with_reducible assumption) rfl ?_)
    have q : Ev sc (d + 1) m_M_remember 39 [some (.ref 26), none] [] (HH w s l (upA A 32 (shf (A 32) 1682)) B) none (HH w (upA s 23 (nI (29 + 1))) l (upA A 32 (va_cpy (A 29) (shf (A 32) 1682) 0 (58 * 29) 58)) B) := by
      repeat (first | refine ev_gos 99 rfl ?_ | refine ev_gf2 rfl rfl rfl rfl ?_ | refine ev_gf2 rfl rfl HH_land rfl ?_ | refine ev_gf2 rfl rfl HH_draft rfl ?_ | refine ev_gf2 rfl rfl (by with_reducible assumption) rfl ?_)
      refine pf_M_23 rfl ?_
      have k := key (upA s 23 (s 23 - 1)) (shf (A 32) 1682) 29 (by decide) (by show s 23 - 1 = _; rw [hc, h30]; rfl)
      rw [upA_up] at k
      exact k
    have h3 := e_mshift (sc := sc) (d := d) (A := A) (A 32) q 1682 0 rfl
    rw [shf_0, upA_id] at h3
    exact h3
  · rw [if_neg h30, if_neg h30]
    refine ev_ift rfl rfl rfl (c_ne (by rw [hc]; exact fun z => h30 ((nI_eq (by omega) (by decide)).mp z) : ¬ s 23 = nI 30)) ?_
    have k := key s (A 32) c (by omega) hc
    rw [upA_id] at k
    exact ev_wk2 k rfl (by repeat' (first | exact trivial | refine ⟨rfl, ?_⟩))
theorem e_mliesN (hM : MN (A 27) rk W H P) {p c k : Nat} (hp : p < P) (hc : c < W * H) (hk : k < 5) (ek : A 27 (5 + p) = nI k) : Ev sc (d + 3) m_M_lies 0 (iniL 4 [.ref 26, .ref 29, .int (nI p), .int (nI c)]) [] (HH w s l A B) none (HH w s l (upA A 29 (mapP (prF (shpM W H k c)) (upd (A 29) (49 + p) (nI c)) (W * H))) B) := by
  have hP7 : P ≤ 7 := hM.2.2.2.2.2.1
  repeat (first | refine ev_gos 99 rfl ?_ | refine ev_gf2 rfl rfl rfl rfl ?_ | refine ev_gf2 rfl rfl HH_land rfl ?_ | refine ev_gf2 rfl rfl HH_draft rfl ?_ | refine ev_gf2 rfl rfl (by with_reducible assumption) rfl ?_)
  refine iv_29 (49 + p) rfl (nI_add 49 p) (by omega) ?_
  repeat (first | refine ev_gos 99 rfl ?_ | refine ev_gf2 rfl rfl rfl rfl ?_ | refine ev_gf2 rfl rfl HH_land rfl ?_ | refine ev_gf2 rfl rfl HH_draft rfl ?_ | refine ev_gf2 rfl rfl (by with_reducible assumption) rfl ?_)
  refine ev_ix (5 + p) rfl rfl (nI_add 5 p) (by omega) (by decide) ?_
  refine (?_ : Ek sc (d + 3) m_M_lies 18 _ (.int (A 27 (5 + p)) :: _) _ _ _ _ _)
  rw [ek]
  repeat (first | refine ev_gos 99 rfl ?_ | refine ev_gf2 rfl rfl rfl rfl ?_ | refine ev_gf2 rfl rfl HH_land rfl ?_ | refine ev_gf2 rfl rfl HH_draft rfl ?_ | refine ev_gf2 rfl rfl (by with_reducible assumption) rfl ?_)
  refine ev_cv rfl rfl rfl (e_mshape (A := upA A 29 _) hM hk hc) ?_
  repeat (first | refine ev_gos 99 rfl ?_ | refine ev_gf2 rfl rfl rfl rfl ?_ | refine ev_gf2 rfl rfl HH_land rfl ?_ | refine ev_gf2 rfl rfl HH_draft rfl ?_ | refine ev_gf2 rfl rfl (by with_reducible assumption) rfl ?_)
  refine ev_cv rfl rfl rfl (e_mdentsN hM _ _) ?_
  exact ev_rv rfl rfl
theorem e_mnightN_loop (hM : MN (A 27) rk W H P) (f : Nat → Int32) {k : Nat} (hk : k ≤ 4) (ek : f 57 = nI k) (h31 : ∀ j, j < 49 → A 31 j = f j) (hrk : WI rk (W * H)) : ∀ (n i : Nat), i + n = W * H → Ev sc (d + 2) m_M_nightGoes 23 [some (.ref 26), some (.ref 29), some (.long rk), none, some (.int (nI i)), none, none] [.ref 26, .int (nI i)] (HH w s l (upA A 29 (mapP (nmF W H rk f k) f i)) B) none (HH w s l (upA A 29 (nmI W H rk f k)) B) := by
  have h49 := hM.n49
  intro n
  induction n with
  | zero =>
    intro i hi
    have e : i = W * H := by omega
    refine ev_cv rfl rfl rfl (e_mcells (A := upA A 29 _) hM) ?_
    rw [← e]
    refine ev_ift rfl rfl rfl (c_ge ((nI_leI (by omega) (by omega)).mpr (by omega))) ?_
    repeat (first | refine ev_gos 99 rfl ?_ | refine ev_gf2 rfl rfl rfl rfl ?_ | refine ev_gf2 rfl rfl HH_land rfl ?_ | refine ev_gf2 rfl rfl HH_draft rfl ?_ | refine ev_gf2 rfl rfl (by with_reducible assumption) rfl ?_)
    refine ev_ix 56 rfl rfl rfl (by decide) (by decide) ?_
    rw [upA_at, show mapP (nmF W H rk f k) f i 56 = f 56 by unfold mapP; rw [if_neg (by omega)]]
    repeat (first | refine ev_gos 99 rfl ?_ | refine ev_gf2 rfl rfl rfl rfl ?_ | refine ev_gf2 rfl rfl HH_land rfl ?_ | refine ev_gf2 rfl rfl HH_draft rfl ?_ | refine ev_gf2 rfl rfl (by with_reducible assumption) rfl ?_)
    refine iw_29 56 rfl rfl (by decide) ?_
    refine ev_rv rfl ?_
    unfold nmI
    rw [e]
  | succ n ih =>
    intro i hi
    obtain ⟨hW, hH⟩ := hM.pos (by omega)
    have hW7 : W ≤ 7 := hM.2.2.2.1
    have hH7 : H ≤ 7 := hM.2.2.2.2.1
    refine ev_cv rfl rfl rfl (e_mcells (A := upA A 29 _) hM) ?_
    refine ev_iff rfl rfl rfl (d_ge (nI_lt3 (by omega) (by omega) (by omega))) ?_
    repeat (first | refine ev_gos 99 rfl ?_ | refine ev_gf2 rfl rfl rfl rfl ?_ | refine ev_gf2 rfl rfl HH_land rfl ?_ | refine ev_gf2 rfl rfl HH_draft rfl ?_ | refine ev_gf2 rfl rfl (by with_reducible assumption) rfl ?_)
    refine ev_ix i rfl rfl rfl (by omega) (by decide) ?_
    refine (?_ : Ek sc (d + 2) m_M_nightGoes 36 _ [.int (A 31 i)] _ _ _ _ _)
    rw [h31 i (by omega)]
    have h57 : mapP (nmF W H rk f k) f i 57 = nI k := by
      rw [← ek]
      unfold mapP
      rw [if_neg (by omega)]
    have h3 := ih (i + 1) (by omega)
    rw [← nI_1] at h3
    by_cases h0 : 0 < f i
    · have fin : ∀ (o b6 : Int32) (b : Bool), stl W H rk f k i = b → Ev sc (d + 2) m_M_nightGoes 118 [some (.ref 26), some (.ref 29), some (.long rk), none, some (.int (nI i)), some (.int o), none] [.int (b01 b)] (HH w s l (upA A 29 (mapP (nmF W H rk f k) f i)) B) none (HH w s l (upA A 29 (nmI W H rk f k)) B) := by
        intro o b6 b hb
        have e9 : nmF W H rk f k i (f i) = if f i - (bif b then 1 else 2) < 0 then 0 else f i - (bif b then 1 else 2) := by
          unfold nmF
          rw [if_pos h0, hb]
        rw [← mapP_s, e9] at h3
        repeat (first | refine ev_gos 99 rfl ?_ | refine ev_gf2 rfl rfl rfl rfl ?_ | refine ev_gf2 rfl rfl HH_land rfl ?_ | refine ev_gf2 rfl rfl HH_draft rfl ?_ | refine ev_gf2 rfl rfl (by with_reducible assumption) rfl ?_)
        refine ev_ix i rfl rfl rfl (by omega) (by decide) ?_
        refine (?_ : Ek sc (d + 2) m_M_nightGoes 133 _ (.int (A 31 i) :: _) _ _ _ _ _)
        rw [h31 i (by omega)]
        repeat (first | refine ev_gos 99 rfl ?_ | refine ev_gf2 rfl rfl rfl rfl ?_ | refine ev_gf2 rfl rfl HH_land rfl ?_ | refine ev_gf2 rfl rfl HH_draft rfl ?_ | refine ev_gf2 rfl rfl (by with_reducible assumption) rfl ?_)
        cases b with
        | true =>
          (first | refine ev_ift rfl rfl rfl rfl ?_ | refine ev_iff rfl rfl rfl rfl ?_)
          repeat (first | refine ev_gos 99 rfl ?_ | refine ev_gf2 rfl rfl rfl rfl ?_ | refine ev_gf2 rfl rfl HH_land rfl ?_ | refine ev_gf2 rfl rfl HH_draft rfl ?_ | refine ev_gf2 rfl rfl (by with_reducible assumption) rfl ?_)
          refine ev_cs rfl rfl rfl (e_greater sc _ _ _ _) ?_
          refine iw_29 i rfl (Int32.zero_add _) (by omega) ?_
          repeat (first | refine ev_gos 99 rfl ?_ | refine ev_gf2 rfl rfl rfl rfl ?_ | refine ev_gf2 rfl rfl HH_land rfl ?_ | refine ev_gf2 rfl rfl HH_draft rfl ?_ | refine ev_gf2 rfl rfl (by with_reducible assumption) rfl ?_)
          exact ev_wk2 h3 rfl (by repeat' (first | exact trivial | refine ⟨rfl, ?_⟩))
        | false =>
          (first | refine ev_ift rfl rfl rfl rfl ?_ | refine ev_iff rfl rfl rfl rfl ?_)
          repeat (first | refine ev_gos 99 rfl ?_ | refine ev_gf2 rfl rfl rfl rfl ?_ | refine ev_gf2 rfl rfl HH_land rfl ?_ | refine ev_gf2 rfl rfl HH_draft rfl ?_ | refine ev_gf2 rfl rfl (by with_reducible assumption) rfl ?_)
          refine ev_cs rfl rfl rfl (e_greater sc _ _ _ _) ?_
          refine iw_29 i rfl (Int32.zero_add _) (by omega) ?_
          repeat (first | refine ev_gos 99 rfl ?_ | refine ev_gf2 rfl rfl rfl rfl ?_ | refine ev_gf2 rfl rfl HH_land rfl ?_ | refine ev_gf2 rfl rfl HH_draft rfl ?_ | refine ev_gf2 rfl rfl (by with_reducible assumption) rfl ?_)
          exact ev_wk2 h3 rfl (by repeat' (first | exact trivial | refine ⟨rfl, ?_⟩))
      refine ev_iff rfl rfl rfl (j_le (fun z => le_nlt z h0)) ?_
      repeat (first | refine ev_gos 99 rfl ?_ | refine ev_gf2 rfl rfl rfl rfl ?_ | refine ev_gf2 rfl rfl HH_land rfl ?_ | refine ev_gf2 rfl rfl HH_draft rfl ?_ | refine ev_gf2 rfl rfl (by with_reducible assumption) rfl ?_)
      refine ev_ix 57 rfl rfl rfl (by decide) (by decide) ?_
      rw [upA_at, h57]
      by_cases hk0 : k = 0
      · refine ev_iff rfl rfl rfl (j_ne (by rw [hk0]; rfl)) ?_
        repeat (first | refine ev_gos 99 rfl ?_ | refine ev_gf2 rfl rfl rfl rfl ?_ | refine ev_gf2 rfl rfl HH_land rfl ?_ | refine ev_gf2 rfl rfl HH_draft rfl ?_ | refine ev_gf2 rfl rfl (by with_reducible assumption) rfl ?_)
        refine ev_ix 57 rfl rfl rfl (by decide) (by decide) ?_
        rw [upA_at, h57]
        refine ev_ift rfl rfl rfl (i_eq (by rw [hk0]; rfl)) ?_
        refine ev_gos 1 rfl ?_
        refine ev_gos 1 rfl ?_
        exact ev_wk2 (fin (-1) 0 true (by unfold stl; rw [if_pos hk0])) rfl (by repeat' (first | exact trivial | refine ⟨rfl, ?_⟩))
      · refine ev_ift rfl rfl rfl (i_ne (nI_ne (by omega) (by omega))) ?_
        repeat (first | refine ev_gos 99 rfl ?_ | refine ev_gf2 rfl rfl rfl rfl ?_ | refine ev_gf2 rfl rfl HH_land rfl ?_ | refine ev_gf2 rfl rfl HH_draft rfl ?_ | refine ev_gf2 rfl rfl (by with_reducible assumption) rfl ?_)
        refine ev_ix 57 rfl rfl rfl (by decide) (by decide) ?_
        rw [upA_at, h57]
        repeat (first | refine ev_gos 99 rfl ?_ | refine ev_gf2 rfl rfl rfl rfl ?_ | refine ev_gf2 rfl rfl HH_land rfl ?_ | refine ev_gf2 rfl rfl HH_draft rfl ?_ | refine ev_gf2 rfl rfl (by with_reducible assumption) rfl ?_)
        have besd : ∀ pc S0, Ev sc (d + 2) m_M_nightGoes 76 [some (.ref 26), some (.ref 29), some (.long rk), none, some (.int (nI i)), none, none] [.int (nI (opW k)), .int (nI i), .ref 26] (HH w s l (upA A 29 (mapP (nmF W H rk f k) f i)) B) none (HH w s l (upA A 29 (nmI W H rk f k)) B) ∨ pc = S0 + 1 + pc := by
          intro pc S0
          left
          have hop := opop k (by omega) hk
          refine ev_cv rfl rfl rfl (e_beside (A := upA A 29 _) hM (k := opW k) (show i < W * H by omega) hop.2.1 hop.2.2) ?_
          repeat (first | refine ev_gos 99 rfl ?_ | refine ev_gf2 rfl rfl rfl rfl ?_ | refine ev_gf2 rfl rfl HH_land rfl ?_ | refine ev_gf2 rfl rfl HH_draft rfl ?_ | refine ev_gf2 rfl rfl (by with_reducible assumption) rfl ?_)
          refine ev_ix 57 rfl rfl rfl (by decide) (by decide) ?_
          rw [upA_at, h57]
          refine ev_iff rfl rfl rfl (j_eq (nI_ne (by omega) (by omega))) ?_
          repeat (first | refine ev_gos 99 rfl ?_ | refine ev_gf2 rfl rfl rfl rfl ?_ | refine ev_gf2 rfl rfl HH_land rfl ?_ | refine ev_gf2 rfl rfl HH_draft rfl ?_ | refine ev_gf2 rfl rfl (by with_reducible assumption) rfl ?_)
          have est : stl W H rk f k i = ohas (rk ||| dnS f 1 49) (bsd W H i (opW k)) := by unfold stl; rw [if_neg hk0]
          cases ho : bsd W H i (opW k) with
          | none =>
            rw [ho] at est
            (first | refine ev_ift rfl rfl rfl rfl ?_ | refine ev_iff rfl rfl rfl rfl ?_)
            refine ev_gos 1 rfl ?_
            exact ev_wk2 (fin (-1) 0 false est) rfl (by repeat' (first | exact trivial | refine ⟨rfl, ?_⟩))
          | some t =>
            rw [ho] at est
            have ht := (bsd_lt hW hW7 hH hH7 (show i < W * H by omega) hop.2.2 ho).1
            have hne : ¬ nI t = -1 := enc_ne (by omega)
            refine ev_iff rfl rfl rfl (d_eq hne) ?_
            repeat (first | refine ev_gos 99 rfl ?_ | refine ev_gf2 rfl rfl rfl rfl ?_ | refine ev_gf2 rfl rfl HH_land rfl ?_ | refine ev_gf2 rfl rfl HH_draft rfl ?_ | refine ev_gf2 rfl rfl (by with_reducible assumption) rfl ?_)
            refine ev_cs rfl rfl rfl (e_holds sc _ _ rk (k := t) (by omega)) ?_
            have e2 : ohas (rk ||| dnS f 1 49) (some t) = (bs rk t || decide (1 ≤ f t)) := by
              show bs (rk ||| dnS f 1 49) t = _
              rw [bs_or]
              congr 1
              unfold dnS
              rw [bs_mk _ (by omega), decide_eq_true (show t < 49 by omega), Bool.true_and]
            rw [e2] at est
            cases hb : bs rk t with
            | true =>
              rw [hb] at est
              (first | refine ev_ift rfl rfl rfl rfl ?_ | refine ev_iff rfl rfl rfl rfl ?_)
              refine ev_gos 1 rfl ?_
              refine ev_gos 1 rfl ?_
              exact ev_wk2 (fin (nI t) 0 true est) rfl (by repeat' (first | exact trivial | refine ⟨rfl, ?_⟩))
            | false =>
              rw [hb, Bool.false_or] at est
              (first | refine ev_ift rfl rfl rfl rfl ?_ | refine ev_iff rfl rfl rfl rfl ?_)
              repeat (first | refine ev_gos 99 rfl ?_ | refine ev_gf2 rfl rfl rfl rfl ?_ | refine ev_gf2 rfl rfl HH_land rfl ?_ | refine ev_gf2 rfl rfl HH_draft rfl ?_ | refine ev_gf2 rfl rfl (by with_reducible assumption) rfl ?_)
              refine ev_ix t rfl rfl rfl (by omega) (by decide) ?_
              refine (?_ : Ek sc (d + 2) m_M_nightGoes 110 _ [.int (A 31 t)] _ _ _ _ _)
              rw [h31 t (by omega)]
              by_cases h5 : 0 < f t
              · rw [decide_eq_true (lt_le1.mp h5)] at est
                refine ev_iff rfl rfl rfl (j_le (fun z => le_nlt z h5)) ?_
                refine ev_gos 1 rfl ?_
                refine ev_gos 1 rfl ?_
                exact ev_wk2 (fin (nI t) 0 true est) rfl (by repeat' (first | exact trivial | refine ⟨rfl, ?_⟩))
              · rw [decide_eq_false (fun z => h5 (lt_le1.mpr z))] at est
                refine ev_ift rfl rfl rfl (i_le (nlt_le3 h5)) ?_
                refine ev_gos 1 rfl ?_
                exact ev_wk2 (fin (nI t) 0 false est) rfl (by repeat' (first | exact trivial | refine ⟨rfl, ?_⟩))
        have besd2 := (besd 0 0).elim (fun z => z) (fun z => by omega)
        by_cases hk3 : k < 3
        · refine ev_iff rfl rfl rfl (d_ge (nI_lt3 (b := 3) (by omega) (by omega) (by omega))) ?_
          repeat (first | refine ev_gos 99 rfl ?_ | refine ev_gf2 rfl rfl rfl rfl ?_ | refine ev_gf2 rfl rfl HH_land rfl ?_ | refine ev_gf2 rfl rfl HH_draft rfl ?_ | refine ev_gf2 rfl rfl (by with_reducible assumption) rfl ?_)
          refine ev_ix 57 rfl rfl rfl (by decide) (by decide) ?_
          rw [upA_at, h57]
          have eo : nI k + 2 = nI (opW k) := by
            rcases (show k = 1 ∨ k = 2 by omega) with rfl | rfl <;> decide
          rw [← eo] at besd2
          repeat (first | refine ev_gos 99 rfl ?_ | refine ev_gf2 rfl rfl rfl rfl ?_ | refine ev_gf2 rfl rfl HH_land rfl ?_ | refine ev_gf2 rfl rfl HH_draft rfl ?_ | refine ev_gf2 rfl rfl (by with_reducible assumption) rfl ?_)
          exact besd2
        · refine ev_ift rfl rfl rfl (c_ge ((nI_leI (a := 3) (by omega) (by omega)).mpr (by omega))) ?_
          repeat (first | refine ev_gos 99 rfl ?_ | refine ev_gf2 rfl rfl rfl rfl ?_ | refine ev_gf2 rfl rfl HH_land rfl ?_ | refine ev_gf2 rfl rfl HH_draft rfl ?_ | refine ev_gf2 rfl rfl (by with_reducible assumption) rfl ?_)
          refine ev_ix 57 rfl rfl rfl (by decide) (by decide) ?_
          rw [upA_at, h57]
          have eo : nI k - 2 = nI (opW k) := by
            rcases (show k = 3 ∨ k = 4 by omega) with rfl | rfl <;> decide
          rw [← eo] at besd2
          repeat (first | refine ev_gos 99 rfl ?_ | refine ev_gf2 rfl rfl rfl rfl ?_ | refine ev_gf2 rfl rfl HH_land rfl ?_ | refine ev_gf2 rfl rfl HH_draft rfl ?_ | refine ev_gf2 rfl rfl (by with_reducible assumption) rfl ?_)
          exact besd2
    · rw [← mapP_n (F := nmF W H rk f k) (f := f) (n := i) (by unfold nmF; rw [if_neg h0])] at h3
      refine ev_ift rfl rfl rfl (i_le (nlt_le3 h0)) ?_
      repeat (first | refine ev_gos 99 rfl ?_ | refine ev_gf2 rfl rfl rfl rfl ?_ | refine ev_gf2 rfl rfl HH_land rfl ?_ | refine ev_gf2 rfl rfl HH_draft rfl ?_ | refine ev_gf2 rfl rfl (by with_reducible assumption) rfl ?_)
      exact ev_wk2 h3 rfl (by repeat' (first | exact trivial | refine ⟨rfl, ?_⟩))
theorem e_mnightN (hM : MN (A 27) rk W H P) (hrk : WI rk (W * H)) {k : Nat} (hk : k ≤ 4) (ek : A 29 57 = nI k) : Ev sc (d + 2) m_M_nightGoes 0 (iniL 7 [.ref 26, .ref 29]) [] (HH w s l A B) none (HH w s l (upA (upA A 31 (va_cpy (A 29) (A 31) 0 0 49)) 29 (nmI W H rk (A 29) k)) B) := by
  repeat (first | refine ev_gos 99 rfl ?_ | refine ev_gf2 rfl rfl rfl rfl ?_ | refine ev_gf2 rfl rfl HH_land rfl ?_ | refine ev_gf2 rfl rfl HH_draft rfl ?_ | refine ev_gf2 rfl rfl (by with_reducible assumption) rfl ?_)
  refine ev_cs rfl rfl rfl (e_copies (h := HH w s l A B) (p := 29) (q := 31) (m := 58) (m2 := 49) (f := A 29) (g := A 31) (i := 0) (j := 0) (z := 49) rfl rfl (by decide) rfl rfl rfl (by decide) (by decide) (by decide) (by decide)) ?_
  rw [HA_31]
  repeat (first | refine ev_gos 99 rfl ?_ | refine ev_gf2 rfl rfl rfl rfl ?_ | refine ev_gf2 rfl rfl HH_land rfl ?_ | refine ev_gf2 rfl rfl HH_draft rfl ?_ | refine ev_gf2 rfl rfl (by with_reducible assumption) rfl ?_)
  refine ev_cv rfl rfl rfl (e_mrocks (A := upA A 31 _) hM) ?_
  repeat (first | refine ev_gos 99 rfl ?_ | refine ev_gf2 rfl rfl rfl rfl ?_ | refine ev_gf2 rfl rfl HH_land rfl ?_ | refine ev_gf2 rfl rfl HH_draft rfl ?_ | refine ev_gf2 rfl rfl (by with_reducible assumption) rfl ?_)
  have h3 := e_mnightN_loop (sc := sc) (d := d) (w := w) (s := s) (l := l) (B := B) (A := upA A 31 (va_cpy (A 29) (A 31) 0 0 49)) hM (A 29) hk ek (fun j hj => by rw [upA_at, pk_cpy_in (by omega) (by omega)]; congr 1; omega) hrk (W * H) 0 (Nat.zero_add _)
  rw [mapP_0] at h3
  have e : upA (upA A 31 (va_cpy (A 29) (A 31) 0 0 49)) 29 (A 29) = upA A 31 (va_cpy (A 29) (A 31) 0 0 49) := by
    rw [upA_comm _ (p := 31) (q := 29) rfl, upA_id]
  rw [e] at h3
  exact ev_wk2 h3 rfl (by repeat' (first | exact trivial | refine ⟨rfl, ?_⟩))
theorem e_mliesS (hM : MN (A 27) rk W H P) {p c k : Nat} (hp : p < P) (hc : c < W * H) (hk : k < 5) (ek : A 27 (5 + p) = nI k) : Ev sc (d + 3) m_M_lies 0 (iniL 4 [.ref 26, .ref 30, .int (nI p), .int (nI c)]) [] (HH w s l A B) none (HH w s l (upA A 30 (mapP (prF (shpM W H k c)) (upd (A 30) (49 + p) (nI c)) (W * H))) B) := by
  have hP7 : P ≤ 7 := hM.2.2.2.2.2.1
  repeat (first | refine ev_gos 99 rfl ?_ | refine ev_gf2 rfl rfl rfl rfl ?_ | refine ev_gf2 rfl rfl HH_land rfl ?_ | refine ev_gf2 rfl rfl HH_draft rfl ?_ | refine ev_gf2 rfl rfl (by with_reducible assumption) rfl ?_)
  refine iv_30 (49 + p) rfl (nI_add 49 p) (by omega) ?_
  repeat (first | refine ev_gos 99 rfl ?_ | refine ev_gf2 rfl rfl rfl rfl ?_ | refine ev_gf2 rfl rfl HH_land rfl ?_ | refine ev_gf2 rfl rfl HH_draft rfl ?_ | refine ev_gf2 rfl rfl (by with_reducible assumption) rfl ?_)
  refine ev_ix (5 + p) rfl rfl (nI_add 5 p) (by omega) (by decide) ?_
  refine (?_ : Ek sc (d + 3) m_M_lies 18 _ (.int (A 27 (5 + p)) :: _) _ _ _ _ _)
  rw [ek]
  repeat (first | refine ev_gos 99 rfl ?_ | refine ev_gf2 rfl rfl rfl rfl ?_ | refine ev_gf2 rfl rfl HH_land rfl ?_ | refine ev_gf2 rfl rfl HH_draft rfl ?_ | refine ev_gf2 rfl rfl (by with_reducible assumption) rfl ?_)
  refine ev_cv rfl rfl rfl (e_mshape (A := upA A 30 _) hM hk hc) ?_
  repeat (first | refine ev_gos 99 rfl ?_ | refine ev_gf2 rfl rfl rfl rfl ?_ | refine ev_gf2 rfl rfl HH_land rfl ?_ | refine ev_gf2 rfl rfl HH_draft rfl ?_ | refine ev_gf2 rfl rfl (by with_reducible assumption) rfl ?_)
  refine ev_cv rfl rfl rfl (e_mdentsS hM _ _) ?_
  exact ev_rv rfl rfl
theorem e_mnightS_loop (hM : MN (A 27) rk W H P) (f : Nat → Int32) {k : Nat} (hk : k ≤ 4) (ek : f 57 = nI k) (h31 : ∀ j, j < 49 → A 31 j = f j) (hrk : WI rk (W * H)) : ∀ (n i : Nat), i + n = W * H → Ev sc (d + 2) m_M_nightGoes 23 [some (.ref 26), some (.ref 30), some (.long rk), none, some (.int (nI i)), none, none] [.ref 26, .int (nI i)] (HH w s l (upA A 30 (mapP (nmF W H rk f k) f i)) B) none (HH w s l (upA A 30 (nmI W H rk f k)) B) := by
  have h49 := hM.n49
  intro n
  induction n with
  | zero =>
    intro i hi
    have e : i = W * H := by omega
    refine ev_cv rfl rfl rfl (e_mcells (A := upA A 30 _) hM) ?_
    rw [← e]
    refine ev_ift rfl rfl rfl (c_ge ((nI_leI (by omega) (by omega)).mpr (by omega))) ?_
    repeat (first | refine ev_gos 99 rfl ?_ | refine ev_gf2 rfl rfl rfl rfl ?_ | refine ev_gf2 rfl rfl HH_land rfl ?_ | refine ev_gf2 rfl rfl HH_draft rfl ?_ | refine ev_gf2 rfl rfl (by with_reducible assumption) rfl ?_)
    refine ev_ix 56 rfl rfl rfl (by decide) (by decide) ?_
    rw [upA_at, show mapP (nmF W H rk f k) f i 56 = f 56 by unfold mapP; rw [if_neg (by omega)]]
    repeat (first | refine ev_gos 99 rfl ?_ | refine ev_gf2 rfl rfl rfl rfl ?_ | refine ev_gf2 rfl rfl HH_land rfl ?_ | refine ev_gf2 rfl rfl HH_draft rfl ?_ | refine ev_gf2 rfl rfl (by with_reducible assumption) rfl ?_)
    refine iw_30 56 rfl rfl (by decide) ?_
    refine ev_rv rfl ?_
    unfold nmI
    rw [e]
  | succ n ih =>
    intro i hi
    obtain ⟨hW, hH⟩ := hM.pos (by omega)
    have hW7 : W ≤ 7 := hM.2.2.2.1
    have hH7 : H ≤ 7 := hM.2.2.2.2.1
    refine ev_cv rfl rfl rfl (e_mcells (A := upA A 30 _) hM) ?_
    refine ev_iff rfl rfl rfl (d_ge (nI_lt3 (by omega) (by omega) (by omega))) ?_
    repeat (first | refine ev_gos 99 rfl ?_ | refine ev_gf2 rfl rfl rfl rfl ?_ | refine ev_gf2 rfl rfl HH_land rfl ?_ | refine ev_gf2 rfl rfl HH_draft rfl ?_ | refine ev_gf2 rfl rfl (by with_reducible assumption) rfl ?_)
    refine ev_ix i rfl rfl rfl (by omega) (by decide) ?_
    refine (?_ : Ek sc (d + 2) m_M_nightGoes 36 _ [.int (A 31 i)] _ _ _ _ _)
    rw [h31 i (by omega)]
    have h57 : mapP (nmF W H rk f k) f i 57 = nI k := by
      rw [← ek]
      unfold mapP
      rw [if_neg (by omega)]
    have h3 := ih (i + 1) (by omega)
    rw [← nI_1] at h3
    by_cases h0 : 0 < f i
    · have fin : ∀ (o b6 : Int32) (b : Bool), stl W H rk f k i = b → Ev sc (d + 2) m_M_nightGoes 118 [some (.ref 26), some (.ref 30), some (.long rk), none, some (.int (nI i)), some (.int o), none] [.int (b01 b)] (HH w s l (upA A 30 (mapP (nmF W H rk f k) f i)) B) none (HH w s l (upA A 30 (nmI W H rk f k)) B) := by
        intro o b6 b hb
        have e9 : nmF W H rk f k i (f i) = if f i - (bif b then 1 else 2) < 0 then 0 else f i - (bif b then 1 else 2) := by
          unfold nmF
          rw [if_pos h0, hb]
        rw [← mapP_s, e9] at h3
        repeat (first | refine ev_gos 99 rfl ?_ | refine ev_gf2 rfl rfl rfl rfl ?_ | refine ev_gf2 rfl rfl HH_land rfl ?_ | refine ev_gf2 rfl rfl HH_draft rfl ?_ | refine ev_gf2 rfl rfl (by with_reducible assumption) rfl ?_)
        refine ev_ix i rfl rfl rfl (by omega) (by decide) ?_
        refine (?_ : Ek sc (d + 2) m_M_nightGoes 133 _ (.int (A 31 i) :: _) _ _ _ _ _)
        rw [h31 i (by omega)]
        repeat (first | refine ev_gos 99 rfl ?_ | refine ev_gf2 rfl rfl rfl rfl ?_ | refine ev_gf2 rfl rfl HH_land rfl ?_ | refine ev_gf2 rfl rfl HH_draft rfl ?_ | refine ev_gf2 rfl rfl (by with_reducible assumption) rfl ?_)
        cases b with
        | true =>
          (first | refine ev_ift rfl rfl rfl rfl ?_ | refine ev_iff rfl rfl rfl rfl ?_)
          repeat (first | refine ev_gos 99 rfl ?_ | refine ev_gf2 rfl rfl rfl rfl ?_ | refine ev_gf2 rfl rfl HH_land rfl ?_ | refine ev_gf2 rfl rfl HH_draft rfl ?_ | refine ev_gf2 rfl rfl (by with_reducible assumption) rfl ?_)
          refine ev_cs rfl rfl rfl (e_greater sc _ _ _ _) ?_
          refine iw_30 i rfl (Int32.zero_add _) (by omega) ?_
          repeat (first | refine ev_gos 99 rfl ?_ | refine ev_gf2 rfl rfl rfl rfl ?_ | refine ev_gf2 rfl rfl HH_land rfl ?_ | refine ev_gf2 rfl rfl HH_draft rfl ?_ | refine ev_gf2 rfl rfl (by with_reducible assumption) rfl ?_)
          exact ev_wk2 h3 rfl (by repeat' (first | exact trivial | refine ⟨rfl, ?_⟩))
        | false =>
          (first | refine ev_ift rfl rfl rfl rfl ?_ | refine ev_iff rfl rfl rfl rfl ?_)
          repeat (first | refine ev_gos 99 rfl ?_ | refine ev_gf2 rfl rfl rfl rfl ?_ | refine ev_gf2 rfl rfl HH_land rfl ?_ | refine ev_gf2 rfl rfl HH_draft rfl ?_ | refine ev_gf2 rfl rfl (by with_reducible assumption) rfl ?_)
          refine ev_cs rfl rfl rfl (e_greater sc _ _ _ _) ?_
          refine iw_30 i rfl (Int32.zero_add _) (by omega) ?_
          repeat (first | refine ev_gos 99 rfl ?_ | refine ev_gf2 rfl rfl rfl rfl ?_ | refine ev_gf2 rfl rfl HH_land rfl ?_ | refine ev_gf2 rfl rfl HH_draft rfl ?_ | refine ev_gf2 rfl rfl (by with_reducible assumption) rfl ?_)
          exact ev_wk2 h3 rfl (by repeat' (first | exact trivial | refine ⟨rfl, ?_⟩))
      refine ev_iff rfl rfl rfl (j_le (fun z => le_nlt z h0)) ?_
      repeat (first | refine ev_gos 99 rfl ?_ | refine ev_gf2 rfl rfl rfl rfl ?_ | refine ev_gf2 rfl rfl HH_land rfl ?_ | refine ev_gf2 rfl rfl HH_draft rfl ?_ | refine ev_gf2 rfl rfl (by with_reducible assumption) rfl ?_)
      refine ev_ix 57 rfl rfl rfl (by decide) (by decide) ?_
      rw [upA_at, h57]
      by_cases hk0 : k = 0
      · refine ev_iff rfl rfl rfl (j_ne (by rw [hk0]; rfl)) ?_
        repeat (first | refine ev_gos 99 rfl ?_ | refine ev_gf2 rfl rfl rfl rfl ?_ | refine ev_gf2 rfl rfl HH_land rfl ?_ | refine ev_gf2 rfl rfl HH_draft rfl ?_ | refine ev_gf2 rfl rfl (by with_reducible assumption) rfl ?_)
        refine ev_ix 57 rfl rfl rfl (by decide) (by decide) ?_
        rw [upA_at, h57]
        refine ev_ift rfl rfl rfl (i_eq (by rw [hk0]; rfl)) ?_
        refine ev_gos 1 rfl ?_
        refine ev_gos 1 rfl ?_
        exact ev_wk2 (fin (-1) 0 true (by unfold stl; rw [if_pos hk0])) rfl (by repeat' (first | exact trivial | refine ⟨rfl, ?_⟩))
      · refine ev_ift rfl rfl rfl (i_ne (nI_ne (by omega) (by omega))) ?_
        repeat (first | refine ev_gos 99 rfl ?_ | refine ev_gf2 rfl rfl rfl rfl ?_ | refine ev_gf2 rfl rfl HH_land rfl ?_ | refine ev_gf2 rfl rfl HH_draft rfl ?_ | refine ev_gf2 rfl rfl (by with_reducible assumption) rfl ?_)
        refine ev_ix 57 rfl rfl rfl (by decide) (by decide) ?_
        rw [upA_at, h57]
        repeat (first | refine ev_gos 99 rfl ?_ | refine ev_gf2 rfl rfl rfl rfl ?_ | refine ev_gf2 rfl rfl HH_land rfl ?_ | refine ev_gf2 rfl rfl HH_draft rfl ?_ | refine ev_gf2 rfl rfl (by with_reducible assumption) rfl ?_)
        have besd : ∀ pc S0, Ev sc (d + 2) m_M_nightGoes 76 [some (.ref 26), some (.ref 30), some (.long rk), none, some (.int (nI i)), none, none] [.int (nI (opW k)), .int (nI i), .ref 26] (HH w s l (upA A 30 (mapP (nmF W H rk f k) f i)) B) none (HH w s l (upA A 30 (nmI W H rk f k)) B) ∨ pc = S0 + 1 + pc := by
          intro pc S0
          left
          have hop := opop k (by omega) hk
          refine ev_cv rfl rfl rfl (e_beside (A := upA A 30 _) hM (k := opW k) (show i < W * H by omega) hop.2.1 hop.2.2) ?_
          repeat (first | refine ev_gos 99 rfl ?_ | refine ev_gf2 rfl rfl rfl rfl ?_ | refine ev_gf2 rfl rfl HH_land rfl ?_ | refine ev_gf2 rfl rfl HH_draft rfl ?_ | refine ev_gf2 rfl rfl (by with_reducible assumption) rfl ?_)
          refine ev_ix 57 rfl rfl rfl (by decide) (by decide) ?_
          rw [upA_at, h57]
          refine ev_iff rfl rfl rfl (j_eq (nI_ne (by omega) (by omega))) ?_
          repeat (first | refine ev_gos 99 rfl ?_ | refine ev_gf2 rfl rfl rfl rfl ?_ | refine ev_gf2 rfl rfl HH_land rfl ?_ | refine ev_gf2 rfl rfl HH_draft rfl ?_ | refine ev_gf2 rfl rfl (by with_reducible assumption) rfl ?_)
          have est : stl W H rk f k i = ohas (rk ||| dnS f 1 49) (bsd W H i (opW k)) := by unfold stl; rw [if_neg hk0]
          cases ho : bsd W H i (opW k) with
          | none =>
            rw [ho] at est
            (first | refine ev_ift rfl rfl rfl rfl ?_ | refine ev_iff rfl rfl rfl rfl ?_)
            refine ev_gos 1 rfl ?_
            exact ev_wk2 (fin (-1) 0 false est) rfl (by repeat' (first | exact trivial | refine ⟨rfl, ?_⟩))
          | some t =>
            rw [ho] at est
            have ht := (bsd_lt hW hW7 hH hH7 (show i < W * H by omega) hop.2.2 ho).1
            have hne : ¬ nI t = -1 := enc_ne (by omega)
            refine ev_iff rfl rfl rfl (d_eq hne) ?_
            repeat (first | refine ev_gos 99 rfl ?_ | refine ev_gf2 rfl rfl rfl rfl ?_ | refine ev_gf2 rfl rfl HH_land rfl ?_ | refine ev_gf2 rfl rfl HH_draft rfl ?_ | refine ev_gf2 rfl rfl (by with_reducible assumption) rfl ?_)
            refine ev_cs rfl rfl rfl (e_holds sc _ _ rk (k := t) (by omega)) ?_
            have e2 : ohas (rk ||| dnS f 1 49) (some t) = (bs rk t || decide (1 ≤ f t)) := by
              show bs (rk ||| dnS f 1 49) t = _
              rw [bs_or]
              congr 1
              unfold dnS
              rw [bs_mk _ (by omega), decide_eq_true (show t < 49 by omega), Bool.true_and]
            rw [e2] at est
            cases hb : bs rk t with
            | true =>
              rw [hb] at est
              (first | refine ev_ift rfl rfl rfl rfl ?_ | refine ev_iff rfl rfl rfl rfl ?_)
              refine ev_gos 1 rfl ?_
              refine ev_gos 1 rfl ?_
              exact ev_wk2 (fin (nI t) 0 true est) rfl (by repeat' (first | exact trivial | refine ⟨rfl, ?_⟩))
            | false =>
              rw [hb, Bool.false_or] at est
              (first | refine ev_ift rfl rfl rfl rfl ?_ | refine ev_iff rfl rfl rfl rfl ?_)
              repeat (first | refine ev_gos 99 rfl ?_ | refine ev_gf2 rfl rfl rfl rfl ?_ | refine ev_gf2 rfl rfl HH_land rfl ?_ | refine ev_gf2 rfl rfl HH_draft rfl ?_ | refine ev_gf2 rfl rfl (by with_reducible assumption) rfl ?_)
              refine ev_ix t rfl rfl rfl (by omega) (by decide) ?_
              refine (?_ : Ek sc (d + 2) m_M_nightGoes 110 _ [.int (A 31 t)] _ _ _ _ _)
              rw [h31 t (by omega)]
              by_cases h5 : 0 < f t
              · rw [decide_eq_true (lt_le1.mp h5)] at est
                refine ev_iff rfl rfl rfl (j_le (fun z => le_nlt z h5)) ?_
                refine ev_gos 1 rfl ?_
                refine ev_gos 1 rfl ?_
                exact ev_wk2 (fin (nI t) 0 true est) rfl (by repeat' (first | exact trivial | refine ⟨rfl, ?_⟩))
              · rw [decide_eq_false (fun z => h5 (lt_le1.mpr z))] at est
                refine ev_ift rfl rfl rfl (i_le (nlt_le3 h5)) ?_
                refine ev_gos 1 rfl ?_
                exact ev_wk2 (fin (nI t) 0 false est) rfl (by repeat' (first | exact trivial | refine ⟨rfl, ?_⟩))
        have besd2 := (besd 0 0).elim (fun z => z) (fun z => by omega)
        by_cases hk3 : k < 3
        · refine ev_iff rfl rfl rfl (d_ge (nI_lt3 (b := 3) (by omega) (by omega) (by omega))) ?_
          repeat (first | refine ev_gos 99 rfl ?_ | refine ev_gf2 rfl rfl rfl rfl ?_ | refine ev_gf2 rfl rfl HH_land rfl ?_ | refine ev_gf2 rfl rfl HH_draft rfl ?_ | refine ev_gf2 rfl rfl (by with_reducible assumption) rfl ?_)
          refine ev_ix 57 rfl rfl rfl (by decide) (by decide) ?_
          rw [upA_at, h57]
          have eo : nI k + 2 = nI (opW k) := by
            rcases (show k = 1 ∨ k = 2 by omega) with rfl | rfl <;> decide
          rw [← eo] at besd2
          repeat (first | refine ev_gos 99 rfl ?_ | refine ev_gf2 rfl rfl rfl rfl ?_ | refine ev_gf2 rfl rfl HH_land rfl ?_ | refine ev_gf2 rfl rfl HH_draft rfl ?_ | refine ev_gf2 rfl rfl (by with_reducible assumption) rfl ?_)
          exact besd2
        · refine ev_ift rfl rfl rfl (c_ge ((nI_leI (a := 3) (by omega) (by omega)).mpr (by omega))) ?_
          repeat (first | refine ev_gos 99 rfl ?_ | refine ev_gf2 rfl rfl rfl rfl ?_ | refine ev_gf2 rfl rfl HH_land rfl ?_ | refine ev_gf2 rfl rfl HH_draft rfl ?_ | refine ev_gf2 rfl rfl (by with_reducible assumption) rfl ?_)
          refine ev_ix 57 rfl rfl rfl (by decide) (by decide) ?_
          rw [upA_at, h57]
          have eo : nI k - 2 = nI (opW k) := by
            rcases (show k = 3 ∨ k = 4 by omega) with rfl | rfl <;> decide
          rw [← eo] at besd2
          repeat (first | refine ev_gos 99 rfl ?_ | refine ev_gf2 rfl rfl rfl rfl ?_ | refine ev_gf2 rfl rfl HH_land rfl ?_ | refine ev_gf2 rfl rfl HH_draft rfl ?_ | refine ev_gf2 rfl rfl (by with_reducible assumption) rfl ?_)
          exact besd2
    · rw [← mapP_n (F := nmF W H rk f k) (f := f) (n := i) (by unfold nmF; rw [if_neg h0])] at h3
      refine ev_ift rfl rfl rfl (i_le (nlt_le3 h0)) ?_
      repeat (first | refine ev_gos 99 rfl ?_ | refine ev_gf2 rfl rfl rfl rfl ?_ | refine ev_gf2 rfl rfl HH_land rfl ?_ | refine ev_gf2 rfl rfl HH_draft rfl ?_ | refine ev_gf2 rfl rfl (by with_reducible assumption) rfl ?_)
      exact ev_wk2 h3 rfl (by repeat' (first | exact trivial | refine ⟨rfl, ?_⟩))
theorem e_mnightS (hM : MN (A 27) rk W H P) (hrk : WI rk (W * H)) {k : Nat} (hk : k ≤ 4) (ek : A 30 57 = nI k) : Ev sc (d + 2) m_M_nightGoes 0 (iniL 7 [.ref 26, .ref 30]) [] (HH w s l A B) none (HH w s l (upA (upA A 31 (va_cpy (A 30) (A 31) 0 0 49)) 30 (nmI W H rk (A 30) k)) B) := by
  repeat (first | refine ev_gos 99 rfl ?_ | refine ev_gf2 rfl rfl rfl rfl ?_ | refine ev_gf2 rfl rfl HH_land rfl ?_ | refine ev_gf2 rfl rfl HH_draft rfl ?_ | refine ev_gf2 rfl rfl (by with_reducible assumption) rfl ?_)
  refine ev_cs rfl rfl rfl (e_copies (h := HH w s l A B) (p := 30) (q := 31) (m := 58) (m2 := 49) (f := A 30) (g := A 31) (i := 0) (j := 0) (z := 49) rfl rfl (by decide) rfl rfl rfl (by decide) (by decide) (by decide) (by decide)) ?_
  rw [HA_31]
  repeat (first | refine ev_gos 99 rfl ?_ | refine ev_gf2 rfl rfl rfl rfl ?_ | refine ev_gf2 rfl rfl HH_land rfl ?_ | refine ev_gf2 rfl rfl HH_draft rfl ?_ | refine ev_gf2 rfl rfl (by with_reducible assumption) rfl ?_)
  refine ev_cv rfl rfl rfl (e_mrocks (A := upA A 31 _) hM) ?_
  repeat (first | refine ev_gos 99 rfl ?_ | refine ev_gf2 rfl rfl rfl rfl ?_ | refine ev_gf2 rfl rfl HH_land rfl ?_ | refine ev_gf2 rfl rfl HH_draft rfl ?_ | refine ev_gf2 rfl rfl (by with_reducible assumption) rfl ?_)
  have h3 := e_mnightS_loop (sc := sc) (d := d) (w := w) (s := s) (l := l) (B := B) (A := upA A 31 (va_cpy (A 30) (A 31) 0 0 49)) hM (A 30) hk ek (fun j hj => by rw [upA_at, pk_cpy_in (by omega) (by omega)]; congr 1; omega) hrk (W * H) 0 (Nat.zero_add _)
  rw [mapP_0] at h3
  have e : upA (upA A 31 (va_cpy (A 30) (A 31) 0 0 49)) 30 (A 30) = upA A 31 (va_cpy (A 30) (A 31) 0 0 49) := by
    rw [upA_comm _ (p := 31) (q := 30) rfl, upA_id]
  rw [e] at h3
  exact ev_wk2 h3 rfl (by repeat' (first | exact trivial | refine ⟨rfl, ?_⟩))
theorem e_msnows_loop (hM : MN (A 27) rk W H P) (f : Nat → Int32) : ∀ (n i : Nat), i + n = W * H → Ev sc (d + 1) m_M_snows 4 [some (.ref 26), some (.int (nI i))] [.ref 26, .int (nI i)] (HH w s l (upA A 29 (mapP snM f i)) B) none (HH w s l (upA A 29 (mapP snM f (W * H))) B) := by
  have h49 := hM.n49
  intro n
  induction n with
  | zero =>
    intro i hi
    have e : i = W * H := by omega
    refine ev_cv rfl rfl rfl (e_mcells (A := upA A 29 _) hM) ?_
    rw [← e]
    refine ev_ift rfl rfl rfl (c_ge ((nI_leI (by omega) (by omega)).mpr (by omega))) ?_
    exact ev_rv rfl rfl
  | succ n ih =>
    intro i hi
    refine ev_cv rfl rfl rfl (e_mcells (A := upA A 29 _) hM) ?_
    refine ev_iff rfl rfl rfl (d_ge (nI_lt3 (by omega) (by omega) (by omega))) ?_
    repeat (first | refine ev_gos 99 rfl ?_ | refine ev_gf2 rfl rfl rfl rfl ?_ | refine ev_gf2 rfl rfl HH_land rfl ?_ | refine ev_gf2 rfl rfl HH_draft rfl ?_ | refine ev_gf2 rfl rfl (by with_reducible assumption) rfl ?_)
    refine ev_ix i rfl rfl (Int32.zero_add _) (by omega) (by decide) ?_
    rw [upA_at, mapP_at]
    repeat (first | refine ev_gos 99 rfl ?_ | refine ev_gf2 rfl rfl rfl rfl ?_ | refine ev_gf2 rfl rfl HH_land rfl ?_ | refine ev_gf2 rfl rfl HH_draft rfl ?_ | refine ev_gf2 rfl rfl (by with_reducible assumption) rfl ?_)
    have h3 := ih (i + 1) (by omega)
    rw [← nI_1, ← mapP_s] at h3
    unfold snM at h3
    by_cases h5 : 5 ≤ f i
    · rw [if_pos h5] at h3
      refine ev_ift rfl rfl rfl (c_ge h5) ?_
      repeat (first | refine ev_gos 99 rfl ?_ | refine ev_gf2 rfl rfl rfl rfl ?_ | refine ev_gf2 rfl rfl HH_land rfl ?_ | refine ev_gf2 rfl rfl HH_draft rfl ?_ | refine ev_gf2 rfl rfl (by with_reducible assumption) rfl ?_)
      refine ev_ix i rfl rfl (Int32.zero_add _) (by omega) (by decide) ?_
      rw [upA_at, mapP_at]
      repeat (first | refine ev_gos 99 rfl ?_ | refine ev_gf2 rfl rfl rfl rfl ?_ | refine ev_gf2 rfl rfl HH_land rfl ?_ | refine ev_gf2 rfl rfl HH_draft rfl ?_ | refine ev_gf2 rfl rfl (by with_reducible assumption) rfl ?_)
      refine iw_29 i rfl (Int32.zero_add _) (by omega) ?_
      repeat (first | refine ev_gos 99 rfl ?_ | refine ev_gf2 rfl rfl rfl rfl ?_ | refine ev_gf2 rfl rfl HH_land rfl ?_ | refine ev_gf2 rfl rfl HH_draft rfl ?_ | refine ev_gf2 rfl rfl (by with_reducible assumption) rfl ?_)
      exact h3
    · rw [if_neg h5] at h3
      refine ev_iff rfl rfl rfl (d_ge h5) ?_
      repeat (first | refine ev_gos 99 rfl ?_ | refine ev_gf2 rfl rfl rfl rfl ?_ | refine ev_gf2 rfl rfl HH_land rfl ?_ | refine ev_gf2 rfl rfl HH_draft rfl ?_ | refine ev_gf2 rfl rfl (by with_reducible assumption) rfl ?_)
      refine iw_29 i rfl (Int32.zero_add _) (by omega) ?_
      repeat (first | refine ev_gos 99 rfl ?_ | refine ev_gf2 rfl rfl rfl rfl ?_ | refine ev_gf2 rfl rfl HH_land rfl ?_ | refine ev_gf2 rfl rfl HH_draft rfl ?_ | refine ev_gf2 rfl rfl (by with_reducible assumption) rfl ?_)
      exact h3
theorem e_msnows (hM : MN (A 27) rk W H P) : Ev sc (d + 1) m_M_snows 0 (iniL 2 [.ref 26]) [] (HH w s l A B) none (HH w s l (upA A 29 (mapP snM (A 29) (W * H))) B) := by
  repeat (first | refine ev_gos 99 rfl ?_ | refine ev_gf2 rfl rfl rfl rfl ?_ | refine ev_gf2 rfl rfl HH_land rfl ?_ | refine ev_gf2 rfl rfl HH_draft rfl ?_ | refine ev_gf2 rfl rfl (by with_reducible assumption) rfl ?_)
  have h3 := e_msnows_loop (sc := sc) (d := d) (w := w) (s := s) (l := l) (B := B) hM (A 29) (W * H) 0 (Nat.zero_add _)
  rw [mapP_0, upA_id] at h3
  exact h3
theorem e_mruns {c : Nat} (hc : c < 49) : Ev sc (d + 1) m_M_runs 0 (iniL 2 [.ref 26, .int (nI c)]) [] (HH w s l A B) none (HH w s l (upA A 29 (upd (A 29) c (rnM (A 29 c)))) B) := by
  repeat (first | refine ev_gos 99 rfl ?_ | refine ev_gf2 rfl rfl rfl rfl ?_ | refine ev_gf2 rfl rfl HH_land rfl ?_ | refine ev_gf2 rfl rfl HH_draft rfl ?_ | refine ev_gf2 rfl rfl (by with_reducible assumption) rfl ?_)
  refine ev_ix c rfl rfl (Int32.zero_add _) (by omega) (by decide) ?_
  repeat (first | refine ev_gos 99 rfl ?_ | refine ev_gf2 rfl rfl rfl rfl ?_ | refine ev_gf2 rfl rfl HH_land rfl ?_ | refine ev_gf2 rfl rfl HH_draft rfl ?_ | refine ev_gf2 rfl rfl (by with_reducible assumption) rfl ?_)
  refine ev_cs rfl rfl rfl (e_lesser sc _ _ _ _) ?_
  refine iv_29 c rfl (Int32.zero_add _) (by omega) ?_
  exact ev_rv rfl rfl
end MDE
