/-! the model's reader: a word, a number -/
def zS (s : Nat → Int32) (a b g f v x : Int32) : Nat → Int32 := upA (upA (upA (upA (upA (upA s 28 a) 29 b) 30 g) 31 f) 32 v) 33 x
section ZSS
variable {s : Nat → Int32} {a b g f v x y : Int32}
theorem zS33 : upA (zS s a b g f v x) 33 y = zS s a b g f v y := by
  unfold zS
  rw [upA_up]
theorem zS32 : upA (zS s a b g f v x) 32 y = zS s a b g f y x := by
  unfold zS
  rw [upA_comm _ (p := 33) (q := 32) rfl, upA_up]
theorem zS31 : upA (zS s a b g f v x) 31 y = zS s a b g y v x := by
  unfold zS
  rw [upA_comm _ (p := 33) (q := 31) rfl, upA_comm _ (p := 32) (q := 31) rfl, upA_up]
theorem zS30 : upA (zS s a b g f v x) 30 y = zS s a b y f v x := by
  unfold zS
  rw [upA_comm _ (p := 33) (q := 30) rfl, upA_comm _ (p := 32) (q := 30) rfl, upA_comm _ (p := 31) (q := 30) rfl, upA_up]
theorem zS29 : upA (zS s a b g f v x) 29 y = zS s a y g f v x := by
  unfold zS
  rw [upA_comm _ (p := 33) (q := 29) rfl, upA_comm _ (p := 32) (q := 29) rfl, upA_comm _ (p := 31) (q := 29) rfl, upA_comm _ (p := 30) (q := 29) rfl, upA_up]
theorem zS28 : upA (zS s a b g f v x) 28 y = zS s y b g f v x := by
  unfold zS
  rw [upA_comm _ (p := 33) (q := 28) rfl, upA_comm _ (p := 32) (q := 28) rfl, upA_comm _ (p := 31) (q := 28) rfl, upA_comm _ (p := 30) (q := 28) rfl, upA_comm _ (p := 29) (q := 28) rfl, upA_up]
theorem zS_id (s : Nat → Int32) : zS s (s 28) (s 29) (s 30) (s 31) (s 32) (s 33) = s := by
  unfold zS
  rw [upA_id, upA_id, upA_id, upA_id, upA_id, upA_id]
end ZSS
def hrT (t : Nat → Int32) (n i : Nat) : Int32 := if i < n then t i else -1
def tkA (t : Nat → Int32) (n i : Nat) : Nat := if skN t n i < n then (bif dig t (skN t n i) then nE t n i else skN t n i + 1) else n
def tkS (t : Nat → Int32) (n i : Nat) : Int32 := if skN t n i < n then (bif dig t (skN t n i) then 48 else t (skN t n i)) else -1
/-- the text, as both have it -/
def TT (s : Nat → Int32) (A : Nat → Nat → Int32) (t : Nat → Int32) (n : Nat) : Prop := n ≤ 240 ∧ s 24 = nI n ∧ ∀ i, i < n → A 35 i = t i ∧ ∃ k, k ≤ 255 ∧ t i = nI k
theorem hr_dig {t : Nat → Int32} {n i : Nat} : in3 (hrT t n i) 48 57 = (decide (i < n) && dig t i) := by
  unfold hrT
  by_cases h : i < n
  · rw [if_pos h, decide_eq_true h]
    rfl
  · rw [if_neg h, decide_eq_false h, Bool.false_and]
    decide
theorem dg_stop {t : Nat → Int32} {n j : Nat} (h : dig t j = false) : dgN t n j = j := sk_f h
theorem dg_end (t : Nat → Int32) (n : Nat) : dgN t n n = n := by
  unfold dgN
  rw [Nat.sub_self]
  rfl
theorem sk_end (t : Nat → Int32) (n : Nat) : skN t n n = n := by
  unfold skN
  rw [Nat.sub_self]
  rfl
section MST2
variable {sc : Scr} {d : Nat} {w : Bool} {s : Nat → Int32} {l : Nat → Int64} {A : Nat → Nat → Int32} {B : Nat → Nat → Int64} {t : Nat → Int32} {n : Nat} {b g f v x : Int32}
theorem e_mhere (hT : TT s A t n) {i : Nat} (hi : i ≤ n) : Ev sc d m_M_here 0 (iniL 1 [.ref 26]) [] (HH w (zS s (nI i) b g f v x) l A B) (some (.int (hrT t n i))) (HH w (zS s (nI i) b g f v x) l A B) := by
  obtain ⟨hn, h24, hu⟩ := hT
  repeat (first | refine ev_gos 99 rfl ?_ | refine ev_gf2 rfl rfl rfl rfl ?_ | refine ev_gf2 rfl rfl HH_land rfl ?_ | refine ev_gf2 rfl rfl HH_draft rfl ?_ | refine ev_gf2 rfl rfl (by with_reducible assumption) rfl ?_)
  unfold hrT
  refine (?_ : Ek sc _ m_M_here 8 _ [.int (s 24), .int (nI i)] _ _ _ _ _)
  rw [h24]
  by_cases h : i < n
  · rw [if_pos h]
    refine ev_iff rfl rfl rfl (d_ge (nI_lt3 (by omega) (by omega) (by omega))) ?_
    repeat (first | refine ev_gos 99 rfl ?_ | refine ev_gf2 rfl rfl rfl rfl ?_ | refine ev_gf2 rfl rfl HH_land rfl ?_ | refine ev_gf2 rfl rfl HH_draft rfl ?_ | refine ev_gf2 rfl rfl (by with_reducible assumption) rfl ?_)
    refine ev_ix i rfl rfl rfl (by omega) (by decide) ?_
    rw [(hu i h).1]
    repeat (first | refine ev_gos 99 rfl ?_ | refine ev_gf2 rfl rfl rfl rfl ?_ | refine ev_gf2 rfl rfl HH_land rfl ?_ | refine ev_gf2 rfl rfl HH_draft rfl ?_ | refine ev_gf2 rfl rfl (by with_reducible assumption) rfl ?_)
    exact ev_ri rfl rfl rfl
  · rw [if_neg h]
    refine ev_ift rfl rfl rfl (c_ge ((nI_leI (by omega) (by omega)).mpr (by omega))) ?_
    repeat (first | refine ev_gos 99 rfl ?_ | refine ev_gf2 rfl rfl rfl rfl ?_ | refine ev_gf2 rfl rfl HH_land rfl ?_ | refine ev_gf2 rfl rfl HH_draft rfl ?_ | refine ev_gf2 rfl rfl (by with_reducible assumption) rfl ?_)
    exact ev_ri rfl rfl rfl
theorem e_mskip (hT : TT s A t n) {r : Option Value} {h' : AHp} : ∀ (k i : Nat), i + k = n → Ev sc (d + 1) m_M_step 22 [some (.ref 26)] [] (HH w (zS s (nI (sk (blk t) k i)) b g f v x) l A B) r h' → Ev sc (d + 1) m_M_step 1 [some (.ref 26)] [.ref 26] (HH w (zS s (nI i) b g f v x) l A B) r h' := by
  intro k
  induction k with
  | zero =>
    intro i hi h0
    have e : i = n := by omega
    subst e
    refine ev_cv rfl rfl rfl (e_mhere hT (Nat.le_refl _)) ?_
    unfold hrT
    rw [if_neg (Nat.lt_irrefl _)]
    repeat (first | refine ev_gos 99 rfl ?_ | refine ev_gf2 rfl rfl rfl rfl ?_ | refine ev_gf2 rfl rfl HH_land rfl ?_ | refine ev_gf2 rfl rfl HH_draft rfl ?_ | refine ev_gf2 rfl rfl (by with_reducible assumption) rfl ?_)
    (first | refine ev_ift rfl rfl rfl rfl ?_ | refine ev_iff rfl rfl rfl rfl ?_)
    exact h0
  | succ k ih =>
    intro i hi h0
    refine ev_cv rfl rfl rfl (e_mhere hT (by omega)) ?_
    unfold hrT
    rw [if_pos (by omega)]
    repeat (first | refine ev_gos 99 rfl ?_ | refine ev_gf2 rfl rfl rfl rfl ?_ | refine ev_gf2 rfl rfl HH_land rfl ?_ | refine ev_gf2 rfl rfl HH_draft rfl ?_ | refine ev_gf2 rfl rfl (by with_reducible assumption) rfl ?_)
    by_cases h : t i = 32
    · refine ev_iff rfl rfl rfl (d_ne h) ?_
      repeat (first | refine ev_gos 99 rfl ?_ | refine ev_gf2 rfl rfl rfl rfl ?_ | refine ev_gf2 rfl rfl HH_land rfl ?_ | refine ev_gf2 rfl rfl HH_draft rfl ?_ | refine ev_gf2 rfl rfl (by with_reducible assumption) rfl ?_)
      refine pf_M_28 rfl ?_
      rw [zS28]
      have e : blk t i = true := decide_eq_true h
      rw [sk_t e] at h0
      have h3 := ih (i + 1) (by omega) h0
      rw [← nI_1 i] at h3
      repeat (first | refine ev_gos 99 rfl ?_ | refine ev_gf2 rfl rfl rfl rfl ?_ | refine ev_gf2 rfl rfl HH_land rfl ?_ | refine ev_gf2 rfl rfl HH_draft rfl ?_ | refine ev_gf2 rfl rfl (by with_reducible assumption) rfl ?_)
      exact h3
    · refine ev_ift rfl rfl rfl (c_ne h) ?_
      have e : blk t i = false := decide_eq_false h
      rw [sk_f e] at h0
      exact h0
theorem vl_s (t : Nat → Int32) (j m : Nat) : vlN t j (m + 1) = if m < 3 then 10 * vlN t j m + t (j + m) - 48 else vlN t j m := rfl
theorem e_mfig (hT : TT s A t n) {j : Nat} {r : Option Value} {h' : AHp} (hout : Ev sc (d + 1) m_M_step 167 [some (.ref 26)] [] (HH w (zS s (nI (dgN t n j)) b g (nI (dgN t n j - j)) (vlN t j (dgN t n j - j)) x) l A B) r h') : ∀ (k i : Nat), i + k = n → j ≤ i → sk (dig t) k i = dgN t n j → Ev sc (d + 1) m_M_step 94 [some (.ref 26)] [.ref 26] (HH w (zS s (nI i) b g (nI (i - j)) (vlN t j (i - j)) x) l A B) r h' := by
  have hn : n ≤ 240 := hT.1
  intro k
  induction k with
  | zero =>
    intro i hi hj hs
    have e : i = n := by omega
    subst e
    have e2 : dgN t i j = i := hs.symm
    rw [e2] at hout
    refine ev_cv rfl rfl rfl (e_mhere hT (Nat.le_refl _)) ?_
    repeat (first | refine ev_gos 99 rfl ?_ | refine ev_gf2 rfl rfl rfl rfl ?_ | refine ev_gf2 rfl rfl HH_land rfl ?_ | refine ev_gf2 rfl rfl HH_draft rfl ?_ | refine ev_gf2 rfl rfl (by with_reducible assumption) rfl ?_)
    refine ev_cs rfl rfl rfl (e_inB (hrT t i i) 48 57 rfl (by decide) (by decide)) ?_
    rw [hr_dig, decide_eq_false (Nat.lt_irrefl _), Bool.false_and]
    (first | refine ev_ift rfl rfl rfl rfl ?_ | refine ev_iff rfl rfl rfl rfl ?_)
    exact hout
  | succ k ih =>
    intro i hi hj hs
    have hin : i < n := by omega
    refine ev_cv rfl rfl rfl (e_mhere hT (by omega)) ?_
    repeat (first | refine ev_gos 99 rfl ?_ | refine ev_gf2 rfl rfl rfl rfl ?_ | refine ev_gf2 rfl rfl HH_land rfl ?_ | refine ev_gf2 rfl rfl HH_draft rfl ?_ | refine ev_gf2 rfl rfl (by with_reducible assumption) rfl ?_)
    refine ev_cs rfl rfl rfl (e_inB (hrT t n i) 48 57 rfl (by decide) (by decide)) ?_
    rw [hr_dig, decide_eq_true hin, Bool.true_and]
    cases hd : dig t i with
    | false =>
      have e2 : dgN t n j = i := by rw [← hs]; exact sk_f hd
      rw [e2] at hout
      (first | refine ev_ift rfl rfl rfl rfl ?_ | refine ev_iff rfl rfl rfl rfl ?_)
      exact hout
    | true =>
      rw [dg_t hd] at hs
      have h3 := ih (i + 1) (by omega) (by omega) hs
      rw [show i + 1 - j = i - j + 1 by omega, vl_s, ← nI_1 i, ← nI_1 (i - j), show j + (i - j) = i by omega] at h3
      have fin : ∀ y : Int32, (if i - j < 3 then 10 * vlN t j (i - j) + t i - 48 else vlN t j (i - j)) = y → Ev sc (d + 1) m_M_step 141 [some (.ref 26)] [.int y, .ref 26] (HH w (zS s (nI i) b g (nI (i - j)) (vlN t j (i - j)) x) l A B) r h' := by
        intro y hy
        rw [hy] at h3
        refine pf_M_32 rfl ?_
        rw [zS32]
        repeat (first | refine ev_gos 99 rfl ?_ | refine ev_gf2 rfl rfl rfl rfl ?_ | refine ev_gf2 rfl rfl HH_land rfl ?_ | refine ev_gf2 rfl rfl HH_draft rfl ?_ | refine ev_gf2 rfl rfl (by with_reducible assumption) rfl ?_)
        refine pf_M_31 rfl ?_
        rw [zS31]
        repeat (first | refine ev_gos 99 rfl ?_ | refine ev_gf2 rfl rfl rfl rfl ?_ | refine ev_gf2 rfl rfl HH_land rfl ?_ | refine ev_gf2 rfl rfl HH_draft rfl ?_ | refine ev_gf2 rfl rfl (by with_reducible assumption) rfl ?_)
        refine pf_M_28 rfl ?_
        rw [zS28]
        repeat (first | refine ev_gos 99 rfl ?_ | refine ev_gf2 rfl rfl rfl rfl ?_ | refine ev_gf2 rfl rfl HH_land rfl ?_ | refine ev_gf2 rfl rfl HH_draft rfl ?_ | refine ev_gf2 rfl rfl (by with_reducible assumption) rfl ?_)
        exact h3
      (first | refine ev_ift rfl rfl rfl rfl ?_ | refine ev_iff rfl rfl rfl rfl ?_)
      repeat (first | refine ev_gos 99 rfl ?_ | refine ev_gf2 rfl rfl rfl rfl ?_ | refine ev_gf2 rfl rfl HH_land rfl ?_ | refine ev_gf2 rfl rfl HH_draft rfl ?_ | refine ev_gf2 rfl rfl (by with_reducible assumption) rfl ?_)
      by_cases h3f : i - j < 3
      · refine ev_iff rfl rfl rfl (d_ge (nI_lt3 (b := 3) (by omega) (by decide) (by omega))) ?_
        repeat (first | refine ev_gos 99 rfl ?_ | refine ev_gf2 rfl rfl rfl rfl ?_ | refine ev_gf2 rfl rfl HH_land rfl ?_ | refine ev_gf2 rfl rfl HH_draft rfl ?_ | refine ev_gf2 rfl rfl (by with_reducible assumption) rfl ?_)
        refine ev_cv rfl rfl rfl (e_mhere hT (by omega)) ?_
        have e9 : hrT t n i = t i := by unfold hrT; rw [if_pos hin]
        rw [e9]
        repeat (first | refine ev_gos 99 rfl ?_ | refine ev_gf2 rfl rfl rfl rfl ?_ | refine ev_gf2 rfl rfl HH_land rfl ?_ | refine ev_gf2 rfl rfl HH_draft rfl ?_ | refine ev_gf2 rfl rfl (by with_reducible assumption) rfl ?_)
        exact fin _ (if_pos h3f)
      · refine ev_ift rfl rfl rfl (c_ge ((nI_leI (a := 3) (by decide) (by omega)).mpr (by omega))) ?_
        repeat (first | refine ev_gos 99 rfl ?_ | refine ev_gf2 rfl rfl rfl rfl ?_ | refine ev_gf2 rfl rfl HH_land rfl ?_ | refine ev_gf2 rfl rfl HH_draft rfl ?_ | refine ev_gf2 rfl rfl (by with_reducible assumption) rfl ?_)
        exact fin _ (if_neg h3f)
theorem e_mstep (hT : TT s A t n) {i : Nat} (hi : i ≤ n) : Ev sc (d + 1) m_M_step 0 (iniL 1 [.ref 26]) [] (HH w (zS s (nI i) b g f v x) l A B) none (HH w (zS s (nI (tkA t n i)) (nI (skN t n i)) (tkS t n i) (nI (nE t n i - skN t n i)) (nV t n i) x) l A B) := by
  have hn : n ≤ 240 := hT.1
  have hj := skN_b t hi
  repeat (first | refine ev_gos 99 rfl ?_ | refine ev_gf2 rfl rfl rfl rfl ?_ | refine ev_gf2 rfl rfl HH_land rfl ?_ | refine ev_gf2 rfl rfl HH_draft rfl ?_ | refine ev_gf2 rfl rfl (by with_reducible assumption) rfl ?_)
  refine e_mskip hT (n - i) i (by omega) ?_
  rw [show sk (blk t) (n - i) i = skN t n i from rfl]
  unfold tkA tkS nE nV
  generalize skN t n i = j at hj
  repeat (first | refine ev_gos 99 rfl ?_ | refine ev_gf2 rfl rfl rfl rfl ?_ | refine ev_gf2 rfl rfl HH_land rfl ?_ | refine ev_gf2 rfl rfl HH_draft rfl ?_ | refine ev_gf2 rfl rfl (by with_reducible assumption) rfl ?_)
  refine pf_M_29 rfl ?_
  rw [zS29]
  repeat (first | refine ev_gos 99 rfl ?_ | refine ev_gf2 rfl rfl rfl rfl ?_ | refine ev_gf2 rfl rfl HH_land rfl ?_ | refine ev_gf2 rfl rfl HH_draft rfl ?_ | refine ev_gf2 rfl rfl (by with_reducible assumption) rfl ?_)
  refine ev_cv rfl rfl rfl (e_mhere hT (by omega)) ?_
  refine pf_M_30 rfl ?_
  rw [zS30]
  repeat (first | refine ev_gos 99 rfl ?_ | refine ev_gf2 rfl rfl rfl rfl ?_ | refine ev_gf2 rfl rfl HH_land rfl ?_ | refine ev_gf2 rfl rfl HH_draft rfl ?_ | refine ev_gf2 rfl rfl (by with_reducible assumption) rfl ?_)
  refine pf_M_31 rfl ?_
  rw [zS31]
  repeat (first | refine ev_gos 99 rfl ?_ | refine ev_gf2 rfl rfl rfl rfl ?_ | refine ev_gf2 rfl rfl HH_land rfl ?_ | refine ev_gf2 rfl rfl HH_draft rfl ?_ | refine ev_gf2 rfl rfl (by with_reducible assumption) rfl ?_)
  refine pf_M_32 rfl ?_
  rw [zS32]
  repeat (first | refine ev_gos 99 rfl ?_ | refine ev_gf2 rfl rfl rfl rfl ?_ | refine ev_gf2 rfl rfl HH_land rfl ?_ | refine ev_gf2 rfl rfl HH_draft rfl ?_ | refine ev_gf2 rfl rfl (by with_reducible assumption) rfl ?_)
  refine ev_cs rfl rfl rfl (e_inB (hrT t n j) 48 57 rfl (by decide) (by decide)) ?_
  rw [hr_dig]
  by_cases h : j < n
  · rw [decide_eq_true h, Bool.true_and, if_pos h, if_pos h]
    have e9 : hrT t n j = t j := by unfold hrT; rw [if_pos h]
    rw [e9]
    cases hd : dig t j with
    | false =>
      rw [dg_stop hd, Nat.sub_self]
      (first | refine ev_ift rfl rfl rfl rfl ?_ | refine ev_iff rfl rfl rfl rfl ?_)
      repeat (first | refine ev_gos 99 rfl ?_ | refine ev_gf2 rfl rfl rfl rfl ?_ | refine ev_gf2 rfl rfl HH_land rfl ?_ | refine ev_gf2 rfl rfl HH_draft rfl ?_ | refine ev_gf2 rfl rfl (by with_reducible assumption) rfl ?_)
      obtain ⟨k, k1, k2⟩ := (hT.2.2 j h).2
      refine ev_ift rfl rfl rfl (i_ge (by show (0 : Int32) ≤ t j; rw [k2]; exact ge0 (nI_pos (by omega)))) ?_
      repeat (first | refine ev_gos 99 rfl ?_ | refine ev_gf2 rfl rfl rfl rfl ?_ | refine ev_gf2 rfl rfl HH_land rfl ?_ | refine ev_gf2 rfl rfl HH_draft rfl ?_ | refine ev_gf2 rfl rfl (by with_reducible assumption) rfl ?_)
      refine pf_M_28 rfl ?_
      rw [zS28]
      refine ev_rv rfl ?_
      show HH w (zS s (nI j + 1) _ _ _ _ _) l A B = _
      rw [nI_1]
      rfl
    | true =>
      (first | refine ev_ift rfl rfl rfl rfl ?_ | refine ev_iff rfl rfl rfl rfl ?_)
      repeat (first | refine ev_gos 99 rfl ?_ | refine ev_gf2 rfl rfl rfl rfl ?_ | refine ev_gf2 rfl rfl HH_land rfl ?_ | refine ev_gf2 rfl rfl HH_draft rfl ?_ | refine ev_gf2 rfl rfl (by with_reducible assumption) rfl ?_)
      refine pf_M_30 rfl ?_
      rw [zS30]
      repeat (first | refine ev_gos 99 rfl ?_ | refine ev_gf2 rfl rfl rfl rfl ?_ | refine ev_gf2 rfl rfl HH_land rfl ?_ | refine ev_gf2 rfl rfl HH_draft rfl ?_ | refine ev_gf2 rfl rfl (by with_reducible assumption) rfl ?_)
      have z := e_mfig (sc := sc) (d := d) (w := w) (s := s) (l := l) (A := A) (B := B) (b := nI j) (g := 48) (x := x) hT (j := j) (r := none) (h' := HH w (zS s (nI (dgN t n j)) (nI j) 48 (nI (dgN t n j - j)) (vlN t j (dgN t n j - j)) x) l A B) (ev_rv rfl rfl) (n - j) j (by omega) (Nat.le_refl j) rfl
      rw [Nat.sub_self] at z
      exact z
  · have e : j = n := by omega
    subst e
    rw [decide_eq_false h, Bool.false_and, if_neg h, if_neg h, dg_end, Nat.sub_self]
    have e9 : hrT t j j = -1 := by unfold hrT; rw [if_neg h]
    rw [e9]
    (first | refine ev_ift rfl rfl rfl rfl ?_ | refine ev_iff rfl rfl rfl rfl ?_)
    repeat (first | refine ev_gos 99 rfl ?_ | refine ev_gf2 rfl rfl rfl rfl ?_ | refine ev_gf2 rfl rfl HH_land rfl ?_ | refine ev_gf2 rfl rfl HH_draft rfl ?_ | refine ev_gf2 rfl rfl (by with_reducible assumption) rfl ?_)
    (first | refine ev_ift rfl rfl rfl rfl ?_ | refine ev_iff rfl rfl rfl rfl ?_)
    repeat (first | refine ev_gos 99 rfl ?_ | refine ev_gf2 rfl rfl rfl rfl ?_ | refine ev_gf2 rfl rfl HH_land rfl ?_ | refine ev_gf2 rfl rfl HH_draft rfl ?_ | refine ev_gf2 rfl rfl (by with_reducible assumption) rfl ?_)
    refine pf_M_28 rfl ?_
    rw [zS28]
    refine ev_rv rfl ?_
    show HH w (zS s (nI j + 0) _ _ _ _ _) l A B = _
    rw [Int32.add_zero]
    rfl
theorem e_mfails (k : Int32) {a : Int32} : Ev sc d m_M_fails 0 (iniL 2 [.ref 26, .int k]) [] (HH w (zS s a b g f v x) l A B) (some (.int 0)) (HH w (zS s a b g f v k) l A B) := by
  repeat (first | refine ev_gos 99 rfl ?_ | refine ev_gf2 rfl rfl rfl rfl ?_ | refine ev_gf2 rfl rfl HH_land rfl ?_ | refine ev_gf2 rfl rfl HH_draft rfl ?_ | refine ev_gf2 rfl rfl (by with_reducible assumption) rfl ?_)
  refine pf_M_33 rfl ?_
  rw [zS33]
  repeat (first | refine ev_gos 99 rfl ?_ | refine ev_gf2 rfl rfl rfl rfl ?_ | refine ev_gf2 rfl rfl HH_land rfl ?_ | refine ev_gf2 rfl rfl HH_draft rfl ?_ | refine ev_gf2 rfl rfl (by with_reducible assumption) rfl ?_)
  exact ev_rz rfl (Or.inl rfl) rfl rfl
end MST2
