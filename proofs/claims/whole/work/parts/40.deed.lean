/-! the class: what follows from the north; deeds kept; draws -/
/-- what holds of the class's land -/
def CN (s : Nat → Int32) (l : Nat → Int64) (A : Nat → Nat → Int32) (B : Nat → Nat → Int64) (W H P : Nat) : Prop :=
  s 15 = nI W ∧ s 16 = nI H ∧ s 17 = nI P ∧ W ≤ 7 ∧ H ≤ 7 ∧ P ≤ 7 ∧ ((W = 0 ∧ H = 0 ∧ P = 0) ∨ (2 ≤ W ∧ 2 ≤ H)) ∧ l 0 = allS (W * H) ∧ l 1 = lefS W (W * H) ∧ l 2 = rigS W (W * H) ∧ (∀ p, p < P → ∃ k, k < 5 ∧ A 4 p = nI k) ∧ (∀ k c, k < 5 → c < 49 → B 5 (k * 49 + c) = if c < W * H then drwS W (W * H) (l 3) k c else 0)
theorem WH49 {W H : Nat} (hW : W ≤ 7) (hH : H ≤ 7) : W * H ≤ 49 := Nat.le_trans (Nat.mul_le_mul hW hH) (by decide)
theorem CN.cells {s : Nat → Int32} {l : Nat → Int64} {A : Nat → Nat → Int32} {B : Nat → Nat → Int64} {W H P : Nat} (h : CN s l A B W H P) : s 15 * s 16 = nI (W * H) := by rw [h.1, h.2.1, pk_mul]
theorem CN.n49 {s : Nat → Int32} {l : Nat → Int64} {A : Nat → Nat → Int32} {B : Nat → Nat → Int64} {W H P : Nat} (h : CN s l A B W H P) : W * H ≤ 49 := WH49 h.2.2.2.1 h.2.2.2.2.1
/-- who lies, lies at a cell -/
def LF (at_ : Nat → Int32) (N : Nat) : Prop := ∀ p, p < 7 → at_ p = -1 ∨ ∃ c, c < N ∧ at_ p = nI c
def setP (f : Nat → Bool) (n : Nat) : Int64 := mk64 (fun i => decide (i < n) && f i)
theorem setP_0 (f : Nat → Bool) : setP f 0 = 0 := bs_ext (fun i hi => by unfold setP; rw [bs_mk _ hi, bs_0]; simp)
theorem setP_t {f : Nat → Bool} {n : Nat} (hn : n < 64) (h : f n = true) : setP f (n + 1) = setP f n ||| bit n := by
  apply bs_ext
  intro i hi
  rw [bs_or, bs_bitc hn hi]
  unfold setP
  rw [bs_mk _ hi, bs_mk _ hi]
  by_cases e : i = n
  · subst e
    simp [h]
  · by_cases e2 : i < n
    · simp [e2, e, show i < n + 1 by omega]
    · simp [e2, e, show ¬ i < n + 1 by omega]
theorem setP_f {f : Nat → Bool} {n : Nat} (h : f n = false) : setP f (n + 1) = setP f n := by
  apply bs_ext
  intro i hi
  unfold setP
  rw [bs_mk _ hi, bs_mk _ hi]
  by_cases e : i = n
  · subst e
    simp [h]
  · by_cases e2 : i < n
    · simp [e2, show i < n + 1 by omega]
    · simp [e2, show ¬ i < n + 1 by omega]
def dS (x : Int32) : Int32 := (x * 1103515245 + 12345) &&& 2147483647
theorem dS_nI (x : Int32) : ∃ t, t < 2 ^ 31 ∧ dS x = nI t := by
  obtain ⟨j, h1, h2⟩ := pk_andE (x * 1103515245 + 12345) (m := 2147483647) 31 (by decide)
  exact ⟨j, h1, h2⟩
def drN (x : Int32) (m : Nat) : Nat := (dS x).toNatClampNeg / 65536 % m
def nrP (W : Nat) (at_ : Nat → Int32) (p : Nat) : Nat → Int32
  | 0 => -1
  | n + 1 => if n = p ∨ at_ p = -1 ∨ at_ n = -1 then nrP W at_ p n else if nrP W at_ p n = -1 then nI (dist W (at_ p).toNatClampNeg (at_ n).toNatClampNeg) else if nI (dist W (at_ p).toNatClampNeg (at_ n).toNatClampNeg) < nrP W at_ p n then nI (dist W (at_ p).toNatClampNeg (at_ n).toNatClampNeg) else nrP W at_ p n
def farP (W : Nat) (at_ : Nat → Int32) (P : Nat) : Nat → Int32 × Int32
  | 0 => (-1, -1)
  | n + 1 => if (farP W at_ P n).2 < nrP W at_ n P then (nI n, nrP W at_ n P) else farP W at_ P n
section DED
variable {sc : Scr} {d : Nat} {w : Bool} {s : Nat → Int32} {l : Nat → Int64} {A : Nat → Nat → Int32} {B : Nat → Nat → Int64} {W H P : Nat}
theorem e_nearest_loop (hN : CN s l A B W H P) (hA : LF (A 11) (W * H)) {p : Nat} (hp : p < P) : ∀ (n i : Nat), i + n = P → Ev sc (d + 1) m_C_stepsToNearest 12 [some (.ref 0), some (.int (nI p)), some (.int (nrP W (A 11) p i)), some (.int (nI i)), none] [.int (s 17), .int (nI i)] (HH w s l A B) (some (.int (nrP W (A 11) p P))) (HH w s l A B) := by
  have hP7 : P ≤ 7 := hN.2.2.2.2.2.1
  have hW7 : W ≤ 7 := hN.2.2.2.1
  have h49 := hN.n49
  intro n
  induction n with
  | zero =>
    intro i hi
    have e : i = P := by omega
    subst e
    refine ev_ift rfl rfl rfl (c_ge (by rw [hN.2.2.1]; exact (nI_leI (by omega) (by omega)).mpr (by omega))) ?_
    repeat (first | refine ev_gos 99 rfl ?_ | refine ev_gf2 rfl rfl rfl rfl ?_ | refine ev_gf2 rfl rfl HH_land rfl ?_ | refine ev_gf2 rfl rfl HH_draft rfl ?_ | refine ev_gf2 rfl rfl (by with_reducible assumption) rfl ?_)
    exact ev_ri rfl rfl rfl
  | succ n ih =>
    intro i hi
    refine ev_iff rfl rfl rfl (d_ge (by rw [hN.2.2.1]; exact nI_lt3 (by omega) (by omega) (by omega))) ?_
    repeat (first | refine ev_gos 99 rfl ?_ | refine ev_gf2 rfl rfl rfl rfl ?_ | refine ev_gf2 rfl rfl HH_land rfl ?_ | refine ev_gf2 rfl rfl HH_draft rfl ?_ | refine ev_gf2 rfl rfl (by with_reducible assumption) rfl ?_)
    have h3 := ih (i + 1) (by omega)
    rw [← nI_1] at h3
    have hskip : (i = p ∨ A 11 p = -1 ∨ A 11 i = -1) → nrP W (A 11) p (i + 1) = nrP W (A 11) p i := fun h => by
      show (if i = p ∨ A 11 p = -1 ∨ A 11 i = -1 then _ else _) = _
      rw [if_pos h]
    by_cases h1 : i = p
    · rw [hskip (Or.inl h1)] at h3
      refine ev_ift rfl rfl rfl (c_eq (by rw [h1])) ?_
      repeat (first | refine ev_gos 99 rfl ?_ | refine ev_gf2 rfl rfl rfl rfl ?_ | refine ev_gf2 rfl rfl HH_land rfl ?_ | refine ev_gf2 rfl rfl HH_draft rfl ?_ | refine ev_gf2 rfl rfl (by with_reducible assumption) rfl ?_)
      exact ev_wk2 h3 rfl ⟨rfl, rfl, rfl, rfl, trivial⟩
    · refine ev_iff rfl rfl rfl (d_eq (fun z => h1 ((nI_eq (by omega) (by omega)).mp z))) ?_
      repeat (first | refine ev_gos 99 rfl ?_ | refine ev_gf2 rfl rfl rfl rfl ?_ | refine ev_gf2 rfl rfl HH_land rfl ?_ | refine ev_gf2 rfl rfl HH_draft rfl ?_ | refine ev_gf2 rfl rfl (by with_reducible assumption) rfl ?_)
      refine ev_ia rfl rfl (inI (by omega) (by decide)) ?_
      rw [nI_clamp (by omega)]
      repeat (first | refine ev_gos 99 rfl ?_ | refine ev_gf2 rfl rfl rfl rfl ?_ | refine ev_gf2 rfl rfl HH_land rfl ?_ | refine ev_gf2 rfl rfl HH_draft rfl ?_ | refine ev_gf2 rfl rfl (by with_reducible assumption) rfl ?_)
      by_cases h2 : A 11 p = -1
      · rw [hskip (Or.inr (Or.inl h2))] at h3
        refine ev_ift rfl rfl rfl (c_eq h2) ?_
        repeat (first | refine ev_gos 99 rfl ?_ | refine ev_gf2 rfl rfl rfl rfl ?_ | refine ev_gf2 rfl rfl HH_land rfl ?_ | refine ev_gf2 rfl rfl HH_draft rfl ?_ | refine ev_gf2 rfl rfl (by with_reducible assumption) rfl ?_)
        exact ev_wk2 h3 rfl ⟨rfl, rfl, rfl, rfl, trivial⟩
      · refine ev_iff rfl rfl rfl (d_eq h2) ?_
        repeat (first | refine ev_gos 99 rfl ?_ | refine ev_gf2 rfl rfl rfl rfl ?_ | refine ev_gf2 rfl rfl HH_land rfl ?_ | refine ev_gf2 rfl rfl HH_draft rfl ?_ | refine ev_gf2 rfl rfl (by with_reducible assumption) rfl ?_)
        refine ev_ia rfl rfl (inI (by omega) (by decide)) ?_
        rw [nI_clamp (by omega)]
        repeat (first | refine ev_gos 99 rfl ?_ | refine ev_gf2 rfl rfl rfl rfl ?_ | refine ev_gf2 rfl rfl HH_land rfl ?_ | refine ev_gf2 rfl rfl HH_draft rfl ?_ | refine ev_gf2 rfl rfl (by with_reducible assumption) rfl ?_)
        by_cases h4 : A 11 i = -1
        · rw [hskip (Or.inr (Or.inr h4))] at h3
          refine ev_ift rfl rfl rfl (c_eq h4) ?_
          repeat (first | refine ev_gos 99 rfl ?_ | refine ev_gf2 rfl rfl rfl rfl ?_ | refine ev_gf2 rfl rfl HH_land rfl ?_ | refine ev_gf2 rfl rfl HH_draft rfl ?_ | refine ev_gf2 rfl rfl (by with_reducible assumption) rfl ?_)
          exact ev_wk2 h3 rfl ⟨rfl, rfl, rfl, rfl, trivial⟩
        · refine ev_iff rfl rfl rfl (d_eq h4) ?_
          repeat (first | refine ev_gos 99 rfl ?_ | refine ev_gf2 rfl rfl rfl rfl ?_ | refine ev_gf2 rfl rfl HH_land rfl ?_ | refine ev_gf2 rfl rfl HH_draft rfl ?_ | refine ev_gf2 rfl rfl (by with_reducible assumption) rfl ?_)
          refine ev_ia rfl rfl (inI (by omega) (by decide)) ?_
          rw [nI_clamp (by omega)]
          repeat (first | refine ev_gos 99 rfl ?_ | refine ev_gf2 rfl rfl rfl rfl ?_ | refine ev_gf2 rfl rfl HH_land rfl ?_ | refine ev_gf2 rfl rfl HH_draft rfl ?_ | refine ev_gf2 rfl rfl (by with_reducible assumption) rfl ?_)
          refine ev_ia rfl rfl (inI (by omega) (by decide)) ?_
          rw [nI_clamp (by omega)]
          rcases hA p (by omega) with e | ⟨a, a1, a2⟩
          · exact absurd e h2
          rcases hA i (by omega) with e | ⟨b, b1, b2⟩
          · exact absurd e h4
          have hW1 : 1 ≤ W := by
            rcases hN.2.2.2.2.2.2.1 with q | q
            · omega
            · omega
          refine ev_cv rfl rfl HH_land (by rw [a2, b2]; exact e_steps HH_land hN.1 hW1 hW7 (by omega) (by omega)) ?_
          repeat (first | refine ev_gos 99 rfl ?_ | refine ev_gf2 rfl rfl rfl rfl ?_ | refine ev_gf2 rfl rfl HH_land rfl ?_ | refine ev_gf2 rfl rfl HH_draft rfl ?_ | refine ev_gf2 rfl rfl (by with_reducible assumption) rfl ?_)
          have hst : nrP W (A 11) p (i + 1) = if nrP W (A 11) p i = -1 then nI (dist W a b) else if nI (dist W a b) < nrP W (A 11) p i then nI (dist W a b) else nrP W (A 11) p i := by
            show (if i = p ∨ A 11 p = -1 ∨ A 11 i = -1 then _ else _) = _
            rw [if_neg (by simp [h1, h2, h4]), a2, b2, nI_clamp (by omega), nI_clamp (by omega)]
          rw [hst] at h3
          by_cases h5 : nrP W (A 11) p i = -1
          · rw [if_pos h5] at h3
            refine ev_iff rfl rfl rfl (d_ne h5) ?_
            repeat (first | refine ev_gos 99 rfl ?_ | refine ev_gf2 rfl rfl rfl rfl ?_ | refine ev_gf2 rfl rfl HH_land rfl ?_ | refine ev_gf2 rfl rfl HH_draft rfl ?_ | refine ev_gf2 rfl rfl (by with_reducible assumption) rfl ?_)
            exact ev_wk2 h3 rfl ⟨rfl, rfl, rfl, rfl, trivial⟩
          · rw [if_neg h5] at h3
            refine ev_ift rfl rfl rfl (c_ne h5) ?_
            repeat (first | refine ev_gos 99 rfl ?_ | refine ev_gf2 rfl rfl rfl rfl ?_ | refine ev_gf2 rfl rfl HH_land rfl ?_ | refine ev_gf2 rfl rfl HH_draft rfl ?_ | refine ev_gf2 rfl rfl (by with_reducible assumption) rfl ?_)
            refine ev_hw rfl rfl rfl ?_
            repeat (first | refine ev_gos 99 rfl ?_ | refine ev_gf2 rfl rfl rfl rfl ?_ | refine ev_gf2 rfl rfl HH_land rfl ?_ | refine ev_gf2 rfl rfl HH_draft rfl ?_ | refine ev_gf2 rfl rfl (by with_reducible assumption) rfl ?_)
            exact ev_wk2 h3 rfl ⟨rfl, rfl, rfl, rfl, trivial⟩
theorem e_nearest (hN : CN s l A B W H P) (hA : LF (A 11) (W * H)) {p : Nat} (hp : p < P) : Ev sc (d + 1) m_C_stepsToNearest 0 (iniL 5 [.ref 0, .int (nI p)]) [] (HH w s l A B) (some (.int (nrP W (A 11) p P))) (HH w s l A B) := by
  repeat (first | refine ev_gos 99 rfl ?_ | refine ev_gf2 rfl rfl rfl rfl ?_ | refine ev_gf2 rfl rfl HH_land rfl ?_ | refine ev_gf2 rfl rfl HH_draft rfl ?_ | refine ev_gf2 rfl rfl (by with_reducible assumption) rfl ?_)
  exact e_nearest_loop hN hA hp P 0 (Nat.zero_add P)
theorem e_farOut_loop (hN : CN s l A B W H P) (hA : LF (A 11) (W * H)) : ∀ (n i : Nat), i + n = P → Ev sc (d + 2) m_C_farOut 14 [some (.ref 0), some (.int (farP W (A 11) P i).1), some (.int (farP W (A 11) P i).2), some (.int (nI i)), none] [.int (s 17), .int (nI i)] (HH w s l A B) (some (.int (farP W (A 11) P P).1)) (HH w s l A B) := by
  have hP7 : P ≤ 7 := hN.2.2.2.2.2.1
  intro n
  induction n with
  | zero =>
    intro i hi
    have e : i = P := by omega
    subst e
    refine ev_ift rfl rfl rfl (c_ge (by rw [hN.2.2.1]; exact (nI_leI (by omega) (by omega)).mpr (by omega))) ?_
    repeat (first | refine ev_gos 99 rfl ?_ | refine ev_gf2 rfl rfl rfl rfl ?_ | refine ev_gf2 rfl rfl HH_land rfl ?_ | refine ev_gf2 rfl rfl HH_draft rfl ?_ | refine ev_gf2 rfl rfl (by with_reducible assumption) rfl ?_)
    exact ev_ri rfl rfl rfl
  | succ n ih =>
    intro i hi
    refine ev_iff rfl rfl rfl (d_ge (by rw [hN.2.2.1]; exact nI_lt3 (by omega) (by omega) (by omega))) ?_
    repeat (first | refine ev_gos 99 rfl ?_ | refine ev_gf2 rfl rfl rfl rfl ?_ | refine ev_gf2 rfl rfl HH_land rfl ?_ | refine ev_gf2 rfl rfl HH_draft rfl ?_ | refine ev_gf2 rfl rfl (by with_reducible assumption) rfl ?_)
    refine ev_cv rfl rfl rfl (e_nearest hN hA (p := i) (by omega)) ?_
    repeat (first | refine ev_gos 99 rfl ?_ | refine ev_gf2 rfl rfl rfl rfl ?_ | refine ev_gf2 rfl rfl HH_land rfl ?_ | refine ev_gf2 rfl rfl HH_draft rfl ?_ | refine ev_gf2 rfl rfl (by with_reducible assumption) rfl ?_)
    have h3 := ih (i + 1) (by omega)
    rw [← nI_1] at h3
    have hst : farP W (A 11) P (i + 1) = if (farP W (A 11) P i).2 < nrP W (A 11) i P then (nI i, nrP W (A 11) i P) else farP W (A 11) P i := rfl
    rw [hst] at h3
    by_cases h5 : (farP W (A 11) P i).2 < nrP W (A 11) i P
    · rw [if_pos h5] at h3
      refine ev_iff rfl rfl rfl (d_le (fun z => le_nlt z h5)) ?_
      repeat (first | refine ev_gos 99 rfl ?_ | refine ev_gf2 rfl rfl rfl rfl ?_ | refine ev_gf2 rfl rfl HH_land rfl ?_ | refine ev_gf2 rfl rfl HH_draft rfl ?_ | refine ev_gf2 rfl rfl (by with_reducible assumption) rfl ?_)
      exact ev_wk2 h3 rfl ⟨rfl, rfl, rfl, rfl, trivial⟩
    · rw [if_neg h5] at h3
      refine ev_ift rfl rfl rfl (c_le (by rw [Int32.lt_iff_toInt_lt] at h5; rw [Int32.le_iff_toInt_le]; omega)) ?_
      repeat (first | refine ev_gos 99 rfl ?_ | refine ev_gf2 rfl rfl rfl rfl ?_ | refine ev_gf2 rfl rfl HH_land rfl ?_ | refine ev_gf2 rfl rfl HH_draft rfl ?_ | refine ev_gf2 rfl rfl (by with_reducible assumption) rfl ?_)
      exact ev_wk2 h3 rfl ⟨rfl, rfl, rfl, rfl, trivial⟩
theorem e_farOut (hN : CN s l A B W H P) (hA : LF (A 11) (W * H)) : Ev sc (d + 2) m_C_farOut 0 (iniL 5 [.ref 0]) [] (HH w s l A B) (some (.int (farP W (A 11) P P).1)) (HH w s l A B) := by
  repeat (first | refine ev_gos 99 rfl ?_ | refine ev_gf2 rfl rfl rfl rfl ?_ | refine ev_gf2 rfl rfl HH_land rfl ?_ | refine ev_gf2 rfl rfl HH_draft rfl ?_ | refine ev_gf2 rfl rfl (by with_reducible assumption) rfl ?_)
  exact e_farOut_loop hN hA P 0 (Nat.zero_add P)
theorem e_placeOfDeed {f i : Nat} (hf : s 6 = nI f) (h1 : f < 30) (h2 : i ≤ 30) : Ev sc d m_C_placeOfDeed 0 (iniL 2 [.ref 0, .int (nI i)]) [] (HH w s l A B) (some (.int (nI ((f + i) % 30)))) (HH w s l A B) := by
  repeat (first | refine ev_gos 99 rfl ?_ | refine ev_gf2 rfl rfl rfl rfl ?_ | refine ev_gf2 rfl rfl HH_land rfl ?_ | refine ev_gf2 rfl rfl HH_draft rfl ?_ | refine ev_gf2 rfl rfl (by with_reducible assumption) rfl ?_)
  refine ev_ri rfl ?_ rfl
  show (s 6 + nI i) - (s 6 + nI i) / nI 30 * nI 30 = _
  rw [hf, nI_add, pk_rem (by omega) (by decide) (by decide)]
def rmF (f c : Nat) : Nat := if c = 30 then (f + 1) % 30 else f
def rmC (c : Nat) : Nat := if c = 30 then 29 else c
def remA (A : Nat → Nat → Int32) (s : Nat → Int32) (f c : Nat) : Nat → Nat → Int32 := upA A 16 (putS (A 16) ((rmF f c + rmC c) % 30) (A 10) (A 11) (s 9) (s 10))
def remS (s : Nat → Int32) (f c : Nat) : Nat → Int32 := upA (upA s 6 (nI (rmF f c))) 7 (nI (rmC c + 1))
theorem upS_same {s : Nat → Int32} {k : Nat} {v : Int32} (h : s k = v) : upA s k v = s := by rw [← h]; exact upA_id s k
theorem e_remember {f c : Nat} (hf : s 6 = nI f) (h1 : f < 30) (hc : s 7 = nI c) (h2 : c ≤ 30) : Ev sc (d + 1) m_C_remember 0 (iniL 1 [.ref 0]) [] (HH w s l A B) none (HH w (remS s f c) l (remA A s f c) B) := by
  repeat (first | refine ev_gos 99 rfl ?_ | refine ev_gf2 rfl rfl rfl rfl ?_ | refine ev_gf2 rfl rfl HH_land rfl ?_ | refine ev_gf2 rfl rfl HH_draft rfl ?_ | refine ev_gf2 rfl rfl (by with_reducible assumption) rfl ?_)
  unfold remS remA rmF rmC
  by_cases h30 : c = 30
  · rw [if_pos h30, if_pos h30]
    refine ev_iff rfl rfl rfl (d_ne (by rw [hc, h30]; rfl : s 7 = 30)) ?_
    repeat (first | refine ev_gos 99 rfl ?_ | refine ev_gf2 rfl rfl rfl rfl ?_ | refine ev_gf2 rfl rfl HH_land rfl ?_ | refine ev_gf2 rfl rfl HH_draft rfl ?_ | refine ev_gf2 rfl rfl (by with_reducible assumption) rfl ?_)
    refine pf_C_6 rfl ?_
    repeat (first | refine ev_gos 99 rfl ?_ | refine ev_gf2 rfl rfl rfl rfl ?_ | refine ev_gf2 rfl rfl HH_land rfl ?_ | refine ev_gf2 rfl rfl HH_draft rfl ?_ | refine ev_gf2 rfl rfl (by with_reducible assumption) rfl ?_)
    refine pf_C_7 rfl ?_
    have e6 : s 6 + 1 - (s 6 + 1) / 30 * 30 = nI ((f + 1) % 30) := by rw [hf, nI_1]; exact pk_rem (by omega) (by decide) (by decide)
    have e7 : s 7 - 1 = nI 29 := by rw [hc, h30]; rfl
    repeat (first | refine ev_gos 99 rfl ?_ | refine ev_gf2 rfl rfl rfl rfl ?_ | refine ev_gf2 rfl rfl HH_land rfl ?_ | refine ev_gf2 rfl rfl HH_draft rfl ?_ | refine ev_gf2 rfl rfl (by with_reducible assumption) rfl ?_)
    refine ev_cv rfl rfl rfl (by
      have q := e_placeOfDeed (sc := sc) (d := d) (w := w) (s := upA (upA s 6 (s 6 + 1 - (s 6 + 1) / 30 * 30)) 7 (s 7 - 1)) (l := l) (A := A) (B := B) (f := (f + 1) % 30) (i := 29) e6 (Nat.mod_lt _ (by decide)) (by decide)
      rw [← e7] at q
      exact q) ?_
    repeat (first | refine ev_gos 99 rfl ?_ | refine ev_gf2 rfl rfl rfl rfl ?_ | refine ev_gf2 rfl rfl HH_land rfl ?_ | refine ev_gf2 rfl rfl HH_draft rfl ?_ | refine ev_gf2 rfl rfl (by with_reducible assumption) rfl ?_)
    refine ev_cv rfl rfl rfl (e_putD (Nat.mod_lt _ (by decide))) ?_
    repeat (first | refine ev_gos 99 rfl ?_ | refine ev_gf2 rfl rfl rfl rfl ?_ | refine ev_gf2 rfl rfl HH_land rfl ?_ | refine ev_gf2 rfl rfl HH_draft rfl ?_ | refine ev_gf2 rfl rfl (by with_reducible assumption) rfl ?_)
    refine pf_C_7 rfl ?_
    refine ev_rv rfl ?_
    rw [upA_up]
    show HH w (upA (upA s 6 (s 6 + 1 - (s 6 + 1) / 30 * 30)) 7 (s 7 - 1 + 1)) l _ B = _
    rw [e6, e7, nI_1]
    rfl
  · rw [if_neg h30, if_neg h30]
    refine ev_ift rfl rfl rfl (c_ne (by rw [hc]; exact fun z => h30 ((nI_eq (by omega) (by decide)).mp z) : ¬ s 7 = nI 30)) ?_
    repeat (first | refine ev_gos 99 rfl ?_ | refine ev_gf2 rfl rfl rfl rfl ?_ | refine ev_gf2 rfl rfl HH_land rfl ?_ | refine ev_gf2 rfl rfl HH_draft rfl ?_ | refine ev_gf2 rfl rfl (by with_reducible assumption) rfl ?_)
    refine ev_cv rfl rfl rfl (by
      have q := e_placeOfDeed (sc := sc) (d := d) (w := w) (s := s) (l := l) (A := A) (B := B) (f := f) (i := c) hf h1 h2
      rw [← hc] at q
      exact q) ?_
    repeat (first | refine ev_gos 99 rfl ?_ | refine ev_gf2 rfl rfl rfl rfl ?_ | refine ev_gf2 rfl rfl HH_land rfl ?_ | refine ev_gf2 rfl rfl HH_draft rfl ?_ | refine ev_gf2 rfl rfl (by with_reducible assumption) rfl ?_)
    refine ev_cv rfl rfl rfl (e_putD (Nat.mod_lt _ (by decide))) ?_
    repeat (first | refine ev_gos 99 rfl ?_ | refine ev_gf2 rfl rfl rfl rfl ?_ | refine ev_gf2 rfl rfl HH_land rfl ?_ | refine ev_gf2 rfl rfl HH_draft rfl ?_ | refine ev_gf2 rfl rfl (by with_reducible assumption) rfl ?_)
    refine pf_C_7 rfl ?_
    refine ev_rv rfl ?_
    show HH w (upA s 7 (s 7 + 1)) l _ B = _
    rw [hc, nI_1, upS_same hf]
theorem e_forget : Ev sc d m_C_forgetDeeds 0 (iniL 1 [.ref 0]) [] (HH w s l A B) none (HH w (upA (upA s 6 0) 7 0) l A B) := by
  repeat (first | refine ev_gos 99 rfl ?_ | refine ev_gf2 rfl rfl rfl rfl ?_ | refine ev_gf2 rfl rfl HH_land rfl ?_ | refine ev_gf2 rfl rfl HH_draft rfl ?_ | refine ev_gf2 rfl rfl (by with_reducible assumption) rfl ?_)
  refine pf_C_6 rfl ?_
  repeat (first | refine ev_gos 99 rfl ?_ | refine ev_gf2 rfl rfl rfl rfl ?_ | refine ev_gf2 rfl rfl HH_land rfl ?_ | refine ev_gf2 rfl rfl HH_draft rfl ?_ | refine ev_gf2 rfl rfl (by with_reducible assumption) rfl ?_)
  refine pf_C_7 rfl ?_
  exact ev_rv rfl rfl
theorem e_draw {m : Nat} (h1 : 1 ≤ m) (h2 : m < 2 ^ 31) : Ev sc d m_C_draw 0 (iniL 2 [.ref 0, .int (nI m)]) [] (HH w s l A B) (some (.int (nI (drN (s 8) m)))) (HH w (upA s 8 (dS (s 8))) l A B) := by
  repeat (first | refine ev_gos 99 rfl ?_ | refine ev_gf2 rfl rfl rfl rfl ?_ | refine ev_gf2 rfl rfl HH_land rfl ?_ | refine ev_gf2 rfl rfl HH_draft rfl ?_ | refine ev_gf2 rfl rfl (by with_reducible assumption) rfl ?_)
  refine pf_C_8 rfl ?_
  repeat (first | refine ev_gos 99 rfl ?_ | refine ev_gf2 rfl rfl rfl rfl ?_ | refine ev_gf2 rfl rfl HH_land rfl ?_ | refine ev_gf2 rfl rfl HH_draft rfl ?_ | refine ev_gf2 rfl rfl (by with_reducible assumption) rfl ?_)
  refine ev_ift rfl rfl rfl (c_ge ((nI_leI (by decide) h2).mpr h1 : nI 1 ≤ nI m)) ?_
  repeat (first | refine ev_gos 99 rfl ?_ | refine ev_gf2 rfl rfl rfl rfl ?_ | refine ev_gf2 rfl rfl HH_land rfl ?_ | refine ev_gf2 rfl rfl HH_draft rfl ?_ | refine ev_gf2 rfl rfl (by with_reducible assumption) rfl ?_)
  refine ev_gos 3 rfl ?_
  refine ev_ire rfl (nI_ne h1 h2) ?_
  refine ev_ri rfl ?_ rfl
  obtain ⟨t, t1, t2⟩ := dS_nI (s 8)
  unfold drN
  show dS (s 8) / nI 65536 - dS (s 8) / nI 65536 / nI m * nI m = _
  rw [t2, nI_clamp t1, pk_div t1 (by decide) (by decide), pk_rem (Nat.lt_of_le_of_lt (Nat.div_le_self _ _) t1) h1 h2]
end DED
