/-! Notebook's questions; what there is -/
def fnd (f : Nat → Bool) : Nat → Nat → Int32
  | 0, _ => -1
  | k + 1, i => bif f i then nI i else fnd f k (i + 1)
def allB (f : Nat → Bool) : Nat → Nat → Bool
  | 0, _ => true
  | k + 1, i => bif f i then allB f k (i + 1) else false
def inR (x : Int32) (n : Nat) : Bool := decide (0 ≤ x) && decide (x < nI n)
theorem inR_of {x : Int32} {n : Nat} (hn : n < 2 ^ 31) (h : inR x n = true) : ∃ k, k < n ∧ x = nI k := by
  obtain ⟨h1, h2⟩ := andE h
  have h3 := of_decide_eq_true h1
  have h4 := of_decide_eq_true h2
  obtain ⟨j, hj, rfl⟩ := nI_of (x := x) (fun z => by rw [Int32.lt_iff_toInt_lt] at z; rw [Int32.le_iff_toInt_le] at h3; omega)
  exact ⟨j, (nI_ltI hj hn).mp h4, rfl⟩
theorem inR_nI {k n : Nat} (h : k < n) (hn : n < 2 ^ 31) : inR (nI k) n = true := by
  unfold inR
  rw [decide_eq_true (nI_pos' (by omega)), decide_eq_true ((nI_ltI (by omega) hn).mpr h)]
  rfl
def agS (fc fd : Nat → Int32) (x : Int64) (n : Nat) : Bool := allB (fun i => decide (b01 (bs x (fc i).toNatClampNeg) = fd i)) n 0
def whoP (at_ : Nat → Int32) : Nat → Int32
  | 0 => 0
  | n + 1 => if at_ n = -1 then whoP at_ n else whoP at_ n ||| ((1 : Int32) <<< (nI n &&& 31))
def truP (at_ kd_ : Nat → Int32) : Nat → Int32
  | 0 => 0
  | n + 1 => if at_ n = -1 then truP at_ kd_ n else truP at_ kd_ n + (if kd_ n = 2 then 2 else 1)
def slbS (kd_ at_ : Nat → Int32) (sh : Nat → Int64) (p : Nat) : Int64 := if at_ p = -1 then 0 else sh ((kd_ p).toNatClampNeg * 49 + (at_ p).toNatClampNeg)
section HLP
variable {sc : Scr} {d : Nat} {w : Bool} {s : Nat → Int32} {l : Nat → Int64} {A : Nat → Nat → Int32} {B : Nat → Nat → Int64} {W H N P : Nat}
theorem e_agrees_loop {m : Nat} (hm : m ≤ 6) (hs : s 13 = nI m) (hf : ∀ i, i < m → ∃ c, c < 49 ∧ A 22 i = nI c) (x : Int64) : ∀ (n i : Nat), i + n = m → Ev sc (d + 1) m_N_agreesWith 7 [some (.ref 21), some (.long x), none, some (.int (nI i))] [.int (s 13), .int (nI i)] (HH w s l A B) (some (.int (b01 (allB (fun i => decide (b01 (bs x (A 22 i).toNatClampNeg) = A 23 i)) n i)))) (HH w s l A B) := by
  intro n
  induction n with
  | zero =>
    intro i hi
    refine ev_ift rfl rfl rfl (c_ge (by rw [hs]; exact (nI_leI (by omega) (by omega)).mpr (by omega))) ?_
    repeat (first | refine ev_gos 99 rfl ?_ | refine ev_gf2 rfl rfl rfl rfl ?_ | refine ev_gf2 rfl rfl HH_land rfl ?_ | refine ev_gf2 rfl rfl HH_draft rfl ?_ | refine ev_gf2 rfl rfl (by with_reducible assumption) rfl ?_)
    exact ev_rz rfl (Or.inr rfl) rfl rfl
  | succ n ih =>
    intro i hi
    refine ev_iff rfl rfl rfl (d_ge (by rw [hs]; exact nI_lt3 (by omega) (by omega) (by omega))) ?_
    repeat (first | refine ev_gos 99 rfl ?_ | refine ev_gf2 rfl rfl rfl rfl ?_ | refine ev_gf2 rfl rfl HH_land rfl ?_ | refine ev_gf2 rfl rfl HH_draft rfl ?_ | refine ev_gf2 rfl rfl (by with_reducible assumption) rfl ?_)
    refine ev_ia rfl rfl (inI (by omega) (by decide)) ?_
    rw [nI_clamp (by omega)]
    obtain ⟨c, hc, ec⟩ := hf i (by omega)
    refine ev_cs rfl rfl rfl (by rw [ec]; exact e_has sc d _ x hc) ?_
    repeat (first | refine ev_gos 99 rfl ?_ | refine ev_gf2 rfl rfl rfl rfl ?_ | refine ev_gf2 rfl rfl HH_land rfl ?_ | refine ev_gf2 rfl rfl HH_draft rfl ?_ | refine ev_gf2 rfl rfl (by with_reducible assumption) rfl ?_)
    refine ev_ba rfl rfl (inI (by omega) (by decide)) ?_
    rw [nI_clamp (by omega)]
    have e : allB (fun i => decide (b01 (bs x (A 22 i).toNatClampNeg) = A 23 i)) (n + 1) i = bif decide (b01 (bs x c) = A 23 i) then allB (fun i => decide (b01 (bs x (A 22 i).toNatClampNeg) = A 23 i)) n (i + 1) else false := by
      show (bif decide (b01 (bs x (A 22 i).toNatClampNeg) = A 23 i) then _ else _) = _
      rw [ec, nI_clamp (by omega)]
    rw [e]
    by_cases hq : b01 (bs x c) = A 23 i
    · rw [decide_eq_true hq]
      refine ev_ift rfl rfl rfl (c_eq hq) ?_
      repeat (first | refine ev_gos 99 rfl ?_ | refine ev_gf2 rfl rfl rfl rfl ?_ | refine ev_gf2 rfl rfl HH_land rfl ?_ | refine ev_gf2 rfl rfl HH_draft rfl ?_ | refine ev_gf2 rfl rfl (by with_reducible assumption) rfl ?_)
      have h3 := ih (i + 1) (by omega)
      rw [← nI_1] at h3
      exact h3
    · rw [decide_eq_false hq]
      refine ev_iff rfl rfl rfl (d_eq hq) ?_
      repeat (first | refine ev_gos 99 rfl ?_ | refine ev_gf2 rfl rfl rfl rfl ?_ | refine ev_gf2 rfl rfl HH_land rfl ?_ | refine ev_gf2 rfl rfl HH_draft rfl ?_ | refine ev_gf2 rfl rfl (by with_reducible assumption) rfl ?_)
      exact ev_rz rfl (Or.inl rfl) rfl rfl
theorem e_agrees {m : Nat} (hm : m ≤ 6) (hs : s 13 = nI m) (hf : ∀ i, i < m → ∃ c, c < 49 ∧ A 22 i = nI c) (x : Int64) : Ev sc (d + 1) m_N_agreesWith 0 (iniL 4 [.ref 21, .long x]) [] (HH w s l A B) (some (.int (b01 (agS (A 22) (A 23) x m)))) (HH w s l A B) := by
  repeat (first | refine ev_gos 99 rfl ?_ | refine ev_gf2 rfl rfl rfl rfl ?_ | refine ev_gf2 rfl rfl HH_land rfl ?_ | refine ev_gf2 rfl rfl HH_draft rfl ?_ | refine ev_gf2 rfl rfl (by with_reducible assumption) rfl ?_)
  exact e_agrees_loop hm hs hf x m 0 (Nat.zero_add m)
theorem e_firstOther_loop {m : Nat} (hm : m ≤ 20) (hs : s 14 = nI m) (x : Int32) : ∀ (n i : Nat), i + n = m → Ev sc d m_N_firstOtherThan 7 [some (.ref 21), some (.int x), some (.int (nI i))] [.int (s 14), .int (nI i)] (HH w s l A B) (some (.int (fnd (fun i => decide (¬ A 24 i = x)) n i))) (HH w s l A B) := by
  intro n
  induction n with
  | zero =>
    intro i hi
    refine ev_ift rfl rfl rfl (c_ge (by rw [hs]; exact (nI_leI (by omega) (by omega)).mpr (by omega))) ?_
    repeat (first | refine ev_gos 99 rfl ?_ | refine ev_gf2 rfl rfl rfl rfl ?_ | refine ev_gf2 rfl rfl HH_land rfl ?_ | refine ev_gf2 rfl rfl HH_draft rfl ?_ | refine ev_gf2 rfl rfl (by with_reducible assumption) rfl ?_)
    exact ev_ri rfl rfl rfl
  | succ n ih =>
    intro i hi
    refine ev_iff rfl rfl rfl (d_ge (by rw [hs]; exact nI_lt3 (by omega) (by omega) (by omega))) ?_
    repeat (first | refine ev_gos 99 rfl ?_ | refine ev_gf2 rfl rfl rfl rfl ?_ | refine ev_gf2 rfl rfl HH_land rfl ?_ | refine ev_gf2 rfl rfl HH_draft rfl ?_ | refine ev_gf2 rfl rfl (by with_reducible assumption) rfl ?_)
    refine ev_ia rfl rfl (inI (by omega) (by decide)) ?_
    rw [nI_clamp (by omega)]
    repeat (first | refine ev_gos 99 rfl ?_ | refine ev_gf2 rfl rfl rfl rfl ?_ | refine ev_gf2 rfl rfl HH_land rfl ?_ | refine ev_gf2 rfl rfl HH_draft rfl ?_ | refine ev_gf2 rfl rfl (by with_reducible assumption) rfl ?_)
    by_cases hq : A 24 i = x
    · refine ev_ift rfl rfl rfl (c_eq hq) ?_
      repeat (first | refine ev_gos 99 rfl ?_ | refine ev_gf2 rfl rfl rfl rfl ?_ | refine ev_gf2 rfl rfl HH_land rfl ?_ | refine ev_gf2 rfl rfl HH_draft rfl ?_ | refine ev_gf2 rfl rfl (by with_reducible assumption) rfl ?_)
      have h3 := ih (i + 1) (by omega)
      rw [← nI_1] at h3
      have e : fnd (fun i => decide (¬ A 24 i = x)) (n + 1) i = fnd (fun i => decide (¬ A 24 i = x)) n (i + 1) := by
        show (bif decide (¬ A 24 i = x) then _ else _) = _
        rw [decide_eq_false (fun z => z hq)]
        rfl
      rw [e]
      exact h3
    · refine ev_iff rfl rfl rfl (d_eq hq) ?_
      repeat (first | refine ev_gos 99 rfl ?_ | refine ev_gf2 rfl rfl rfl rfl ?_ | refine ev_gf2 rfl rfl HH_land rfl ?_ | refine ev_gf2 rfl rfl HH_draft rfl ?_ | refine ev_gf2 rfl rfl (by with_reducible assumption) rfl ?_)
      refine ev_ri rfl ?_ rfl
      show nI i = (bif decide (¬ A 24 i = x) then _ else _)
      rw [decide_eq_true hq]
      rfl
theorem e_firstOther {m : Nat} (hm : m ≤ 20) (hs : s 14 = nI m) (x : Int32) : Ev sc d m_N_firstOtherThan 0 (iniL 3 [.ref 21, .int x]) [] (HH w s l A B) (some (.int (fnd (fun i => decide (¬ A 24 i = x)) m 0))) (HH w s l A B) := by
  repeat (first | refine ev_gos 99 rfl ?_ | refine ev_gf2 rfl rfl rfl rfl ?_ | refine ev_gf2 rfl rfl HH_land rfl ?_ | refine ev_gf2 rfl rfl HH_draft rfl ?_ | refine ev_gf2 rfl rfl (by with_reducible assumption) rfl ?_)
  exact e_firstOther_loop hm hs x m 0 (Nat.zero_add m)
theorem e_hasNorth (hw : s 15 = nI W) (hW : W ≤ 7) : Ev sc d m_C_hasNorth 0 (iniL 1 [.ref 0]) [] (HH w s l A B) (some (.int (b01 (decide (0 < W))))) (HH w s l A B) := by
  repeat (first | refine ev_gos 99 rfl ?_ | refine ev_gf2 rfl rfl rfl rfl ?_ | refine ev_gf2 rfl rfl HH_land rfl ?_ | refine ev_gf2 rfl rfl HH_draft rfl ?_ | refine ev_gf2 rfl rfl (by with_reducible assumption) rfl ?_)
  by_cases h0 : 0 < W
  · refine ev_iff rfl rfl rfl (j_le (by rw [hw]; exact nI_nle h0 (by omega) : ¬ s 15 ≤ 0)) ?_
    repeat (first | refine ev_gos 99 rfl ?_ | refine ev_gf2 rfl rfl rfl rfl ?_ | refine ev_gf2 rfl rfl HH_land rfl ?_ | refine ev_gf2 rfl rfl HH_draft rfl ?_ | refine ev_gf2 rfl rfl (by with_reducible assumption) rfl ?_)
    exact ev_rz rfl (Or.inr rfl) (by rw [decide_eq_true h0]; rfl) rfl
  · refine ev_ift rfl rfl rfl (i_le (by rw [hw, show W = 0 by omega]; decide : s 15 ≤ 0)) ?_
    repeat (first | refine ev_gos 99 rfl ?_ | refine ev_gf2 rfl rfl rfl rfl ?_ | refine ev_gf2 rfl rfl HH_land rfl ?_ | refine ev_gf2 rfl rfl HH_draft rfl ?_ | refine ev_gf2 rfl rfl (by with_reducible assumption) rfl ?_)
    exact ev_rz rfl (Or.inl rfl) (by rw [decide_eq_false h0]; rfl) rfl
theorem ge0 {x : Int32} (h : ¬ x < 0) : 0 ≤ x := by rw [Int32.lt_iff_toInt_lt] at h; rw [Int32.le_iff_toInt_le]; omega
theorem lt0 {x : Int32} (h : x < 0) : ¬ 0 ≤ x := by rw [Int32.lt_iff_toInt_lt] at h; rw [Int32.le_iff_toInt_le]; omega
theorem nle_lt {x y : Int32} (h : ¬ y ≤ x) : x < y := by rw [Int32.le_iff_toInt_le] at h; rw [Int32.lt_iff_toInt_lt]; omega
theorem le_nlt {x y : Int32} (h : y ≤ x) : ¬ x < y := by rw [Int32.le_iff_toInt_le] at h; rw [Int32.lt_iff_toInt_lt]; omega
theorem e_isCell (hN : s 15 * s 16 = nI N) (c : Int32) : Ev sc (d + 1) m_C_isCell 0 (iniL 2 [.ref 0, .int c]) [] (HH w s l A B) (some (.int (b01 (inR c N)))) (HH w s l A B) := by
  repeat (first | refine ev_gos 99 rfl ?_ | refine ev_gf2 rfl rfl rfl rfl ?_ | refine ev_gf2 rfl rfl HH_land rfl ?_ | refine ev_gf2 rfl rfl HH_draft rfl ?_ | refine ev_gf2 rfl rfl (by with_reducible assumption) rfl ?_)
  unfold inR
  by_cases h0 : c < 0
  · refine ev_ift rfl rfl rfl (i_lt h0) ?_
    repeat (first | refine ev_gos 99 rfl ?_ | refine ev_gf2 rfl rfl rfl rfl ?_ | refine ev_gf2 rfl rfl HH_land rfl ?_ | refine ev_gf2 rfl rfl HH_draft rfl ?_ | refine ev_gf2 rfl rfl (by with_reducible assumption) rfl ?_)
    exact ev_rz rfl (Or.inl rfl) (by rw [decide_eq_false (lt0 h0)]; rfl) rfl
  · refine ev_iff rfl rfl rfl (j_lt h0) ?_
    repeat (first | refine ev_gos 99 rfl ?_ | refine ev_gf2 rfl rfl rfl rfl ?_ | refine ev_gf2 rfl rfl HH_land rfl ?_ | refine ev_gf2 rfl rfl HH_draft rfl ?_ | refine ev_gf2 rfl rfl (by with_reducible assumption) rfl ?_)
    refine ev_cv rfl rfl HH_land (e_cells HH_land) ?_
    rw [hN]
    by_cases h1 : nI N ≤ c
    · refine ev_ift rfl rfl rfl (c_ge h1) ?_
      repeat (first | refine ev_gos 99 rfl ?_ | refine ev_gf2 rfl rfl rfl rfl ?_ | refine ev_gf2 rfl rfl HH_land rfl ?_ | refine ev_gf2 rfl rfl HH_draft rfl ?_ | refine ev_gf2 rfl rfl (by with_reducible assumption) rfl ?_)
      exact ev_rz rfl (Or.inl rfl) (by rw [decide_eq_false (le_nlt h1), Bool.and_false]; rfl) rfl
    · refine ev_iff rfl rfl rfl (d_ge h1) ?_
      repeat (first | refine ev_gos 99 rfl ?_ | refine ev_gf2 rfl rfl rfl rfl ?_ | refine ev_gf2 rfl rfl HH_land rfl ?_ | refine ev_gf2 rfl rfl HH_draft rfl ?_ | refine ev_gf2 rfl rfl (by with_reducible assumption) rfl ?_)
      exact ev_rz rfl (Or.inr rfl) (by rw [decide_eq_true (ge0 h0), decide_eq_true (nle_lt h1)]; rfl) rfl
theorem e_isPerson (hP : s 17 = nI P) (c : Int32) : Ev sc d m_C_isPerson 0 (iniL 2 [.ref 0, .int c]) [] (HH w s l A B) (some (.int (b01 (inR c P)))) (HH w s l A B) := by
  repeat (first | refine ev_gos 99 rfl ?_ | refine ev_gf2 rfl rfl rfl rfl ?_ | refine ev_gf2 rfl rfl HH_land rfl ?_ | refine ev_gf2 rfl rfl HH_draft rfl ?_ | refine ev_gf2 rfl rfl (by with_reducible assumption) rfl ?_)
  unfold inR
  by_cases h0 : c < 0
  · refine ev_ift rfl rfl rfl (i_lt h0) ?_
    repeat (first | refine ev_gos 99 rfl ?_ | refine ev_gf2 rfl rfl rfl rfl ?_ | refine ev_gf2 rfl rfl HH_land rfl ?_ | refine ev_gf2 rfl rfl HH_draft rfl ?_ | refine ev_gf2 rfl rfl (by with_reducible assumption) rfl ?_)
    exact ev_rz rfl (Or.inl rfl) (by rw [decide_eq_false (lt0 h0)]; rfl) rfl
  · refine ev_iff rfl rfl rfl (j_lt h0) ?_
    repeat (first | refine ev_gos 99 rfl ?_ | refine ev_gf2 rfl rfl rfl rfl ?_ | refine ev_gf2 rfl rfl HH_land rfl ?_ | refine ev_gf2 rfl rfl HH_draft rfl ?_ | refine ev_gf2 rfl rfl (by with_reducible assumption) rfl ?_)
    by_cases h1 : nI P ≤ c
    · refine ev_ift rfl rfl rfl (c_ge (by rw [← hP] at h1; exact h1 : s 17 ≤ c)) ?_
      repeat (first | refine ev_gos 99 rfl ?_ | refine ev_gf2 rfl rfl rfl rfl ?_ | refine ev_gf2 rfl rfl HH_land rfl ?_ | refine ev_gf2 rfl rfl HH_draft rfl ?_ | refine ev_gf2 rfl rfl (by with_reducible assumption) rfl ?_)
      exact ev_rz rfl (Or.inl rfl) (by rw [decide_eq_false (le_nlt h1), Bool.and_false]; rfl) rfl
    · refine ev_iff rfl rfl rfl (d_ge (by rw [← hP] at h1; exact h1 : ¬ s 17 ≤ c)) ?_
      repeat (first | refine ev_gos 99 rfl ?_ | refine ev_gf2 rfl rfl rfl rfl ?_ | refine ev_gf2 rfl rfl HH_land rfl ?_ | refine ev_gf2 rfl rfl HH_draft rfl ?_ | refine ev_gf2 rfl rfl (by with_reducible assumption) rfl ?_)
      exact ev_rz rfl (Or.inr rfl) (by rw [decide_eq_true (ge0 h0), decide_eq_true (nle_lt h1)]; rfl) rfl
theorem e_isImage (h : AHp) (c : Int32) : Ev sc d m_C_isImage 0 (iniL 2 [.ref 0, .int c]) [] h (some (.int (b01 (inR c 2)))) h := by
  repeat (first | refine ev_gos 99 rfl ?_ | refine ev_gf2 rfl rfl rfl rfl ?_ | refine ev_gf2 rfl rfl HH_land rfl ?_ | refine ev_gf2 rfl rfl HH_draft rfl ?_ | refine ev_gf2 rfl rfl (by with_reducible assumption) rfl ?_)
  unfold inR
  by_cases h0 : c < 0
  · refine ev_ift rfl rfl rfl (i_lt h0) ?_
    repeat (first | refine ev_gos 99 rfl ?_ | refine ev_gf2 rfl rfl rfl rfl ?_ | refine ev_gf2 rfl rfl HH_land rfl ?_ | refine ev_gf2 rfl rfl HH_draft rfl ?_ | refine ev_gf2 rfl rfl (by with_reducible assumption) rfl ?_)
    exact ev_rz rfl (Or.inl rfl) (by rw [decide_eq_false (lt0 h0)]; rfl) rfl
  · refine ev_iff rfl rfl rfl (j_lt h0) ?_
    repeat (first | refine ev_gos 99 rfl ?_ | refine ev_gf2 rfl rfl rfl rfl ?_ | refine ev_gf2 rfl rfl HH_land rfl ?_ | refine ev_gf2 rfl rfl HH_draft rfl ?_ | refine ev_gf2 rfl rfl (by with_reducible assumption) rfl ?_)
    by_cases h1 : nI 2 ≤ c
    · refine ev_ift rfl rfl rfl (c_ge h1) ?_
      repeat (first | refine ev_gos 99 rfl ?_ | refine ev_gf2 rfl rfl rfl rfl ?_ | refine ev_gf2 rfl rfl HH_land rfl ?_ | refine ev_gf2 rfl rfl HH_draft rfl ?_ | refine ev_gf2 rfl rfl (by with_reducible assumption) rfl ?_)
      exact ev_rz rfl (Or.inl rfl) (by rw [decide_eq_false (le_nlt h1), Bool.and_false]; rfl) rfl
    · refine ev_iff rfl rfl rfl (d_ge h1) ?_
      repeat (first | refine ev_gos 99 rfl ?_ | refine ev_gf2 rfl rfl rfl rfl ?_ | refine ev_gf2 rfl rfl HH_land rfl ?_ | refine ev_gf2 rfl rfl HH_draft rfl ?_ | refine ev_gf2 rfl rfl (by with_reducible assumption) rfl ?_)
      exact ev_rz rfl (Or.inr rfl) (by rw [decide_eq_true (ge0 h0), decide_eq_true (nle_lt h1)]; rfl) rfl
theorem e_everybody : Ev sc d m_C_everybody 0 (iniL 1 [.ref 0]) [] (HH w s l A B) (some (.int (((1 : Int32) <<< (s 17 &&& 31)) - 1))) (HH w s l A B) := by
  repeat (first | refine ev_gos 99 rfl ?_ | refine ev_gf2 rfl rfl rfl rfl ?_ | refine ev_gf2 rfl rfl HH_land rfl ?_ | refine ev_gf2 rfl rfl HH_draft rfl ?_ | refine ev_gf2 rfl rfl (by with_reducible assumption) rfl ?_)
  exact ev_ri rfl rfl rfl
theorem e_whoLies_loop (hP : s 17 = nI P) (hP7 : P ≤ 7) : ∀ (n i : Nat), i + n = P → Ev sc d m_C_whoLies 12 [some (.ref 0), some (.int (whoP (A 11) i)), some (.int (nI i))] [.int (s 17), .int (nI i)] (HH w s l A B) (some (.int (whoP (A 11) P))) (HH w s l A B) := by
  intro n
  induction n with
  | zero =>
    intro i hi
    have e : i = P := by omega
    subst e
    refine ev_ift rfl rfl rfl (c_ge (by rw [hP]; exact (nI_leI (by omega) (by omega)).mpr (by omega))) ?_
    repeat (first | refine ev_gos 99 rfl ?_ | refine ev_gf2 rfl rfl rfl rfl ?_ | refine ev_gf2 rfl rfl HH_land rfl ?_ | refine ev_gf2 rfl rfl HH_draft rfl ?_ | refine ev_gf2 rfl rfl (by with_reducible assumption) rfl ?_)
    exact ev_ri rfl rfl rfl
  | succ n ih =>
    intro i hi
    refine ev_iff rfl rfl rfl (d_ge (by rw [hP]; exact nI_lt3 (by omega) (by omega) (by omega))) ?_
    repeat (first | refine ev_gos 99 rfl ?_ | refine ev_gf2 rfl rfl rfl rfl ?_ | refine ev_gf2 rfl rfl HH_land rfl ?_ | refine ev_gf2 rfl rfl HH_draft rfl ?_ | refine ev_gf2 rfl rfl (by with_reducible assumption) rfl ?_)
    refine ev_ia rfl rfl (inI (by omega) (by decide)) ?_
    rw [nI_clamp (by omega)]
    repeat (first | refine ev_gos 99 rfl ?_ | refine ev_gf2 rfl rfl rfl rfl ?_ | refine ev_gf2 rfl rfl HH_land rfl ?_ | refine ev_gf2 rfl rfl HH_draft rfl ?_ | refine ev_gf2 rfl rfl (by with_reducible assumption) rfl ?_)
    have h3 := ih (i + 1) (by omega)
    rw [← nI_1] at h3
    by_cases hq : A 11 i = -1
    · refine ev_ift rfl rfl rfl (c_eq hq) ?_
      repeat (first | refine ev_gos 99 rfl ?_ | refine ev_gf2 rfl rfl rfl rfl ?_ | refine ev_gf2 rfl rfl HH_land rfl ?_ | refine ev_gf2 rfl rfl HH_draft rfl ?_ | refine ev_gf2 rfl rfl (by with_reducible assumption) rfl ?_)
      rw [show whoP (A 11) (i + 1) = whoP (A 11) i by show (if A 11 i = -1 then _ else _) = _; rw [if_pos hq]] at h3
      exact h3
    · refine ev_iff rfl rfl rfl (d_eq hq) ?_
      repeat (first | refine ev_gos 99 rfl ?_ | refine ev_gf2 rfl rfl rfl rfl ?_ | refine ev_gf2 rfl rfl HH_land rfl ?_ | refine ev_gf2 rfl rfl HH_draft rfl ?_ | refine ev_gf2 rfl rfl (by with_reducible assumption) rfl ?_)
      rw [show whoP (A 11) (i + 1) = whoP (A 11) i ||| ((1 : Int32) <<< (nI i &&& 31)) by show (if A 11 i = -1 then _ else _) = _; rw [if_neg hq]] at h3
      exact h3
theorem e_whoLies (hP : s 17 = nI P) (hP7 : P ≤ 7) : Ev sc d m_C_whoLies 0 (iniL 3 [.ref 0]) [] (HH w s l A B) (some (.int (whoP (A 11) P))) (HH w s l A B) := by
  repeat (first | refine ev_gos 99 rfl ?_ | refine ev_gf2 rfl rfl rfl rfl ?_ | refine ev_gf2 rfl rfl HH_land rfl ?_ | refine ev_gf2 rfl rfl HH_draft rfl ?_ | refine ev_gf2 rfl rfl (by with_reducible assumption) rfl ?_)
  exact e_whoLies_loop hP hP7 P 0 (Nat.zero_add P)
theorem e_whoIsAt_loop (hP : s 17 = nI P) (hP7 : P ≤ 7) (x : Int32) : ∀ (n i : Nat), i + n = P → Ev sc d m_C_whoIsAt 10 [some (.ref 0), some (.int x), some (.int (nI i))] [.int (s 17), .int (nI i)] (HH w s l A B) (some (.int (fnd (fun i => decide (A 11 i = x)) n i))) (HH w s l A B) := by
  intro n
  induction n with
  | zero =>
    intro i hi
    refine ev_ift rfl rfl rfl (c_ge (by rw [hP]; exact (nI_leI (by omega) (by omega)).mpr (by omega))) ?_
    repeat (first | refine ev_gos 99 rfl ?_ | refine ev_gf2 rfl rfl rfl rfl ?_ | refine ev_gf2 rfl rfl HH_land rfl ?_ | refine ev_gf2 rfl rfl HH_draft rfl ?_ | refine ev_gf2 rfl rfl (by with_reducible assumption) rfl ?_)
    exact ev_ri rfl rfl rfl
  | succ n ih =>
    intro i hi
    refine ev_iff rfl rfl rfl (d_ge (by rw [hP]; exact nI_lt3 (by omega) (by omega) (by omega))) ?_
    repeat (first | refine ev_gos 99 rfl ?_ | refine ev_gf2 rfl rfl rfl rfl ?_ | refine ev_gf2 rfl rfl HH_land rfl ?_ | refine ev_gf2 rfl rfl HH_draft rfl ?_ | refine ev_gf2 rfl rfl (by with_reducible assumption) rfl ?_)
    refine ev_ia rfl rfl (inI (by omega) (by decide)) ?_
    rw [nI_clamp (by omega)]
    repeat (first | refine ev_gos 99 rfl ?_ | refine ev_gf2 rfl rfl rfl rfl ?_ | refine ev_gf2 rfl rfl HH_land rfl ?_ | refine ev_gf2 rfl rfl HH_draft rfl ?_ | refine ev_gf2 rfl rfl (by with_reducible assumption) rfl ?_)
    by_cases hq : A 11 i = x
    · refine ev_iff rfl rfl rfl (d_ne hq) ?_
      repeat (first | refine ev_gos 99 rfl ?_ | refine ev_gf2 rfl rfl rfl rfl ?_ | refine ev_gf2 rfl rfl HH_land rfl ?_ | refine ev_gf2 rfl rfl HH_draft rfl ?_ | refine ev_gf2 rfl rfl (by with_reducible assumption) rfl ?_)
      refine ev_ri rfl ?_ rfl
      show nI i = (bif decide (A 11 i = x) then _ else _)
      rw [decide_eq_true hq]
      rfl
    · refine ev_ift rfl rfl rfl (c_ne hq) ?_
      repeat (first | refine ev_gos 99 rfl ?_ | refine ev_gf2 rfl rfl rfl rfl ?_ | refine ev_gf2 rfl rfl HH_land rfl ?_ | refine ev_gf2 rfl rfl HH_draft rfl ?_ | refine ev_gf2 rfl rfl (by with_reducible assumption) rfl ?_)
      have h3 := ih (i + 1) (by omega)
      rw [← nI_1] at h3
      have e : fnd (fun i => decide (A 11 i = x)) (n + 1) i = fnd (fun i => decide (A 11 i = x)) n (i + 1) := by
        show (bif decide (A 11 i = x) then _ else _) = _
        rw [decide_eq_false hq]
        rfl
      rw [e]
      exact h3
theorem e_whoIsAt (hP : s 17 = nI P) (hP7 : P ≤ 7) (x : Int32) : Ev sc d m_C_whoIsAt 0 (iniL 3 [.ref 0, .int x]) [] (HH w s l A B) (some (.int (fnd (fun i => decide (A 11 i = x)) P 0))) (HH w s l A B) := by
  repeat (first | refine ev_gos 99 rfl ?_ | refine ev_gf2 rfl rfl rfl rfl ?_ | refine ev_gf2 rfl rfl HH_land rfl ?_ | refine ev_gf2 rfl rfl HH_draft rfl ?_ | refine ev_gf2 rfl rfl (by with_reducible assumption) rfl ?_)
  exact e_whoIsAt_loop hP hP7 x P 0 (Nat.zero_add P)
theorem e_truth_loop (hP : s 17 = nI P) (hP7 : P ≤ 7) : ∀ (n i : Nat), i + n = P → Ev sc d m_C_truth 12 [some (.ref 0), some (.int (truP (A 11) (A 4) i)), some (.int (nI i))] [.int (s 17), .int (nI i)] (HH w s l A B) (some (.int (truP (A 11) (A 4) P))) (HH w s l A B) := by
  intro n
  induction n with
  | zero =>
    intro i hi
    have e : i = P := by omega
    subst e
    refine ev_ift rfl rfl rfl (c_ge (by rw [hP]; exact (nI_leI (by omega) (by omega)).mpr (by omega))) ?_
    repeat (first | refine ev_gos 99 rfl ?_ | refine ev_gf2 rfl rfl rfl rfl ?_ | refine ev_gf2 rfl rfl HH_land rfl ?_ | refine ev_gf2 rfl rfl HH_draft rfl ?_ | refine ev_gf2 rfl rfl (by with_reducible assumption) rfl ?_)
    exact ev_ri rfl rfl rfl
  | succ n ih =>
    intro i hi
    refine ev_iff rfl rfl rfl (d_ge (by rw [hP]; exact nI_lt3 (by omega) (by omega) (by omega))) ?_
    repeat (first | refine ev_gos 99 rfl ?_ | refine ev_gf2 rfl rfl rfl rfl ?_ | refine ev_gf2 rfl rfl HH_land rfl ?_ | refine ev_gf2 rfl rfl HH_draft rfl ?_ | refine ev_gf2 rfl rfl (by with_reducible assumption) rfl ?_)
    refine ev_ia rfl rfl (inI (by omega) (by decide)) ?_
    rw [nI_clamp (by omega)]
    repeat (first | refine ev_gos 99 rfl ?_ | refine ev_gf2 rfl rfl rfl rfl ?_ | refine ev_gf2 rfl rfl HH_land rfl ?_ | refine ev_gf2 rfl rfl HH_draft rfl ?_ | refine ev_gf2 rfl rfl (by with_reducible assumption) rfl ?_)
    have h3 := ih (i + 1) (by omega)
    rw [← nI_1] at h3
    by_cases hq : A 11 i = -1
    · refine ev_ift rfl rfl rfl (c_eq hq) ?_
      repeat (first | refine ev_gos 99 rfl ?_ | refine ev_gf2 rfl rfl rfl rfl ?_ | refine ev_gf2 rfl rfl HH_land rfl ?_ | refine ev_gf2 rfl rfl HH_draft rfl ?_ | refine ev_gf2 rfl rfl (by with_reducible assumption) rfl ?_)
      rw [show truP (A 11) (A 4) (i + 1) = truP (A 11) (A 4) i by show (if A 11 i = -1 then _ else _) = _; rw [if_pos hq]] at h3
      exact h3
    · refine ev_iff rfl rfl rfl (d_eq hq) ?_
      repeat (first | refine ev_gos 99 rfl ?_ | refine ev_gf2 rfl rfl rfl rfl ?_ | refine ev_gf2 rfl rfl HH_land rfl ?_ | refine ev_gf2 rfl rfl HH_draft rfl ?_ | refine ev_gf2 rfl rfl (by with_reducible assumption) rfl ?_)
      refine ev_ia rfl HH_kinds (inI (by omega) (by decide)) ?_
      rw [nI_clamp (by omega)]
      repeat (first | refine ev_gos 99 rfl ?_ | refine ev_gf2 rfl rfl rfl rfl ?_ | refine ev_gf2 rfl rfl HH_land rfl ?_ | refine ev_gf2 rfl rfl HH_draft rfl ?_ | refine ev_gf2 rfl rfl (by with_reducible assumption) rfl ?_)
      rw [show truP (A 11) (A 4) (i + 1) = truP (A 11) (A 4) i + (if A 4 i = 2 then 2 else 1) by show (if A 11 i = -1 then _ else _) = _; rw [if_neg hq]] at h3
      by_cases h2 : A 4 i = 2
      · rw [if_pos h2] at h3
        refine ev_iff rfl rfl rfl (d_ne h2) ?_
        repeat (first | refine ev_gos 99 rfl ?_ | refine ev_gf2 rfl rfl rfl rfl ?_ | refine ev_gf2 rfl rfl HH_land rfl ?_ | refine ev_gf2 rfl rfl HH_draft rfl ?_ | refine ev_gf2 rfl rfl (by with_reducible assumption) rfl ?_)
        exact h3
      · rw [if_neg h2] at h3
        refine ev_ift rfl rfl rfl (c_ne h2) ?_
        repeat (first | refine ev_gos 99 rfl ?_ | refine ev_gf2 rfl rfl rfl rfl ?_ | refine ev_gf2 rfl rfl HH_land rfl ?_ | refine ev_gf2 rfl rfl HH_draft rfl ?_ | refine ev_gf2 rfl rfl (by with_reducible assumption) rfl ?_)
        exact h3
theorem e_truth (hP : s 17 = nI P) (hP7 : P ≤ 7) : Ev sc d m_C_truth 0 (iniL 3 [.ref 0]) [] (HH w s l A B) (some (.int (truP (A 11) (A 4) P))) (HH w s l A B) := by
  repeat (first | refine ev_gos 99 rfl ?_ | refine ev_gf2 rfl rfl rfl rfl ?_ | refine ev_gf2 rfl rfl HH_land rfl ?_ | refine ev_gf2 rfl rfl HH_draft rfl ?_ | refine ev_gf2 rfl rfl (by with_reducible assumption) rfl ?_)
  exact e_truth_loop hP hP7 P 0 (Nat.zero_add P)
theorem e_shapeLeftBy {p : Nat} (hp : p < 7) (hk : ∃ k, k < 5 ∧ A 4 p = nI k) (ha : A 11 p = -1 ∨ ∃ c, c < 49 ∧ A 11 p = nI c) : Ev sc (d + 1) m_C_shapeLeftBy 0 (iniL 2 [.ref 0, .int (nI p)]) [] (HH w s l A B) (some (.long (slbS (A 4) (A 11) (B 5) p))) (HH w s l A B) := by
  repeat (first | refine ev_gos 99 rfl ?_ | refine ev_gf2 rfl rfl rfl rfl ?_ | refine ev_gf2 rfl rfl HH_land rfl ?_ | refine ev_gf2 rfl rfl HH_draft rfl ?_ | refine ev_gf2 rfl rfl (by with_reducible assumption) rfl ?_)
  refine ev_ia rfl rfl (inI (by omega) (by decide)) ?_
  rw [nI_clamp (by omega)]
  repeat (first | refine ev_gos 99 rfl ?_ | refine ev_gf2 rfl rfl rfl rfl ?_ | refine ev_gf2 rfl rfl HH_land rfl ?_ | refine ev_gf2 rfl rfl HH_draft rfl ?_ | refine ev_gf2 rfl rfl (by with_reducible assumption) rfl ?_)
  unfold slbS
  by_cases hq : A 11 p = -1
  · refine ev_iff rfl rfl rfl (d_ne hq) ?_
    repeat (first | refine ev_gos 99 rfl ?_ | refine ev_gf2 rfl rfl rfl rfl ?_ | refine ev_gf2 rfl rfl HH_land rfl ?_ | refine ev_gf2 rfl rfl HH_draft rfl ?_ | refine ev_gf2 rfl rfl (by with_reducible assumption) rfl ?_)
    exact ev_rl rfl (by rw [if_pos hq]) rfl
  · refine ev_ift rfl rfl rfl (c_ne hq) ?_
    repeat (first | refine ev_gos 99 rfl ?_ | refine ev_gf2 rfl rfl rfl rfl ?_ | refine ev_gf2 rfl rfl HH_land rfl ?_ | refine ev_gf2 rfl rfl HH_draft rfl ?_ | refine ev_gf2 rfl rfl (by with_reducible assumption) rfl ?_)
    refine ev_ia rfl HH_kinds (inI (by omega) (by decide)) ?_
    rw [nI_clamp (by omega)]
    repeat (first | refine ev_gos 99 rfl ?_ | refine ev_gf2 rfl rfl rfl rfl ?_ | refine ev_gf2 rfl rfl HH_land rfl ?_ | refine ev_gf2 rfl rfl HH_draft rfl ?_ | refine ev_gf2 rfl rfl (by with_reducible assumption) rfl ?_)
    refine ev_ia rfl rfl (inI (by omega) (by decide)) ?_
    rw [nI_clamp (by omega)]
    obtain ⟨k, k1, k2⟩ := hk
    rcases ha with ha | ⟨c, c1, c2⟩
    · exact absurd ha hq
    · refine ev_cv rfl rfl HH_land (by rw [k2, c2]; exact e_shape HH_land HH_shapes k1 c1) ?_
      exact ev_rl rfl (by rw [if_neg hq, k2, c2, nI_clamp (by omega), nI_clamp (by omega)]) rfl
theorem e_countNow (hw : s 15 = nI W) (ha : l 0 = allS N) (hl : l 1 = lefS W N) (hr : l 2 = rigS W N) : Ev sc (d + 5) m_C_countNow 0 (iniL 1 [.ref 0]) [] (HH w s l A B) (some (.int (nI (cntS W N (dnS (A 10) 3 49))))) (HH w s l A B) := by
  repeat (first | refine ev_gos 99 rfl ?_ | refine ev_gf2 rfl rfl rfl rfl ?_ | refine ev_gf2 rfl rfl HH_land rfl ?_ | refine ev_gf2 rfl rfl HH_draft rfl ?_ | refine ev_gf2 rfl rfl (by with_reducible assumption) rfl ?_)
  refine ev_cv rfl rfl rfl (e_seen (p := 9) (pd := 10) (pa := 11) (wd := s 9) (nt := s 10) (f := A 10) rfl rfl) ?_
  refine ev_cv rfl rfl HH_land (e_countOf HH_land hw ha hl hr _) ?_
  exact ev_ri rfl rfl rfl
end HLP
