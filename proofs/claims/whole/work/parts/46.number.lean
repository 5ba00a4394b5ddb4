/-! the reader: a number, the end of a clause -/
def nvR (t : Nat → Int32) (n : Nat) (r : RS) (i : Nat) (x y : Int32) : Int32 := if (nmR t n r i x y).1 1 = 0 then vlN t (skN t n i) (dgN t n (skN t n i) - skN t n i) else -1
def endR (t : Nat → Int32) (n : Nat) (r : RS) (i : Nat) : RS := if skN t n i < n ∧ t (skN t n i) = 59 then sR r 3 (nI (skN t n i + 1)) else cmR (sR r 3 (nI (skN t n i))) 1 (nI (skN t n i))
theorem dg_t {t : Nat → Int32} {k i : Nat} (h : dig t i = true) : sk (dig t) (k + 1) i = sk (dig t) k (i + 1) := sk_t h
section NUM
variable {sc : Scr} {d : Nat} {w : Bool} {s : Nat → Int32} {l : Nat → Int64} {A : Nat → Nat → Int32} {B : Nat → Nat → Int64} {r : RS} {t : Nat → Int32} {n : Nat}
theorem e_num_loop (ht : A 2 = t) (hs : s 0 = nI n) (hn : n ≤ 240) (x y : Int32) {j : Nat} {o : Option Value} {h' : AHp} (hk : Ev sc (d + 1) m_R_readNumber 76 [some (.ref 1), some (.int x), some (.int y), some (.int (vlN t j (dgN t n j - j)))] [] (DR w s l A B (sR (sR r 4 (nI j)) 3 (nI (dgN t n j)))) o h') : ∀ (k i : Nat), i + k = n → j ≤ i → sk (dig t) k i = dgN t n j → Ev sc (d + 1) m_R_readNumber 22 [some (.ref 1), some (.int x), some (.int y), some (.int (vlN t j (i - j)))] [.int (s 0), .int (nI i)] (DR w s l A B (sR (sR r 4 (nI j)) 3 (nI i))) o h' := by
  subst ht
  intro k
  induction k with
  | zero =>
    intro i hi hj he
    have e : i = dgN (A 2) n j := he
    refine ev_ift rfl rfl rfl (c_ge (by rw [hs]; exact (nI_leI (by omega) (by omega)).mpr (by omega))) ?_
    rw [← e] at hk
    exact hk
  | succ k ih =>
    intro i hi hj he
    refine ev_iff rfl rfl rfl (d_ge (by rw [hs]; exact nI_lt3 (by omega) (by omega) (by omega))) ?_
    repeat (first | refine ev_gos 99 rfl ?_ | refine ev_gf2 rfl rfl rfl rfl ?_ | refine ev_gf2 rfl rfl HH_land rfl ?_ | refine ev_gf2 rfl rfl HH_draft rfl ?_ | refine ev_gf2 rfl rfl (by with_reducible assumption) rfl ?_)
    refine ev_cv rfl rfl rfl (e_atFigure (t := A 2) (n := n) rfl hs hn (i := i) (by omega) rfl) ?_
    rw [decide_eq_true (show i < n by omega), Bool.true_and]
    cases hd : dig (A 2) i with
    | false =>
      rw [sk_f hd] at he
      refine ev_ift rfl rfl rfl rfl ?_
      rw [← he] at hk
      exact hk
    | true =>
      rw [sk_t hd] at he
      refine ev_iff rfl rfl rfl rfl ?_
      repeat (first | refine ev_gos 99 rfl ?_ | refine ev_gf2 rfl rfl rfl rfl ?_ | refine ev_gf2 rfl rfl HH_land rfl ?_ | refine ev_gf2 rfl rfl HH_draft rfl ?_ | refine ev_gf2 rfl rfl (by with_reducible assumption) rfl ?_)
      have h3 := ih (i + 1) (by omega) (by omega) he
      have hst : vlN (A 2) j (i + 1 - j) = if i - j < 3 then 10 * vlN (A 2) j (i - j) + A 2 i - 48 else vlN (A 2) j (i - j) := by
        rw [show i + 1 - j = (i - j) + 1 by omega]
        show vlF (A 2) j (i - j) _ = _
        unfold vlF
        rw [show j + (i - j) = i by omega]
        rfl
      rw [hst] at h3
      refine (?_ : Ek sc (d + 1) m_R_readNumber 42 _ [.int 3, .int (nI i - nI j)] _ _ _ _ _)
      rw [pk_sub hj]
      by_cases h4 : i - j < 3
      · rw [if_pos h4] at h3
        refine ev_iff rfl rfl rfl (d_ge (nI_lt3 (b := 3) (by omega) (by omega) (by omega))) ?_
        repeat (first | refine ev_gos 99 rfl ?_ | refine ev_gf2 rfl rfl rfl rfl ?_ | refine ev_gf2 rfl rfl HH_land rfl ?_ | refine ev_gf2 rfl rfl HH_draft rfl ?_ | refine ev_gf2 rfl rfl (by with_reducible assumption) rfl ?_)
        refine ev_ia rfl rfl (inI (k := i) (by omega) (by decide)) ?_
        refine (?_ : Ek sc (d + 1) m_R_readNumber 58 _ [.int (A 2 (nI i).toNatClampNeg), _] _ _ _ _ _)
        rw [nI_clamp (by omega)]
        repeat (first | refine ev_gos 99 rfl ?_ | refine ev_gf2 rfl rfl rfl rfl ?_ | refine ev_gf2 rfl rfl HH_land rfl ?_ | refine ev_gf2 rfl rfl HH_draft rfl ?_ | refine ev_gf2 rfl rfl (by with_reducible assumption) rfl ?_)
        refine pD_3 rfl ?_
        refine (?_ : Ek sc (d + 1) m_R_readNumber 73 _ _ (DR w s l A B (sR (sR (sR r 4 (nI j)) 3 (nI i)) 3 (nI i + 1))) _ _ _ _)
        rw [sR_up, nI_1]
        repeat (first | refine ev_gos 99 rfl ?_ | refine ev_gf2 rfl rfl rfl rfl ?_ | refine ev_gf2 rfl rfl HH_land rfl ?_ | refine ev_gf2 rfl rfl HH_draft rfl ?_ | refine ev_gf2 rfl rfl (by with_reducible assumption) rfl ?_)
        exact h3
      · rw [if_neg h4] at h3
        refine ev_ift rfl rfl rfl (c_ge ((nI_leI (a := 3) (by omega) (by omega)).mpr (by omega))) ?_
        repeat (first | refine ev_gos 99 rfl ?_ | refine ev_gf2 rfl rfl rfl rfl ?_ | refine ev_gf2 rfl rfl HH_land rfl ?_ | refine ev_gf2 rfl rfl HH_draft rfl ?_ | refine ev_gf2 rfl rfl (by with_reducible assumption) rfl ?_)
        refine pD_3 rfl ?_
        refine (?_ : Ek sc (d + 1) m_R_readNumber 73 _ _ (DR w s l A B (sR (sR (sR r 4 (nI j)) 3 (nI i)) 3 (nI i + 1))) _ _ _ _)
        rw [sR_up, nI_1]
        repeat (first | refine ev_gos 99 rfl ?_ | refine ev_gf2 rfl rfl rfl rfl ?_ | refine ev_gf2 rfl rfl HH_land rfl ?_ | refine ev_gf2 rfl rfl HH_draft rfl ?_ | refine ev_gf2 rfl rfl (by with_reducible assumption) rfl ?_)
        exact h3
theorem cm_fn (r : RS) {a : Int32} (b : Int32) (ha : ¬ a = 0) : ¬ (cmR r a b).1 1 = 0 := by
  unfold cmR
  by_cases h : r.1 1 = 0
  · rw [if_pos h]
    exact ha
  · rw [if_neg h]
    exact h
theorem e_num_end (v : Int32) (x y : Int32) : Ev sc d m_R_readNumber 131 [some (.ref 1), some (.int x), some (.int y), some (.int v)] [] (DR w s l A B r) (some (.int (if r.1 1 = 0 then v else -1))) (DR w s l A B r) := by
  repeat (first | refine ev_gos 99 rfl ?_ | refine ev_gf2 rfl rfl rfl rfl ?_ | refine ev_gf2 rfl rfl HH_land rfl ?_ | refine ev_gf2 rfl rfl HH_draft rfl ?_ | refine ev_gf2 rfl rfl (by with_reducible assumption) rfl ?_)
  by_cases h : r.1 1 = 0
  · refine ev_iff rfl rfl rfl (j_ne h) ?_
    repeat (first | refine ev_gos 99 rfl ?_ | refine ev_gf2 rfl rfl rfl rfl ?_ | refine ev_gf2 rfl rfl HH_land rfl ?_ | refine ev_gf2 rfl rfl HH_draft rfl ?_ | refine ev_gf2 rfl rfl (by with_reducible assumption) rfl ?_)
    exact ev_ri rfl (by rw [if_pos h]) rfl
  · refine ev_ift rfl rfl rfl (i_ne h) ?_
    repeat (first | refine ev_gos 99 rfl ?_ | refine ev_gf2 rfl rfl rfl rfl ?_ | refine ev_gf2 rfl rfl HH_land rfl ?_ | refine ev_gf2 rfl rfl HH_draft rfl ?_ | refine ev_gf2 rfl rfl (by with_reducible assumption) rfl ?_)
    exact ev_ri rfl (by rw [if_neg h]) rfl
theorem e_readNumber (ht : A 2 = t) (hs : s 0 = nI n) (hn : n ≤ 240) {i : Nat} (hi : i ≤ n) (hp : r.1 3 = nI i) (x y : Int32) : Ev sc (d + 1) m_R_readNumber 0 (iniL 4 [.ref 1, .int x, .int y]) [] (DR w s l A B r) (some (.int (nvR t n r i x y))) (DR w s l A B (nmR t n r i x y)) := by
  have hj := skN_b t hi
  have he := dgN_b t hj.2
  repeat (first | refine ev_gos 99 rfl ?_ | refine ev_gf2 rfl rfl rfl rfl ?_ | refine ev_gf2 rfl rfl HH_land rfl ?_ | refine ev_gf2 rfl rfl HH_draft rfl ?_ | refine ev_gf2 rfl rfl (by with_reducible assumption) rfl ?_)
  refine ev_cv rfl rfl rfl (e_skip ht hs hn hi hp) ?_
  repeat (first | refine ev_gos 99 rfl ?_ | refine ev_gf2 rfl rfl rfl rfl ?_ | refine ev_gf2 rfl rfl HH_land rfl ?_ | refine ev_gf2 rfl rfl HH_draft rfl ?_ | refine ev_gf2 rfl rfl (by with_reducible assumption) rfl ?_)
  refine pD_4 rfl ?_
  refine (?_ : Ek sc (d + 1) m_R_readNumber 12 _ _ (DR w s l A B (sR (sR r 3 (nI (skN t n i))) 4 (nI (skN t n i)))) _ _ _ _)
  rw [sR_comm r (p := 3) (q := 4) rfl]
  unfold nvR nmR
  dsimp only
  generalize skN t n i = j at hj he
  have key : Ev sc (d + 1) m_R_readNumber 76 [some (.ref 1), some (.int x), some (.int y), some (.int (vlN t j (dgN t n j - j)))] [] (DR w s l A B (sR (sR r 4 (nI j)) 3 (nI (dgN t n j)))) (some (.int (if (if dgN t n j = j then cmR (sR (sR r 4 (nI j)) 3 (nI (dgN t n j))) 1 (nI (dgN t n j)) else if 3 < dgN t n j - j ∨ vlN t j (dgN t n j - j) < x ∨ y < vlN t j (dgN t n j - j) then cmR (sR (sR r 4 (nI j)) 3 (nI (dgN t n j))) 2 (nI j) else sR (sR r 4 (nI j)) 3 (nI (dgN t n j))).1 1 = 0 then vlN t j (dgN t n j - j) else -1))) (DR w s l A B (if dgN t n j = j then cmR (sR (sR r 4 (nI j)) 3 (nI (dgN t n j))) 1 (nI (dgN t n j)) else if 3 < dgN t n j - j ∨ vlN t j (dgN t n j - j) < x ∨ y < vlN t j (dgN t n j - j) then cmR (sR (sR r 4 (nI j)) 3 (nI (dgN t n j))) 2 (nI j) else sR (sR r 4 (nI j)) 3 (nI (dgN t n j)))) := by
    generalize dgN t n j = e at he
    generalize vlN t j (e - j) = v
    repeat (first | refine ev_gos 99 rfl ?_ | refine ev_gf2 rfl rfl rfl rfl ?_ | refine ev_gf2 rfl rfl HH_land rfl ?_ | refine ev_gf2 rfl rfl HH_draft rfl ?_ | refine ev_gf2 rfl rfl (by with_reducible assumption) rfl ?_)
    by_cases h1 : e = j
    · rw [if_pos h1]
      refine ev_iff rfl rfl rfl (d_ne (by show nI e = nI j; rw [h1])) ?_
      repeat (first | refine ev_gos 99 rfl ?_ | refine ev_gf2 rfl rfl rfl rfl ?_ | refine ev_gf2 rfl rfl HH_land rfl ?_ | refine ev_gf2 rfl rfl HH_draft rfl ?_ | refine ev_gf2 rfl rfl (by with_reducible assumption) rfl ?_)
      refine ev_cv rfl rfl rfl (e_complain 1 (nI e)) ?_
      refine ev_gos 1 rfl ?_
      exact e_num_end v x y
    · rw [if_neg h1]
      refine ev_ift rfl rfl rfl (c_ne (by show ¬ nI e = nI j; exact fun z => h1 ((nI_eq (by omega) (by omega)).mp z))) ?_
      repeat (first | refine ev_gos 99 rfl ?_ | refine ev_gf2 rfl rfl rfl rfl ?_ | refine ev_gf2 rfl rfl HH_land rfl ?_ | refine ev_gf2 rfl rfl HH_draft rfl ?_ | refine ev_gf2 rfl rfl (by with_reducible assumption) rfl ?_)
      refine (?_ : Ek sc (d + 1) m_R_readNumber 109 _ [.int 3, .int (nI e - nI j)] _ _ _ _ _)
      rw [pk_sub he.1]
      by_cases h2 : 3 < e - j
      · rw [if_pos (Or.inl h2)]
        refine ev_ift rfl rfl rfl (c_gt ((nI_ltI (a := 3) (by omega) (by omega)).mpr h2)) ?_
        repeat (first | refine ev_gos 99 rfl ?_ | refine ev_gf2 rfl rfl rfl rfl ?_ | refine ev_gf2 rfl rfl HH_land rfl ?_ | refine ev_gf2 rfl rfl HH_draft rfl ?_ | refine ev_gf2 rfl rfl (by with_reducible assumption) rfl ?_)
        refine ev_cv rfl rfl rfl (e_complain 2 (nI j)) ?_
        exact e_num_end v x y
      · refine ev_iff rfl rfl rfl (d_gt (fun z => h2 ((nI_ltI (a := 3) (by omega) (by omega)).mp z))) ?_
        repeat (first | refine ev_gos 99 rfl ?_ | refine ev_gf2 rfl rfl rfl rfl ?_ | refine ev_gf2 rfl rfl HH_land rfl ?_ | refine ev_gf2 rfl rfl HH_draft rfl ?_ | refine ev_gf2 rfl rfl (by with_reducible assumption) rfl ?_)
        by_cases h3 : v < x
        · rw [if_pos (Or.inr (Or.inl h3))]
          refine ev_ift rfl rfl rfl (c_lt h3) ?_
          repeat (first | refine ev_gos 99 rfl ?_ | refine ev_gf2 rfl rfl rfl rfl ?_ | refine ev_gf2 rfl rfl HH_land rfl ?_ | refine ev_gf2 rfl rfl HH_draft rfl ?_ | refine ev_gf2 rfl rfl (by with_reducible assumption) rfl ?_)
          refine ev_cv rfl rfl rfl (e_complain 2 (nI j)) ?_
          exact e_num_end v x y
        · refine ev_iff rfl rfl rfl (d_lt h3) ?_
          repeat (first | refine ev_gos 99 rfl ?_ | refine ev_gf2 rfl rfl rfl rfl ?_ | refine ev_gf2 rfl rfl HH_land rfl ?_ | refine ev_gf2 rfl rfl HH_draft rfl ?_ | refine ev_gf2 rfl rfl (by with_reducible assumption) rfl ?_)
          by_cases h4 : y < v
          · rw [if_pos (Or.inr (Or.inr h4))]
            refine ev_iff rfl rfl rfl (d_le (fun z => le_nlt z h4)) ?_
            repeat (first | refine ev_gos 99 rfl ?_ | refine ev_gf2 rfl rfl rfl rfl ?_ | refine ev_gf2 rfl rfl HH_land rfl ?_ | refine ev_gf2 rfl rfl HH_draft rfl ?_ | refine ev_gf2 rfl rfl (by with_reducible assumption) rfl ?_)
            refine ev_cv rfl rfl rfl (e_complain 2 (nI j)) ?_
            exact e_num_end v x y
          · rw [if_neg (show ¬ (3 < e - j ∨ v < x ∨ y < v) from fun z => z.elim h2 (fun z => z.elim h3 h4))]
            refine ev_ift rfl rfl rfl (c_le (nlt_le3 h4)) ?_
            exact e_num_end v x y
  have h9 := e_num_loop (sc := sc) (d := d) (w := w) (s := s) (l := l) (A := A) (B := B) (r := r) ht hs hn x y key (n - j) j (by omega) (Nat.le_refl j) rfl
  rw [Nat.sub_self] at h9
  repeat (first | refine ev_gos 99 rfl ?_ | refine ev_gf2 rfl rfl rfl rfl ?_ | refine ev_gf2 rfl rfl HH_land rfl ?_ | refine ev_gf2 rfl rfl HH_draft rfl ?_ | refine ev_gf2 rfl rfl (by with_reducible assumption) rfl ?_)
  exact h9
theorem e_readEnd (ht : A 2 = t) (hs : s 0 = nI n) (hn : n ≤ 240) {i : Nat} (hi : i ≤ n) (hp : r.1 3 = nI i) : Ev sc (d + 1) m_R_readEnd 0 (iniL 1 [.ref 1]) [] (DR w s l A B r) none (DR w s l A B (endR t n r i)) := by
  have hj := skN_b t hi
  repeat (first | refine ev_gos 99 rfl ?_ | refine ev_gf2 rfl rfl rfl rfl ?_ | refine ev_gf2 rfl rfl HH_land rfl ?_ | refine ev_gf2 rfl rfl HH_draft rfl ?_ | refine ev_gf2 rfl rfl (by with_reducible assumption) rfl ?_)
  refine ev_cv rfl rfl rfl (e_skip ht hs hn hi hp) ?_
  subst ht
  unfold endR
  generalize skN (A 2) n i = j at hj
  repeat (first | refine ev_gos 99 rfl ?_ | refine ev_gf2 rfl rfl rfl rfl ?_ | refine ev_gf2 rfl rfl HH_land rfl ?_ | refine ev_gf2 rfl rfl HH_draft rfl ?_ | refine ev_gf2 rfl rfl (by with_reducible assumption) rfl ?_)
  by_cases h1 : j < n
  · refine ev_iff rfl rfl rfl (d_ge (by show ¬ s 0 ≤ nI j; rw [hs]; exact nI_lt3 (by omega) (by omega) (by omega))) ?_
    repeat (first | refine ev_gos 99 rfl ?_ | refine ev_gf2 rfl rfl rfl rfl ?_ | refine ev_gf2 rfl rfl HH_land rfl ?_ | refine ev_gf2 rfl rfl HH_draft rfl ?_ | refine ev_gf2 rfl rfl (by with_reducible assumption) rfl ?_)
    refine ev_ia rfl rfl (inI (k := j) (by omega) (by decide)) ?_
    refine (?_ : Ek sc (d + 1) m_R_readEnd 24 _ [.int (A 2 (nI j).toNatClampNeg)] _ _ _ _ _)
    rw [nI_clamp (by omega)]
    repeat (first | refine ev_gos 99 rfl ?_ | refine ev_gf2 rfl rfl rfl rfl ?_ | refine ev_gf2 rfl rfl HH_land rfl ?_ | refine ev_gf2 rfl rfl HH_draft rfl ?_ | refine ev_gf2 rfl rfl (by with_reducible assumption) rfl ?_)
    by_cases h2 : A 2 j = 59
    · rw [if_pos ⟨h1, h2⟩]
      refine ev_ift rfl rfl rfl (c_eq h2) ?_
      repeat (first | refine ev_gos 99 rfl ?_ | refine ev_gf2 rfl rfl rfl rfl ?_ | refine ev_gf2 rfl rfl HH_land rfl ?_ | refine ev_gf2 rfl rfl HH_draft rfl ?_ | refine ev_gf2 rfl rfl (by with_reducible assumption) rfl ?_)
      refine pD_3 rfl ?_
      refine (?_ : Ek sc (d + 1) m_R_readEnd 49 _ _ (DR w s l A B (sR (sR r 3 (nI j)) 3 (nI j + 1))) _ _ _ _)
      rw [sR_up, nI_1]
      exact ev_rv rfl rfl
    · rw [if_neg (fun z => h2 z.2)]
      refine ev_iff rfl rfl rfl (d_eq h2) ?_
      repeat (first | refine ev_gos 99 rfl ?_ | refine ev_gf2 rfl rfl rfl rfl ?_ | refine ev_gf2 rfl rfl HH_land rfl ?_ | refine ev_gf2 rfl rfl HH_draft rfl ?_ | refine ev_gf2 rfl rfl (by with_reducible assumption) rfl ?_)
      refine ev_cv rfl rfl rfl (e_complain 1 (nI j)) ?_
      exact ev_rv rfl rfl
  · rw [if_neg (fun z => h1 z.1)]
    refine ev_ift rfl rfl rfl (c_ge (by show s 0 ≤ nI j; rw [hs]; exact (nI_leI (by omega) (by omega)).mpr (by omega))) ?_
    repeat (first | refine ev_gos 99 rfl ?_ | refine ev_gf2 rfl rfl rfl rfl ?_ | refine ev_gf2 rfl rfl HH_land rfl ?_ | refine ev_gf2 rfl rfl HH_draft rfl ?_ | refine ev_gf2 rfl rfl (by with_reducible assumption) rfl ?_)
    refine ev_cv rfl rfl rfl (e_complain 1 (nI j)) ?_
    exact ev_rv rfl rfl
end NUM
