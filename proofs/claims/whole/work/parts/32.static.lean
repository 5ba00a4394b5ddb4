/-! branches that are known; numbers; the model's static methods -/
section EVB
variable {sc : Scr} {d M pc nx a b : Nat} {v : Value} {ins : Instr} {L : Lcs} {S S' : Stk} {h h' : AHp} {r : Option Value} {c n : Nat} {cd : Bool}
theorem ev_ift (hc : cAt M pc = some (ins, nx, a, b, v)) (hk : kd ins a = 1) (hs : brS ins S = some (cd, S')) (e : cd = true) (k : Ek sc d M a L S' h r h' c n) : Ek sc d M pc L S h r h' c n := ev_if hc hk hs (fun _ => k) (fun e2 => by rw [e] at e2; cases e2)
theorem ev_iff (hc : cAt M pc = some (ins, nx, a, b, v)) (hk : kd ins a = 1) (hs : brS ins S = some (cd, S')) (e : cd = false) (k : Ek sc d M nx L S' h r h' c n) : Ek sc d M pc L S h r h' c n := ev_if hc hk hs (fun e2 => by rw [e] at e2; cases e2) (fun _ => k)
end EVB
theorem ev_gf2 {sc : Scr} {d M pc nx a b i p : Nat} {v w : Value} {L : Lcs} {S S0 : Stk} {h h' : AHp} {r : Option Value} {c n : Nat} {fs : List Value} (hc : cAt M pc = some (.getfield i, nx, a, b, v)) (hS : S = .ref p :: S0) (hp : h[p]? = some (.inr (a, fs))) (hf : fs[b]? = some w) (k : Ek sc d M nx L (w :: S0) h r h' c n) : Ek sc d M pc L S h r h' c n := by
  subst hS
  exact ev_gf hc hp hf k
theorem ev_wk2 {sc : Scr} {d M pc : Nat} {L L' : Lcs} {S : Stk} {h h' : AHp} {r : Option Value} {c n : Nat} (k : Ek sc d M pc L' S h r h' c n) (hl : L'.length = L.length) (hw : wk L' L) : Ek sc d M pc L S h r h' c n := ev_wk hl hw k
theorem dT {p : Prop} [Decidable p] (h : p) : decide p = true := decide_eq_true h
theorem dF {p : Prop} [Decidable p] (h : ¬ p) : decide p = false := decide_eq_false h
theorem i_eq {x : Int32} (h : x = 0) : ifB .eq x = true := decide_eq_true h
theorem j_eq {x : Int32} (h : ¬ x = 0) : ifB .eq x = false := decide_eq_false h
theorem d_eq {x y : Int32} (h : ¬ x = y) : cmB .eq x y = false := decide_eq_false h
theorem c_eq {x y : Int32} (h : x = y) : cmB .eq x y = true := decide_eq_true h
theorem i_ne {x : Int32} (h : ¬ x = 0) : ifB .ne x = true := decide_eq_true h
theorem j_ne {x : Int32} (h : x = 0) : ifB .ne x = false := decide_eq_false (fun z => z h)
theorem d_ne {x y : Int32} (h : x = y) : cmB .ne x y = false := decide_eq_false (fun z => z h)
theorem c_ne {x y : Int32} (h : ¬ x = y) : cmB .ne x y = true := decide_eq_true h
theorem i_lt {x : Int32} (h : x < 0) : ifB .lt x = true := decide_eq_true h
theorem j_lt {x : Int32} (h : ¬ x < 0) : ifB .lt x = false := decide_eq_false h
theorem d_lt {x y : Int32} (h : ¬ x < y) : cmB .lt x y = false := decide_eq_false h
theorem c_lt {x y : Int32} (h : x < y) : cmB .lt x y = true := decide_eq_true h
theorem i_ge {x : Int32} (h : 0 ≤ x) : ifB .ge x = true := decide_eq_true h
theorem j_ge {x : Int32} (h : ¬ 0 ≤ x) : ifB .ge x = false := decide_eq_false h
theorem d_ge {x y : Int32} (h : ¬ y ≤ x) : cmB .ge x y = false := decide_eq_false h
theorem c_ge {x y : Int32} (h : y ≤ x) : cmB .ge x y = true := decide_eq_true h
theorem i_gt {x : Int32} (h : 0 < x) : ifB .gt x = true := decide_eq_true h
theorem j_gt {x : Int32} (h : ¬ 0 < x) : ifB .gt x = false := decide_eq_false h
theorem d_gt {x y : Int32} (h : ¬ y < x) : cmB .gt x y = false := decide_eq_false h
theorem c_gt {x y : Int32} (h : y < x) : cmB .gt x y = true := decide_eq_true h
theorem i_le {x : Int32} (h : x ≤ 0) : ifB .le x = true := decide_eq_true h
theorem j_le {x : Int32} (h : ¬ x ≤ 0) : ifB .le x = false := decide_eq_false h
theorem d_le {x y : Int32} (h : ¬ x ≤ y) : cmB .le x y = false := decide_eq_false h
theorem c_le {x y : Int32} (h : x ≤ y) : cmB .le x y = true := decide_eq_true h
theorem lc (x y : Int64) : (lg_cmp x y = 1 ∧ y < x) ∨ (lg_cmp x y = 0 ∧ x = y) ∨ (lg_cmp x y = -1 ∧ x < y) := by
  unfold lg_cmp
  by_cases h1 : x > y
  · rw [if_pos h1]; exact Or.inl ⟨rfl, h1⟩
  · rw [if_neg h1]
    by_cases h2 : x = y
    · rw [if_pos h2]; exact Or.inr (Or.inl ⟨rfl, h2⟩)
    · rw [if_neg h2]
      refine Or.inr (Or.inr ⟨rfl, ?_⟩)
      rw [gt_iff_lt, Int64.lt_iff_toInt_lt] at h1
      rw [Int64.lt_iff_toInt_lt]
      have h3 : x.toInt ≠ y.toInt := fun e => h2 (Int64.toInt_inj.mp e)
      omega
theorem lt_ir (x : Int64) : ¬ x < x := by rw [Int64.lt_iff_toInt_lt]; omega
theorem lt_as {x y : Int64} (h : x < y) : ¬ y < x := by rw [Int64.lt_iff_toInt_lt] at h ⊢; omega
theorem lt_nle {x y : Int64} (h : x < y) : ¬ y ≤ x := by rw [Int64.lt_iff_toInt_lt] at h; rw [Int64.le_iff_toInt_le]; omega
theorem nlt_le {x y : Int64} (h : ¬ x < y) : y ≤ x := by rw [Int64.lt_iff_toInt_lt] at h; rw [Int64.le_iff_toInt_le]; omega
theorem lc_lt {x y : Int64} : lg_cmp x y < 0 ↔ x < y := by
  rcases lc x y with ⟨e, h⟩ | ⟨e, h⟩ | ⟨e, h⟩ <;> rw [e]
  · exact ⟨fun z => absurd z (by decide), fun z => absurd z (lt_as h)⟩
  · subst h; exact ⟨fun z => absurd z (by decide), fun z => absurd z (lt_ir x)⟩
  · exact ⟨fun _ => h, fun _ => by decide⟩
theorem lc_gt {x y : Int64} : 0 < lg_cmp x y ↔ y < x := by
  rcases lc x y with ⟨e, h⟩ | ⟨e, h⟩ | ⟨e, h⟩ <;> rw [e]
  · exact ⟨fun _ => h, fun _ => by decide⟩
  · subst h; exact ⟨fun z => absurd z (by decide), fun z => absurd z (lt_ir x)⟩
  · exact ⟨fun z => absurd z (by decide), fun z => absurd z (lt_as h)⟩
theorem lc_eq {x y : Int64} : lg_cmp x y = 0 ↔ x = y := by
  rcases lc x y with ⟨e, h⟩ | ⟨e, h⟩ | ⟨e, h⟩ <;> rw [e]
  · exact ⟨fun z => absurd z (by decide), fun z => absurd (z ▸ h) (lt_ir _)⟩
  · exact ⟨fun _ => h, fun _ => rfl⟩
  · exact ⟨fun z => absurd z (by decide), fun z => absurd (z ▸ h) (lt_ir _)⟩
theorem lc_ge {x y : Int64} : 0 ≤ lg_cmp x y ↔ y ≤ x := by
  rcases lc x y with ⟨e, h⟩ | ⟨e, h⟩ | ⟨e, h⟩ <;> rw [e]
  · exact ⟨fun _ => nlt_le (lt_as h), fun _ => by decide⟩
  · subst h; exact ⟨fun _ => nlt_le (lt_ir x), fun _ => by decide⟩
  · exact ⟨fun z => absurd z (by decide), fun z => absurd z (lt_nle h)⟩
def b01 (b : Bool) : Int32 := bif b then 1 else 0
theorem b01_or (b : Bool) : b01 b = 0 ∨ b01 b = 1 := by cases b <;> simp [b01]
theorem ifB_eq_b01 (b : Bool) : ifB .eq (b01 b) = !b := by cases b <;> rfl
theorem ifB_ne_b01 (b : Bool) : ifB .ne (b01 b) = b := by cases b <;> rfl
theorem e_in (sc : Scr) (d : Nat) (h : AHp) (x a b : Int64) : Ev sc d m_M_in 0 (iniL 6 [.long x, .long a, .long b]) [] h (some (.int (b01 (decide (a ≤ x) && decide (x ≤ b))))) h := by
  refine ev_gos 99 rfl ?_
  refine ev_if rfl rfl rfl (fun c => ?_) (fun c => ?_)
  · have c1 := lc_lt.mp (of_decide_eq_true c)
    refine ev_gos 99 rfl ?_
    exact ev_rz rfl (Or.inl rfl) (by rw [dF (lt_nle c1)]; rfl) rfl
  · have c1 := nlt_le (fun z => of_decide_eq_false c (lc_lt.mpr z))
    refine ev_gos 99 rfl ?_
    refine ev_if rfl rfl rfl (fun c => ?_) (fun c => ?_)
    · have c2 := lc_gt.mp (of_decide_eq_true c)
      refine ev_gos 99 rfl ?_
      exact ev_rz rfl (Or.inl rfl) (by rw [dF (lt_nle c2), Bool.and_false]; rfl) rfl
    · have c2 := nlt_le (fun z => of_decide_eq_false c (lc_gt.mpr z))
      refine ev_gos 99 rfl ?_
      exact ev_rz rfl (Or.inr rfl) (by rw [dT c1, dT c2]; rfl) rfl
theorem e_holds (sc : Scr) (d : Nat) (h : AHp) (x : Int64) {k : Nat} (hk : k < 64) : Ev sc d m_M_holds 0 (iniL 3 [.long x, .int (nI k)]) [] h (some (.int (b01 (bs x k)))) h := by
  refine ev_gos 99 rfl ?_
  have e := bs_holds x hk
  refine ev_if rfl rfl rfl (fun c => ?_) (fun c => ?_)
  · have c1 := of_decide_eq_true c
    refine ev_gos 99 rfl ?_
    refine ev_rz rfl (Or.inl rfl) ?_ rfl
    cases hb : bs x k with
    | false => rfl
    | true =>
      rw [hb] at e
      exact absurd (lc_eq.mpr e) c1
  · have c1 := Classical.not_not.mp (of_decide_eq_false c)
    refine ev_gos 99 rfl ?_
    refine ev_rz rfl (Or.inr rfl) ?_ rfl
    cases hb : bs x k with
    | true => rfl
    | false =>
      rw [hb] at e
      have := (lc_eq.mp c1).symm.trans e
      exact absurd this (by decide)
theorem e_bits_loop (sc : Scr) (d : Nat) (h : AHp) (x0 : Int64) : ∀ (n : Nat) (x : Int64) (k : Nat), pop x = n → k + n = pop x0 → Ev sc d m_M_bits 7 [some (.long x0), none, some (.int (nI k)), some (.long x), none] [.int (lg_cmp x 0)] h (some (.int (nI (pop x0)))) h := by
  intro n
  induction n with
  | zero =>
    intro x k h1 h2
    have hx := pop_zero h1
    subst hx
    refine ev_ift rfl rfl rfl (i_eq (lc_eq.mpr rfl)) ?_
    refine ev_gos 99 rfl ?_
    exact ev_ri rfl (by rw [← h2, Nat.add_zero]) rfl
  | succ n ih =>
    intro x k h1 h2
    have hx : ¬ x = 0 := fun e => by rw [e, pop_0] at h1; cases h1
    refine ev_iff rfl rfl rfl (j_eq (fun z => hx (lc_eq.mp z))) ?_
    refine ev_gos 99 rfl ?_
    have h3 := ih (x &&& (x - 1)) (k + 1) (by have := pop_drop hx; omega) (by omega)
    rw [← nI_1] at h3
    exact h3
theorem e_bits (sc : Scr) (d : Nat) (h : AHp) (x : Int64) : Ev sc d m_M_bits 0 (iniL 5 [.long x]) [] h (some (.int (nI (pop x)))) h := by
  refine ev_gos 99 rfl ?_
  exact e_bits_loop sc d h x (pop x) x 0 rfl (Nat.zero_add _)
theorem e_lesser (sc : Scr) (d : Nat) (h : AHp) (x y : Int32) : Ev sc d m_M_lesser 0 (iniL 2 [.int x, .int y]) [] h (some (.int (if x < y then x else y))) h := by
  refine ev_gos 99 rfl ?_
  refine ev_if rfl rfl rfl (fun c => ?_) (fun c => ?_)
  · have c1 := of_decide_eq_true c
    refine ev_gos 99 rfl ?_
    exact ev_ri rfl (by rw [if_neg (fun z => by rw [Int32.lt_iff_toInt_lt] at z; rw [Int32.le_iff_toInt_le] at c1; omega)]) rfl
  · have c1 := of_decide_eq_false c
    refine ev_gos 99 rfl ?_
    exact ev_ri rfl (by rw [if_pos (by rw [Int32.lt_iff_toInt_lt]; rw [Int32.le_iff_toInt_le] at c1; omega)]) rfl
theorem e_greater (sc : Scr) (d : Nat) (h : AHp) (x y : Int32) : Ev sc d m_M_greater 0 (iniL 2 [.int x, .int y]) [] h (some (.int (if y < x then x else y))) h := by
  refine ev_gos 99 rfl ?_
  refine ev_if rfl rfl rfl (fun c => ?_) (fun c => ?_)
  · have c1 := of_decide_eq_true c
    refine ev_gos 99 rfl ?_
    exact ev_ri rfl (by rw [if_neg (fun z => by rw [Int32.lt_iff_toInt_lt] at z; rw [Int32.le_iff_toInt_le] at c1; omega)]) rfl
  · have c1 := of_decide_eq_false c
    refine ev_gos 99 rfl ?_
    exact ev_ri rfl (by rw [if_pos (by rw [Int32.lt_iff_toInt_lt]; rw [Int32.le_iff_toInt_le] at c1; omega)]) rfl
def cntd (n : Nat) : Nat := if n < 3 then n else if n < 5 then 1 else n / 3 + 1
theorem nI_lt3 {a b : Nat} (ha : a < 2 ^ 31) (hb : b < 2 ^ 31) (h : ¬ b ≤ a) : ¬ nI b ≤ nI a := fun z => h ((nI_leI hb ha).mp z)
theorem e_counted (sc : Scr) (d : Nat) (h : AHp) {n : Nat} (hn : n < 2 ^ 31) : Ev sc d m_M_counted 0 (iniL 1 [.int (nI n)]) [] h (some (.int (nI (cntd n)))) h := by
  refine ev_gos 99 rfl ?_
  unfold cntd
  by_cases h1 : n < 3
  · refine ev_iff rfl rfl rfl (d_ge (nI_lt3 hn (by decide) (by omega) : ¬ nI 3 ≤ nI n)) ?_
    refine ev_gos 99 rfl ?_
    exact ev_ri rfl (by rw [if_pos h1]) rfl
  · refine ev_ift rfl rfl rfl (c_ge ((nI_leI (by decide) hn).mpr (by omega) : nI 3 ≤ nI n)) ?_
    refine ev_gos 99 rfl ?_
    by_cases h2 : n < 5
    · refine ev_iff rfl rfl rfl (d_ge (nI_lt3 hn (by decide) (by omega) : ¬ nI 5 ≤ nI n)) ?_
      refine ev_gos 99 rfl ?_
      exact ev_ri rfl (by rw [if_neg h1, if_pos h2]; rfl) rfl
    · refine ev_ift rfl rfl rfl (c_ge ((nI_leI (by decide) hn).mpr (by omega) : nI 5 ≤ nI n)) ?_
      refine ev_gos 99 rfl ?_
      refine ev_ri rfl ?_ rfl
      rw [if_neg h1, if_neg h2]
      show nI n / nI 3 + 1 = _
      rw [pk_div hn (by decide) (by decide), nI_1]
theorem e_lowest_loop (sc : Scr) (d : Nat) (h : AHp) (x : Int64) (hx : ¬ x = 0) : ∀ (n k : Nat), k + n = lo x → Ev sc (d + 1) m_M_lowest 4 [some (.long x), none, some (.int (nI k))] [.int (nI k), .long x] h (some (.int (nI (lo x)))) h := by
  obtain ⟨l1, l2, l3⟩ := lo_spec hx
  intro n
  induction n with
  | zero =>
    intro k hk
    have e : k = lo x := by omega
    subst e
    refine ev_cs rfl rfl rfl (e_holds sc d h x l1) ?_
    rw [l2]
    refine ev_ift rfl rfl rfl rfl ?_
    refine ev_gos 99 rfl ?_
    exact ev_ri rfl rfl rfl
  | succ n ih =>
    intro k hk
    refine ev_cs rfl rfl rfl (e_holds sc d h x (k := k) (by omega)) ?_
    rw [l3 k (by omega)]
    refine ev_iff rfl rfl rfl rfl ?_
    refine ev_gos 99 rfl ?_
    have h3 := ih (k + 1) (by omega)
    rw [← nI_1] at h3
    exact h3
theorem e_lowest (sc : Scr) (d : Nat) (h : AHp) {x : Int64} (hx : ¬ x = 0) : Ev sc (d + 1) m_M_lowest 0 (iniL 3 [.long x]) [] h (some (.int (nI (lo x)))) h := by
  refine ev_gos 99 rfl ?_
  exact e_lowest_loop sc d h x hx (lo x) 0 (Nat.zero_add _)
