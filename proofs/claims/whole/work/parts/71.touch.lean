/-! both sides: who touch -/
def byW (W H : Nat) (b : Int64) (c i : Nat) (z : Bool) : Bool := z || ohas b (bsd W H c (i + 1))
def byK (W H : Nat) (a b : Int64) (c : Nat) (z : Bool) : Bool := bif bs a c then fo (byW W H b c) 4 z else z
def isB (W H : Nat) (a b : Int64) : Bool := fo (byK W H a b) (W * H) (decide (¬ a &&& b = 0))
theorem byW_iff {W H : Nat} {b : Int64} {c : Nat} {z : Bool} : ∀ n, fo (byW W H b c) n z = true ↔ z = true ∨ ∃ i, i < n ∧ ohas b (bsd W H c (i + 1)) = true
  | 0 => ⟨fun h => Or.inl h, fun h => h.elim (fun q => q) (fun ⟨i, i1, _⟩ => absurd i1 (Nat.not_lt_zero i))⟩
  | n + 1 => by
    have ih := byW_iff (W := W) (H := H) (b := b) (c := c) (z := z) n
    show (fo (byW W H b c) n z || ohas b (bsd W H c (n + 1))) = true ↔ _
    rw [Bool.or_eq_true, ih]
    constructor
    · rintro ((h | ⟨i, i1, i2⟩) | h)
      · exact Or.inl h
      · exact Or.inr ⟨i, by omega, i2⟩
      · exact Or.inr ⟨n, by omega, h⟩
    · rintro (h | ⟨i, i1, i2⟩)
      · exact Or.inl (Or.inl h)
      · by_cases e : i = n
        · subst e
          exact Or.inr i2
        · exact Or.inl (Or.inr ⟨i, by omega, i2⟩)
theorem byK_iff {W H : Nat} {a b : Int64} {z : Bool} : ∀ n, fo (byK W H a b) n z = true ↔ z = true ∨ ∃ c, c < n ∧ bs a c = true ∧ ∃ i, i < 4 ∧ ohas b (bsd W H c (i + 1)) = true
  | 0 => ⟨fun h => Or.inl h, fun h => h.elim (fun q => q) (fun ⟨i, i1, _⟩ => absurd i1 (Nat.not_lt_zero i))⟩
  | n + 1 => by
    have ih := byK_iff (W := W) (H := H) (a := a) (b := b) (z := z) n
    show (bif bs a n then fo (byW W H b n) 4 (fo (byK W H a b) n z) else fo (byK W H a b) n z) = true ↔ _
    cases hb : bs a n with
    | false =>
      show fo (byK W H a b) n z = true ↔ _
      rw [ih]
      constructor
      · rintro (h | ⟨i, i1, i2⟩)
        · exact Or.inl h
        · exact Or.inr ⟨i, by omega, i2⟩
      · rintro (h | ⟨i, i1, i2, i3⟩)
        · exact Or.inl h
        · by_cases e : i = n
          · subst e
            rw [hb] at i2
            cases i2
          · exact Or.inr ⟨i, by omega, i2, i3⟩
    | true =>
      show fo (byW W H b n) 4 (fo (byK W H a b) n z) = true ↔ _
      rw [byW_iff, ih]
      constructor
      · rintro ((h | ⟨i, i1, i2⟩) | h)
        · exact Or.inl h
        · exact Or.inr ⟨i, by omega, i2⟩
        · exact Or.inr ⟨n, by omega, hb, h⟩
      · rintro (h | ⟨i, i1, i2, i3⟩)
        · exact Or.inl (Or.inl h)
        · by_cases e : i = n
          · subst e
            exact Or.inr i3
          · exact Or.inl (Or.inr ⟨i, by omega, i2, i3⟩)
theorem and_ne {x y : Int64} : ¬ x &&& y = 0 ↔ ∃ i, i < 64 ∧ bs x i = true ∧ bs y i = true := by
  constructor
  · intro h
    obtain ⟨i, i1, i2⟩ := bs_ne0 h
    rw [bs_and] at i2
    exact ⟨i, i1, (andE i2).1, (andE i2).2⟩
  · rintro ⟨i, i1, i2, i3⟩ h
    have := bs_eq0.mp h i i1
    rw [bs_and, i2, i3] at this
    cases this
theorem isB_eq {W H : Nat} (hW : 2 ≤ W) (hW7 : W ≤ 7) (hH : 2 ≤ H) (hH7 : H ≤ 7) {a b : Int64} (ha : WI a (W * H)) (hb : WI b (W * H)) : isB W H a b = decide (¬ grnS W (W * H) a &&& b = 0) := by
  have h49 := WH49 hW7 hH7
  apply beq_of
  · intro h
    rw [decide_eq_true_iff, and_ne]
    rcases (byK_iff _).mp h with q | ⟨c, c1, c2, i, i1, i2⟩
    · obtain ⟨j, j1, j2, j3⟩ := and_ne.mp (of_decide_eq_true q)
      exact ⟨j, j1, grn_sub W (W * H) a j j2, j3⟩
    · obtain ⟨v, v1, v2⟩ := ohas_t i2
      have hv := hb v v2
      refine ⟨v, by omega, ?_, v2⟩
      rw [grn_bs hW hW7 hH hH7 ha (by omega), decide_eq_true hv, Bool.true_and]
      have : nbr W H a v = true := anyF_iff.mpr ⟨i, i1, by
        rw [(bsd_op hW hW7 hH hH7 c1 hv (by omega) (by omega)).mp v1]
        exact c2⟩
      rw [this, Bool.or_true]
  · intro h
    rw [decide_eq_true_iff, and_ne] at h
    obtain ⟨j, j1, j2, j3⟩ := h
    have hj := hb j j3
    rw [grn_bs hW hW7 hH hH7 ha j1, decide_eq_true hj, Bool.true_and, Bool.or_eq_true] at j2
    refine (byK_iff _).mpr ?_
    rcases j2 with q | q
    · exact Or.inl (decide_eq_true (and_ne.mpr ⟨j, j1, q, j3⟩))
    · obtain ⟨i, i1, i2⟩ := anyF_iff.mp q
      obtain ⟨v, v1, v2⟩ := ohas_t i2
      have hv := ha v v2
      refine Or.inr ⟨v, hv, v2, i, i1, ?_⟩
      rw [(bsd_op hW hW7 hH hH7 hv hj (by omega) (by omega)).mpr v1]
      exact j3
section ISB
variable {sc : Scr} {d : Nat} {w : Bool} {s : Nat → Int32} {l : Nat → Int64} {A : Nat → Nat → Int32} {B : Nat → Nat → Int64} {W H P : Nat} {rk : Int64}
theorem e_by_way (hM : MN (A 27) rk W H P) (a : Int64) {b : Int64} {k : Nat} (hk : k < W * H) (hbk : bs a k = true) (z0 : Bool) {r : Option Value} {h' : AHp} (hout : Ev sc (d + 2) m_M_isBy 21 [some (.ref 26), some (.long a), none, some (.long b), none, some (.int (b01 (fo (byW W H b k) 4 z0))), some (.int (nI (k + 1))), none, none] [.ref 26, .int (nI (k + 1))] (HH w s l A B) r h') : ∀ (n i : Nat), i + n = 4 → Ev sc (d + 2) m_M_isBy 33 [some (.ref 26), some (.long a), none, some (.long b), none, some (.int (b01 (fo (byW W H b k) i z0))), some (.int (nI k)), some (.int (nI (i + 1))), none] [.int 5, .int (nI (i + 1))] (HH w s l A B) r h' := by
  have h49 := hM.n49
  obtain ⟨hW, hH⟩ := hM.pos (by omega)
  intro n
  induction n with
  | zero =>
    intro i hi
    have e : i = 4 := by omega
    subst e
    refine ev_ift rfl rfl rfl (c_ge (by decide : (5 : Int32) ≤ nI (4 + 1))) ?_
    repeat (first | refine ev_gos 99 rfl ?_ | refine ev_gf2 rfl rfl rfl rfl ?_ | refine ev_gf2 rfl rfl HH_land rfl ?_ | refine ev_gf2 rfl rfl HH_draft rfl ?_ | refine ev_gf2 rfl rfl (by with_reducible assumption) rfl ?_)
    rw [← nI_1] at hout
    exact ev_wk2 hout rfl (by repeat' (first | exact trivial | refine ⟨rfl, ?_⟩))
  | succ n ih =>
    intro i hi
    have h3 := ih (i + 1) (by omega)
    rw [← nI_1 (i + 1)] at h3
    refine ev_iff rfl rfl rfl (d_ge (nI_lt3 (b := 5) (by omega) (by decide) (by omega))) ?_
    repeat (first | refine ev_gos 99 rfl ?_ | refine ev_gf2 rfl rfl rfl rfl ?_ | refine ev_gf2 rfl rfl HH_land rfl ?_ | refine ev_gf2 rfl rfl HH_draft rfl ?_ | refine ev_gf2 rfl rfl (by with_reducible assumption) rfl ?_)
    refine ev_cs rfl rfl rfl (e_holds sc _ _ a (k := k) (by omega)) ?_
    rw [hbk]
    (first | refine ev_ift rfl rfl rfl rfl ?_ | refine ev_iff rfl rfl rfl rfl ?_)
    repeat (first | refine ev_gos 99 rfl ?_ | refine ev_gf2 rfl rfl rfl rfl ?_ | refine ev_gf2 rfl rfl HH_land rfl ?_ | refine ev_gf2 rfl rfl HH_draft rfl ?_ | refine ev_gf2 rfl rfl (by with_reducible assumption) rfl ?_)
    refine ev_cv rfl rfl rfl (e_beside hM hk (k := i + 1) (by omega) (by omega)) ?_
    repeat (first | refine ev_gos 99 rfl ?_ | refine ev_gf2 rfl rfl rfl rfl ?_ | refine ev_gf2 rfl rfl HH_land rfl ?_ | refine ev_gf2 rfl rfl HH_draft rfl ?_ | refine ev_gf2 rfl rfl (by with_reducible assumption) rfl ?_)
    have e5 : fo (byW W H b k) (i + 1) z0 = (fo (byW W H b k) i z0 || ohas b (bsd W H k (i + 1))) := rfl
    rw [e5] at h3
    generalize fo (byW W H b k) i z0 = z at h3 ⊢
    cases z with
    | true =>
      (first | refine ev_ift rfl rfl rfl rfl ?_ | refine ev_iff rfl rfl rfl rfl ?_)
      repeat (first | refine ev_gos 99 rfl ?_ | refine ev_gf2 rfl rfl rfl rfl ?_ | refine ev_gf2 rfl rfl HH_land rfl ?_ | refine ev_gf2 rfl rfl HH_draft rfl ?_ | refine ev_gf2 rfl rfl (by with_reducible assumption) rfl ?_)
      exact ev_wk2 h3 rfl (by repeat' (first | exact trivial | refine ⟨rfl, ?_⟩))
    | false =>
      (first | refine ev_ift rfl rfl rfl rfl ?_ | refine ev_iff rfl rfl rfl rfl ?_)
      repeat (first | refine ev_gos 99 rfl ?_ | refine ev_gf2 rfl rfl rfl rfl ?_ | refine ev_gf2 rfl rfl HH_land rfl ?_ | refine ev_gf2 rfl rfl HH_draft rfl ?_ | refine ev_gf2 rfl rfl (by with_reducible assumption) rfl ?_)
      cases ho : bsd W H k (i + 1) with
      | none =>
        rw [ho] at h3
        refine ev_ift rfl rfl rfl (c_eq (rfl : encI none = -1)) ?_
        repeat (first | refine ev_gos 99 rfl ?_ | refine ev_gf2 rfl rfl rfl rfl ?_ | refine ev_gf2 rfl rfl HH_land rfl ?_ | refine ev_gf2 rfl rfl HH_draft rfl ?_ | refine ev_gf2 rfl rfl (by with_reducible assumption) rfl ?_)
        exact ev_wk2 h3 rfl (by repeat' (first | exact trivial | refine ⟨rfl, ?_⟩))
      | some v =>
        rw [ho] at h3
        have hv := (bsd_lt hW hM.2.2.2.1 hH hM.2.2.2.2.1 hk (by omega) ho).1
        refine ev_iff rfl rfl rfl (d_eq (show ¬ encI (some v) = -1 from enc_ne (by omega))) ?_
        repeat (first | refine ev_gos 99 rfl ?_ | refine ev_gf2 rfl rfl rfl rfl ?_ | refine ev_gf2 rfl rfl HH_land rfl ?_ | refine ev_gf2 rfl rfl HH_draft rfl ?_ | refine ev_gf2 rfl rfl (by with_reducible assumption) rfl ?_)
        refine ev_cs rfl rfl rfl (e_holds sc _ _ b (k := v) (by omega)) ?_
        have e6 : (false || ohas b (some v)) = bs b v := rfl
        rw [e6] at h3
        cases hq : bs b v with
        | true =>
          rw [hq] at h3
          (first | refine ev_ift rfl rfl rfl rfl ?_ | refine ev_iff rfl rfl rfl rfl ?_)
          repeat (first | refine ev_gos 99 rfl ?_ | refine ev_gf2 rfl rfl rfl rfl ?_ | refine ev_gf2 rfl rfl HH_land rfl ?_ | refine ev_gf2 rfl rfl HH_draft rfl ?_ | refine ev_gf2 rfl rfl (by with_reducible assumption) rfl ?_)
          exact ev_wk2 h3 rfl (by repeat' (first | exact trivial | refine ⟨rfl, ?_⟩))
        | false =>
          rw [hq] at h3
          (first | refine ev_ift rfl rfl rfl rfl ?_ | refine ev_iff rfl rfl rfl rfl ?_)
          repeat (first | refine ev_gos 99 rfl ?_ | refine ev_gf2 rfl rfl rfl rfl ?_ | refine ev_gf2 rfl rfl HH_land rfl ?_ | refine ev_gf2 rfl rfl HH_draft rfl ?_ | refine ev_gf2 rfl rfl (by with_reducible assumption) rfl ?_)
          exact ev_wk2 h3 rfl (by repeat' (first | exact trivial | refine ⟨rfl, ?_⟩))
theorem e_by_cell (hM : MN (A 27) rk W H P) (a b : Int64) (z0 : Bool) : ∀ (n k : Nat), k + n = W * H → Ev sc (d + 2) m_M_isBy 21 [some (.ref 26), some (.long a), none, some (.long b), none, some (.int (b01 (fo (byK W H a b) k z0))), some (.int (nI k)), none, none] [.ref 26, .int (nI k)] (HH w s l A B) (some (.int (b01 (fo (byK W H a b) (W * H) z0)))) (HH w s l A B) := by
  have h49 := hM.n49
  intro n
  induction n with
  | zero =>
    intro k hk
    have e : k = W * H := by omega
    refine ev_cv rfl rfl rfl (e_mcells hM) ?_
    rw [← e]
    refine ev_ift rfl rfl rfl (c_ge ((nI_leI (by omega) (by omega)).mpr (by omega))) ?_
    repeat (first | refine ev_gos 99 rfl ?_ | refine ev_gf2 rfl rfl rfl rfl ?_ | refine ev_gf2 rfl rfl HH_land rfl ?_ | refine ev_gf2 rfl rfl HH_draft rfl ?_ | refine ev_gf2 rfl rfl (by with_reducible assumption) rfl ?_)
    exact ev_rz rfl (b01_or _) rfl rfl
  | succ n ih =>
    intro k hk
    have h3 := ih (k + 1) (by omega)
    have e5 : fo (byK W H a b) (k + 1) z0 = bif bs a k then fo (byW W H b k) 4 (fo (byK W H a b) k z0) else fo (byK W H a b) k z0 := rfl
    rw [e5] at h3
    refine ev_cv rfl rfl rfl (e_mcells hM) ?_
    refine ev_iff rfl rfl rfl (d_ge (nI_lt3 (by omega) (by omega) (by omega))) ?_
    cases hb : bs a k with
    | true =>
      rw [hb] at h3
      repeat (first | refine ev_gos 99 rfl ?_ | refine ev_gf2 rfl rfl rfl rfl ?_ | refine ev_gf2 rfl rfl HH_land rfl ?_ | refine ev_gf2 rfl rfl HH_draft rfl ?_ | refine ev_gf2 rfl rfl (by with_reducible assumption) rfl ?_)
      exact e_by_way hM a (by omega) hb (fo (byK W H a b) k z0) h3 4 0 rfl
    | false =>
      rw [hb, ← nI_1] at h3
      repeat (first | refine ev_gos 99 rfl ?_ | refine ev_gf2 rfl rfl rfl rfl ?_ | refine ev_gf2 rfl rfl HH_land rfl ?_ | refine ev_gf2 rfl rfl HH_draft rfl ?_ | refine ev_gf2 rfl rfl (by with_reducible assumption) rfl ?_)
      (first | refine ev_ift rfl rfl rfl rfl ?_ | refine ev_iff rfl rfl rfl rfl ?_)
      repeat (first | refine ev_gos 99 rfl ?_ | refine ev_gf2 rfl rfl rfl rfl ?_ | refine ev_gf2 rfl rfl HH_land rfl ?_ | refine ev_gf2 rfl rfl HH_draft rfl ?_ | refine ev_gf2 rfl rfl (by with_reducible assumption) rfl ?_)
      refine ev_cs rfl rfl rfl (e_holds sc _ _ a (k := k) (by omega)) ?_
      rw [hb]
      (first | refine ev_ift rfl rfl rfl rfl ?_ | refine ev_iff rfl rfl rfl rfl ?_)
      repeat (first | refine ev_gos 99 rfl ?_ | refine ev_gf2 rfl rfl rfl rfl ?_ | refine ev_gf2 rfl rfl HH_land rfl ?_ | refine ev_gf2 rfl rfl HH_draft rfl ?_ | refine ev_gf2 rfl rfl (by with_reducible assumption) rfl ?_)
      exact ev_wk2 h3 rfl (by repeat' (first | exact trivial | refine ⟨rfl, ?_⟩))
theorem e_misBy (hM : MN (A 27) rk W H P) (a b : Int64) : Ev sc (d + 2) m_M_isBy 0 (iniL 9 [.ref 26, .long a, .long b]) [] (HH w s l A B) (some (.int (b01 (isB W H a b)))) (HH w s l A B) := by
  have q := e_by_cell (sc := sc) (d := d) (w := w) (s := s) (l := l) (A := A) (B := B) hM a b (decide (¬ a &&& b = 0)) (W * H) 0 (Nat.zero_add _)
  have e0 : fo (byK W H a b) 0 (decide (¬ a &&& b = 0)) = decide (¬ a &&& b = 0) := rfl
  rw [e0] at q
  repeat (first | refine ev_gos 99 rfl ?_ | refine ev_gf2 rfl rfl rfl rfl ?_ | refine ev_gf2 rfl rfl HH_land rfl ?_ | refine ev_gf2 rfl rfl HH_draft rfl ?_ | refine ev_gf2 rfl rfl (by with_reducible assumption) rfl ?_)
  by_cases h0 : a &&& b = 0
  · refine ev_ift rfl rfl rfl (i_eq (lc_eq.mpr h0)) ?_
    rw [decide_eq_false (fun z => z h0)] at q
    repeat (first | refine ev_gos 99 rfl ?_ | refine ev_gf2 rfl rfl rfl rfl ?_ | refine ev_gf2 rfl rfl HH_land rfl ?_ | refine ev_gf2 rfl rfl HH_draft rfl ?_ | refine ev_gf2 rfl rfl (by with_reducible assumption) rfl ?_)
    unfold isB
    rw [decide_eq_false (fun z => z h0)]
    exact q
  · refine ev_iff rfl rfl rfl (j_eq (fun z => h0 (lc_eq.mp z))) ?_
    rw [decide_eq_true h0] at q
    repeat (first | refine ev_gos 99 rfl ?_ | refine ev_gf2 rfl rfl rfl rfl ?_ | refine ev_gf2 rfl rfl HH_land rfl ?_ | refine ev_gf2 rfl rfl HH_draft rfl ?_ | refine ev_gf2 rfl rfl (by with_reducible assumption) rfl ?_)
    unfold isB
    rw [decide_eq_true h0]
    exact q
end ISB
/-! pairs -/
def tcQ (adj : Nat → Nat → Bool) (x : Int32) (p q : Nat) (a : Nat × Int32) : Nat × Int32 := bif decide (p < q) && adj p q then (a.1 + 1, if nI a.1 = x then nI (10 * p + q) else a.2) else a
def tcP (adj : Nat → Nat → Bool) (x : Int32) (P p : Nat) (a : Nat × Int32) : Nat × Int32 := fo (tcQ adj x p) P a
def tcV (x : Int32) (a : Nat × Int32) : Int32 := if x = -1 then nI a.1 else a.2
section TCS
variable {adj : Nat → Nat → Bool} {x : Int32}
theorem tc_low {p : Nat} {a : Nat × Int32} : ∀ n, n ≤ p + 1 → fo (tcQ adj x p) n a = a
  | 0, _ => rfl
  | n + 1, h => by
    show tcQ adj x p n (fo (tcQ adj x p) n a) = a
    rw [tc_low n (by omega)]
    unfold tcQ
    rw [decide_eq_false (by omega), Bool.false_and]
    rfl
theorem tcQ_t {p q : Nat} (h1 : p < q) (h2 : adj p q = true) (a : Nat × Int32) : tcQ adj x p q a = (a.1 + 1, if nI a.1 = x then nI (10 * p + q) else a.2) := by
  unfold tcQ
  rw [decide_eq_true h1, h2]
  rfl
theorem tcQ_f {p q : Nat} (h2 : adj p q = false) (a : Nat × Int32) : tcQ adj x p q a = a := by
  unfold tcQ
  rw [h2, Bool.and_false]
  rfl
theorem tcQ_le (p q : Nat) (a : Nat × Int32) : a.1 ≤ (tcQ adj x p q a).1 ∧ (tcQ adj x p q a).1 ≤ a.1 + 1 := by
  unfold tcQ
  cases decide (p < q) && adj p q
  · exact ⟨Nat.le_refl _, Nat.le_succ _⟩
  · exact ⟨Nat.le_succ _, Nat.le_refl _⟩
theorem tcq_le (p : Nat) (a : Nat × Int32) : ∀ n, (fo (tcQ adj x p) n a).1 ≤ a.1 + n
  | 0 => Nat.le_refl _
  | n + 1 => by
    have h1 := tcq_le p a n
    have h2 := (tcQ_le (adj := adj) (x := x) p n (fo (tcQ adj x p) n a)).2
    show (tcQ adj x p n (fo (tcQ adj x p) n a)).1 ≤ _
    omega
theorem tcp_le (P : Nat) (a : Nat × Int32) : ∀ n, (fo (tcP adj x P) n a).1 ≤ a.1 + P * n
  | 0 => Nat.le_refl _
  | n + 1 => by
    have h1 := tcp_le P a n
    have h2 := tcq_le (adj := adj) (x := x) n (fo (tcP adj x P) n a) P
    show (fo (tcQ adj x n) P (fo (tcP adj x P) n a)).1 ≤ _
    rw [Nat.mul_succ]
    omega
/-- found: it stays -/
def tcK (x v : Int32) (b : Nat) (a : Nat × Int32) : Prop := a.2 = v ∧ a.1 ≤ b ∧ ∃ n, n < a.1 ∧ x = nI n
theorem tcK_Q {v : Int32} {b p q : Nat} {a : Nat × Int32} (h : tcK x v b a) (hb : b < 2 ^ 31) : tcK x v (b + 1) (tcQ adj x p q a) := by
  obtain ⟨h1, h2, n, n1, n2⟩ := h
  have hl := tcQ_le (adj := adj) (x := x) p q a
  refine ⟨?_, by omega, n, by omega, n2⟩
  unfold tcQ
  cases decide (p < q) && adj p q
  · exact h1
  · show (if nI a.1 = x then nI (10 * p + q) else a.2) = v
    rw [if_neg (fun z => by rw [n2] at z; have := (nI_eq (by omega) (by omega)).mp z; omega)]
    exact h1
theorem tcK_q {v : Int32} {b p i : Nat} {a : Nat × Int32} (h : tcK x v b (fo (tcQ adj x p) i a)) : ∀ n, b + n < 2 ^ 31 → tcK x v (b + n) (fo (tcQ adj x p) (i + n) a)
  | 0, _ => h
  | n + 1, hb => tcK_Q (adj := adj) (b := b + n) (p := p) (q := i + n) (tcK_q h n (by omega)) (by omega)
theorem tcK_p {v : Int32} {b P i : Nat} {a : Nat × Int32} (h : tcK x v b (fo (tcP adj x P) i a)) : ∀ n, b + P * n < 2 ^ 31 → tcK x v (b + P * n) (fo (tcP adj x P) (i + n) a)
  | 0, _ => h
  | n + 1, hb => by
    rw [Nat.mul_succ] at hb
    have ih := tcK_p h n (by omega)
    have z := tcK_q (adj := adj) (p := i + n) (i := 0) (a := fo (tcP adj x P) (i + n) a) ih P (by omega)
    rw [Nat.zero_add] at z
    rw [Nat.mul_succ, ← Nat.add_assoc]
    exact z
theorem tc_fin {P p q : Nat} (hP : P ≤ 7) (hp : p < P) (hq : q < P) (hpq : p < q) (hadj : adj p q = true) (hx : nI (fo (tcQ adj x p) q (fo (tcP adj x P) p (0, -1))).1 = x) : tcV x (fo (tcP adj x P) P (0, -1)) = nI (10 * p + q) := by
  have b1 := tcp_le (adj := adj) (x := x) P (0, -1) p
  have b2 := tcq_le (adj := adj) (x := x) p (fo (tcP adj x P) p (0, -1)) q
  have b0 : P * p ≤ 49 := Nat.mul_le_mul hP (show p ≤ 7 by omega)
  have b1' : (fo (tcP adj x P) p (0, -1)).1 ≤ 49 := by
    have : ((0, -1) : Nat × Int32).1 = 0 := rfl
    omega
  have k1 : tcK x (nI (10 * p + q)) 57 (fo (tcQ adj x p) (q + 1) (fo (tcP adj x P) p (0, -1))) := by
    show tcK x (nI (10 * p + q)) 57 (tcQ adj x p q (fo (tcQ adj x p) q (fo (tcP adj x P) p (0, -1))))
    rw [tcQ_t hpq hadj, if_pos hx]
    exact ⟨rfl, by show _ + 1 ≤ 57; omega, _, Nat.lt_succ_self _, hx.symm⟩
  have k2 := tcK_q k1 (P - (q + 1)) (by omega)
  rw [show q + 1 + (P - (q + 1)) = P by omega] at k2
  have k3 : tcK x (nI (10 * p + q)) (57 + (P - (q + 1))) (fo (tcP adj x P) (p + 1) (0, -1)) := k2
  have b3 : P * (P - (p + 1)) ≤ 49 := Nat.mul_le_mul hP (show P - (p + 1) ≤ 7 by omega)
  have k4 := tcK_p k3 (P - (p + 1)) (by omega)
  rw [show p + 1 + (P - (p + 1)) = P by omega] at k4
  obtain ⟨z1, z2, n, n1, n2⟩ := k4
  unfold tcV
  rw [if_neg (by rw [n2]; exact enc_ne (by omega))]
  exact z1
end TCS
