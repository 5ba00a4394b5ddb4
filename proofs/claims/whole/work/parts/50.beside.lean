/-! the field's geometry: the cell beside a cell; moved sets by their bits -/
def bsd (W H c : Nat) : Nat → Option Nat
  | 1 => if c % W + 1 < W then some (c + 1) else none
  | 2 => if c / W + 1 < H then some (c + W) else none
  | 3 => if 0 < c % W then some (c - 1) else none
  | 4 => if 0 < c / W then some (c - W) else none
  | _ => none
def opW : Nat → Nat
  | 1 => 3
  | 2 => 4
  | 3 => 1
  | 4 => 2
  | _ => 0
def encI (o : Option Nat) : Int32 := match o with
  | none => -1
  | some v => nI v
def obit (o : Option Nat) : Int64 := match o with
  | none => 0
  | some v => bit v
def ohas (x : Int64) (o : Option Nat) : Bool := match o with
  | none => false
  | some v => bs x v
def okB (W H c d : Nat) : Bool := match bsd W H c d with
  | none => true
  | some v => Nat.blt v (W * H) && (bsd W H v (opW d) == some c)
def okA (W H c d : Nat) : Bool := bif Nat.ble 2 W && (Nat.ble 2 H && Nat.blt c (W * H)) then okB W H c d else true
theorem okA_all : ∀ W, W < 8 → ∀ H, H < 8 → ∀ c, c < 49 → ∀ d, d < 5 → okA W H c d = true := by decide +kernel
theorem okB_all (W : Nat) (h1 : W < 8) (H : Nat) (h2 : H < 8) (c : Nat) (h3 : c < 49) (d : Nat) (h4 : d < 5) (h : 2 ≤ W ∧ 2 ≤ H ∧ c < W * H) : okB W H c d = true := by
  have q := okA_all W h1 H h2 c h3 d h4
  unfold okA at q
  rw [Nat.ble_eq_true_of_le h.1, Nat.ble_eq_true_of_le h.2.1, show Nat.blt c (W * H) = true from Nat.ble_eq_true_of_le h.2.2] at q
  exact q
theorem bsd_lt {W H c d v : Nat} (hW : 2 ≤ W) (hW7 : W ≤ 7) (hH : 2 ≤ H) (hH7 : H ≤ 7) (hc : c < W * H) (hd : d ≤ 4) (h : bsd W H c d = some v) : v < W * H ∧ bsd W H v (opW d) = some c := by
  have h49 := WH49 hW7 hH7
  have h1 := okB_all W (by omega) H (by omega) c (by omega) d (by omega) ⟨hW, hH, hc⟩
  unfold okB at h1
  rw [h] at h1
  obtain ⟨a, b⟩ := andE h1
  exact ⟨Nat.le_of_ble_eq_true a, by simpa using b⟩
theorem opop : ∀ d, 1 ≤ d → d ≤ 4 → opW (opW d) = d ∧ 1 ≤ opW d ∧ opW d ≤ 4 := by
  intro d h1 h4
  rcases (show d = 1 ∨ d = 2 ∨ d = 3 ∨ d = 4 by omega) with rfl | rfl | rfl | rfl <;> decide
theorem bsd_op {W H c v d : Nat} (hW : 2 ≤ W) (hW7 : W ≤ 7) (hH : 2 ≤ H) (hH7 : H ≤ 7) (hc : c < W * H) (hv : v < W * H) (h1 : 1 ≤ d) (hd : d ≤ 4) : bsd W H c d = some v ↔ bsd W H v (opW d) = some c := by
  constructor
  · intro h
    exact (bsd_lt hW hW7 hH hH7 hc hd h).2
  · intro h
    have h2 := (bsd_lt hW hW7 hH hH7 hv (opop d h1 hd).2.2 h).2
    rw [(opop d h1 hd).1] at h2
    exact h2
/-- nothing beyond the cells -/
def WI (x : Int64) (N : Nat) : Prop := ∀ i, bs x i = true → i < N
theorem WI_and {x y : Int64} {N : Nat} (h : WI y N) : WI (x &&& y) N := fun i hi => h i (by rw [bs_and] at hi; exact (andE hi).2)
theorem WI_andl {x y : Int64} {N : Nat} (h : WI x N) : WI (x &&& y) N := fun i hi => h i (by rw [bs_and] at hi; exact (andE hi).1)
theorem WI_or {x y : Int64} {N : Nat} (h : WI x N) (h2 : WI y N) : WI (x ||| y) N := fun i hi => by
  rw [bs_or, Bool.or_eq_true] at hi
  exact hi.elim (h i) (h2 i)
theorem WI_0 (N : Nat) : WI 0 N := fun i hi => by rw [bs_0] at hi; cases hi
theorem bs_lt {x : Int64} {i : Nat} (h : bs x i = true) : i < 64 := by
  by_cases q : i < 64
  · exact q
  · rw [bs_big (by omega)] at h
    cases h
theorem bs_bit' {k : Nat} (hk : k < 64) (i : Nat) : bs (bit k) i = decide (i = k) := by
  by_cases q : i < 64
  · exact bs_bitc hk q
  · rw [bs_big (by omega), decide_eq_false (by omega)]
theorem WI_bit {c N : Nat} (h : c < N) (hN : N ≤ 49) : WI (bit c) N := fun i hi => by
  rw [bs_bit' (by omega)] at hi
  rw [of_decide_eq_true hi]
  exact h
theorem WI_dn (f : Nat → Int32) (x : Int32) (N : Nat) : WI (dnS f x N) N := fun i hi => by
  have h := bs_lt hi
  unfold dnS at hi
  rw [bs_mk _ h] at hi
  exact of_decide_eq_true (andE hi).1
theorem f_right : ∀ W, W < 8 → ∀ H, H < 8 → ∀ j, j < 49 → (2 ≤ W ∧ 2 ≤ H ∧ j < W * H) → ((j % W = W - 1) ↔ ¬ (j + 1 < W * H ∧ 0 < (j + 1) % W)) := by
  intro W hW H hH j hj h
  obtain ⟨h1, h2, h3⟩ := h
  rcases (show W = 2 ∨ W = 3 ∨ W = 4 ∨ W = 5 ∨ W = 6 ∨ W = 7 by omega) with rfl | rfl | rfl | rfl | rfl | rfl <;> rcases (show H = 2 ∨ H = 3 ∨ H = 4 ∨ H = 5 ∨ H = 6 ∨ H = 7 by omega) with rfl | rfl | rfl | rfl | rfl | rfl <;> omega
theorem f_left : ∀ W, W < 8 → ∀ H, H < 8 → ∀ j, j < 49 → (2 ≤ W ∧ 2 ≤ H ∧ j + 1 < W * H) → ((j + 1) % W = 0 ↔ ¬ (j % W + 1 < W)) := by decide +kernel
theorem f_down : ∀ W, W < 8 → 2 ≤ W → ∀ j, j < 64 → (W ≤ j ↔ 0 < j / W) := by decide +kernel
theorem f_up : ∀ W, W < 8 → ∀ H, H < 8 → ∀ j, j < 64 → (2 ≤ W ∧ 2 ≤ H) → (j + W < W * H ↔ j < W * H ∧ j / W + 1 < H) := by
  intro W hW H hH j hj h
  obtain ⟨h1, h2⟩ := h
  rcases (show W = 2 ∨ W = 3 ∨ W = 4 ∨ W = 5 ∨ W = 6 ∨ W = 7 by omega) with rfl | rfl | rfl | rfl | rfl | rfl <;> rcases (show H = 2 ∨ H = 3 ∨ H = 4 ∨ H = 5 ∨ H = 6 ∨ H = 7 by omega) with rfl | rfl | rfl | rfl | rfl | rfl <;> omega
section MV
variable {W H : Nat} {x : Int64}
theorem mv_bs (hW : 2 ≤ W) (hW7 : W ≤ 7) (hH : 2 ≤ H) (hH7 : H ≤ 7) (hx : WI x (W * H)) {d : Nat} (h1 : 1 ≤ d) (hd : d ≤ 4) {j : Nat} (hj : j < 64) : bs (mvS W (W * H) x d) j = (decide (j < W * H) && ohas x (bsd W H j (opW d))) := by
  have h49 := WH49 hW7 hH7
  rcases (show d = 1 ∨ d = 2 ∨ d = 3 ∨ d = 4 by omega) with rfl | rfl | rfl | rfl
  · show bs ((x &&& (rigS W (W * H) ^^^ (-1))) <<< ((nI 1).toInt64 &&& 63)) j = (decide (j < W * H) && ohas x (if 0 < j % W then some (j - 1) else none))
    rw [bs_shl _ (by decide) hj]
    by_cases h0 : 1 ≤ j
    · obtain ⟨i, rfl⟩ : ∃ i, j = i + 1 := ⟨j - 1, by omega⟩
      rw [Nat.add_sub_cancel, bs_and, bs_not _ (by omega), decide_eq_true h0, Bool.true_and]
      unfold rigS
      rw [bs_mk _ (by omega)]
      cases hb : bs x i with
      | false =>
        rw [Bool.false_and]
        split
        · show false = (decide (i + 1 < W * H) && bs x i)
          rw [hb, Bool.and_false]
        · show false = (decide (i + 1 < W * H) && false)
          rw [Bool.and_false]
      | true =>
        have hi := hx i hb
        have hf := f_right W (by omega) H (by omega) i (by omega) ⟨hW, hH, hi⟩
        rw [decide_eq_true hi, Bool.true_and, Bool.true_and]
        by_cases q : i % W = W - 1
        · have q2 := hf.mp q
          rw [decide_eq_true q]
          by_cases q3 : 0 < (i + 1) % W
          · rw [decide_eq_false (fun z => q2 ⟨z, q3⟩)]
            rfl
          · rw [if_neg q3]
            show false = (decide (i + 1 < W * H) && false)
            rw [Bool.and_false]
        · have q2 := Classical.not_not.mp (fun z => q (hf.mpr z))
          rw [decide_eq_false q, if_pos q2.2, decide_eq_true q2.1]
          show true = bs x i
          rw [hb]
    · have e : j = 0 := by omega
      subst e
      rw [Nat.zero_mod, if_neg (Nat.lt_irrefl 0), decide_eq_false h0]
      show (false && _) = (decide (0 < W * H) && false)
      rw [Bool.false_and, Bool.and_false]
  · show bs ((x <<< ((nI W).toInt64 &&& 63)) &&& allS (W * H)) j = (decide (j < W * H) && ohas x (if 0 < j / W then some (j - W) else none))
    have hf := f_down W (by omega) hW j hj
    rw [bs_and, bs_shl _ (by omega) hj]
    unfold allS
    rw [bs_mk _ hj, Bool.and_comm]
    congr 1
    by_cases q : W ≤ j
    · rw [decide_eq_true q, if_pos (hf.mp q)]
      rfl
    · rw [decide_eq_false q, if_neg (fun z => q (hf.mpr z))]
      rfl
  · show bs (ush (x &&& (lefS W (W * H) ^^^ (-1))) (nI 1)) j = (decide (j < W * H) && ohas x (if j % W + 1 < W then some (j + 1) else none))
    unfold ush
    rw [bs_ushr _ (by decide), Nat.add_comm 1 j, bs_and]
    cases hb : bs x (j + 1) with
    | false =>
      rw [Bool.false_and]
      split
      · show false = (decide (j < W * H) && bs x (j + 1))
        rw [hb, Bool.and_false]
      · show false = (decide (j < W * H) && false)
        rw [Bool.and_false]
    | true =>
      have hi := hx _ hb
      have hf := f_left W (by omega) H (by omega) j (by omega) ⟨hW, hH, hi⟩
      rw [bs_not _ (by omega), Bool.true_and, decide_eq_true (show j < W * H by omega), Bool.true_and]
      unfold lefS
      rw [bs_mk _ (by omega), decide_eq_true hi, Bool.true_and]
      by_cases q : (j + 1) % W = 0
      · rw [decide_eq_true q, if_neg (hf.mp q)]
        rfl
      · rw [decide_eq_false q, if_pos (Classical.not_not.mp (fun z => q (hf.mpr z)))]
        show true = bs x (j + 1)
        rw [hb]
  · show bs (ush x (nI W)) j = (decide (j < W * H) && ohas x (if j / W + 1 < H then some (j + W) else none))
    have hf := f_up W (by omega) H (by omega) j hj ⟨hW, hH⟩
    unfold ush
    rw [bs_ushr x (by omega), Nat.add_comm W j]
    cases hb : bs x (j + W) with
    | false =>
      split
      · show false = (decide (j < W * H) && bs x (j + W))
        rw [hb, Bool.and_false]
      · show false = (decide (j < W * H) && false)
        rw [Bool.and_false]
    | true =>
      have q := hf.mp (hx _ hb)
      rw [if_pos q.2, decide_eq_true q.1]
      show true = bs x (j + W)
      rw [hb]
end MV
