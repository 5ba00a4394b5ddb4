/-! the lowest bit; how many bits -/
def loF (f : Nat → Bool) : Nat → Nat → Nat
  | 0, i => i
  | k + 1, i => if f i then i else loF f k (i + 1)
theorem loF_spec (f : Nat → Bool) : ∀ (k i j : Nat), i ≤ j → j < i + k → f j = true → (∀ q, i ≤ q → q < j → f q = false) → loF f k i = j
  | 0, i, j, h1, h2, _, _ => by omega
  | k + 1, i, j, h1, h2, h3, h4 => by
    unfold loF
    by_cases e : i = j
    · subst e
      rw [h3]
      rfl
    · rw [h4 i (Nat.le_refl _) (by omega)]
      exact loF_spec f k (i + 1) j (by omega) (by omega) h3 (fun q a b => h4 q (by omega) b)
def lo (x : Int64) : Nat := loF (bs x) 64 0
theorem lo_spec {x : Int64} (h : ¬ x = 0) : lo x < 64 ∧ bs x (lo x) = true ∧ ∀ j, j < lo x → bs x j = false := by
  obtain ⟨i, h1, h2⟩ := bs_ne0 h
  obtain ⟨j, j1, j2, j3⟩ := fb_first (p := fun i => bs x i = true) ⟨i, h1, h2⟩
  have hl : lo x = j := loF_spec (bs x) 64 0 j (Nat.zero_le _) (by omega) j2 (fun q _ hq => by
    have := j3 q hq
    cases hb : bs x q with
    | false => rfl
    | true => exact absurd hb this)
  rw [hl]
  refine ⟨j1, j2, fun q hq => ?_⟩
  have := j3 q hq
  cases hb : bs x q with
  | false => rfl
  | true => exact absurd hb this
theorem lo_of {x : Int64} {j : Nat} (h : j < 64) (h1 : bs x j = true) (h2 : ∀ q, q < j → bs x q = false) : lo x = j := loF_spec (bs x) 64 0 j (Nat.zero_le _) (by omega) h1 (fun q _ hq => h2 q hq)
theorem bs_nat (x : Int64) (i : Nat) : bs x i = x.toBitVec.toNat.testBit i := rfl
/-- one less: the bits below the lowest come, it goes -/
theorem nat_sub1 {n c : Nat} (h1 : n.testBit c = true) (h2 : ∀ j, j < c → n.testBit j = false) (i : Nat) : (n - 1).testBit i = if i < c then true else if i = c then false else n.testBit i := by
  have hm : n % 2 ^ (c + 1) = 2 ^ c := by
    apply Nat.eq_of_testBit_eq
    intro j
    rw [Nat.testBit_mod_two_pow, Nat.testBit_two_pow]
    by_cases e : c = j
    · subst e
      simp [h1]
    · by_cases e2 : j < c
      · simp [h2 j e2, e]
      · simp [show ¬ j < c + 1 by omega, e]
  have hd := Nat.div_add_mod n (2 ^ (c + 1))
  rw [hm] at hd
  have hp : 0 < 2 ^ c := Nat.two_pow_pos c
  have e1 : n - 1 = 2 ^ (c + 1) * (n / 2 ^ (c + 1)) + (2 ^ c - 1) := by omega
  have hlt : 2 ^ c - 1 < 2 ^ (c + 1) := by rw [Nat.pow_succ]; omega
  rw [e1, Nat.testBit_two_pow_mul_add _ hlt]
  have hlt2 : 2 ^ c < 2 ^ (c + 1) := by rw [Nat.pow_succ]; omega
  have e2 : n.testBit i = if i < c + 1 then (2 ^ c).testBit i else (n / 2 ^ (c + 1)).testBit (i - (c + 1)) := by
    conv => lhs; rw [← hd]
    rw [Nat.testBit_two_pow_mul_add _ hlt2]
  rw [e2, Nat.testBit_two_pow_sub_one, Nat.testBit_two_pow]
  by_cases a : i < c
  · simp [a, show i < c + 1 by omega]
  · by_cases b : i = c
    · subst b
      simp
    · simp [a, b, show ¬ i < c + 1 by omega]
theorem sub1_bs {x : Int64} (h : ¬ x = 0) {i : Nat} (hi : i < 64) : bs (x - 1) i = if i < lo x then true else if i = lo x then false else bs x i := by
  obtain ⟨l1, l2, l3⟩ := lo_spec h
  have hn : (x - 1).toBitVec.toNat = x.toBitVec.toNat - 1 := by
    rw [Int64.toBitVec_sub]
    have hpos : 1 ≤ x.toBitVec.toNat := by
      apply Nat.one_le_iff_ne_zero.mpr
      intro e
      apply h
      apply Int64.toBitVec_inj.mp
      apply BitVec.eq_of_toNat_eq
      rw [e]
      rfl
    exact BitVec.toNat_sub_of_le (by rw [BitVec.le_def]; exact hpos)
  rw [bs_nat, hn, nat_sub1 l2 l3]
  rfl
theorem neg_bs {x : Int64} (h : ¬ x = 0) {i : Nat} (hi : i < 64) : bs (-x) i = !bs (x - 1) i := by
  have hpos : 1 ≤ x.toBitVec.toNat := by
    apply Nat.one_le_iff_ne_zero.mpr
    intro e
    apply h
    apply Int64.toBitVec_inj.mp
    apply BitVec.eq_of_toNat_eq
    rw [e]
    rfl
  have hlt : x.toBitVec.toNat < 2 ^ 64 := x.toBitVec.isLt
  have hn : (x - 1).toBitVec.toNat = x.toBitVec.toNat - 1 := by
    rw [Int64.toBitVec_sub]
    exact BitVec.toNat_sub_of_le (by rw [BitVec.le_def]; exact hpos)
  have hm : (-x).toBitVec.toNat = 2 ^ 64 - (x.toBitVec.toNat - 1 + 1) := by
    rw [Int64.toBitVec_neg, BitVec.toNat_neg, Nat.mod_eq_of_lt (by omega)]
    omega
  rw [bs_nat, bs_nat, hm, hn, Nat.testBit_two_pow_sub_succ (by omega)]
  simp [hi]
theorem lowbit {x : Int64} (h : ¬ x = 0) : x &&& -x = (1 : Int64) <<< ((nI (lo x)).toInt64 &&& 63) := by
  obtain ⟨l1, l2, l3⟩ := lo_spec h
  apply bs_ext
  intro i hi
  rw [bs_and, neg_bs h hi, sub1_bs h hi, bs_bit l1 hi]
  by_cases a : i < lo x
  · simp [a, l3 i a]
    omega
  · by_cases b : i = lo x
    · subst b
      simp [l2]
    · simp [a, b]
theorem dropbit {x : Int64} (h : ¬ x = 0) {i : Nat} (hi : i < 64) : bs (x &&& (x - 1)) i = (bs x i && !decide (i = lo x)) := by
  obtain ⟨l1, l2, l3⟩ := lo_spec h
  rw [bs_and, sub1_bs h hi]
  by_cases a : i < lo x
  · simp [a, l3 i a]
  · by_cases b : i = lo x
    · subst b
      simp
    · simp [a, b]
def pop (x : Int64) : Nat := fb_ct (bs x) 64
theorem pop_0 : pop 0 = 0 := fb_ct_zero.mpr (fun k _ => bs_0 k)
theorem pop_le (x : Int64) : pop x ≤ 64 := fb_ct_le _ _
theorem pop_cut {x : Int64} {n : Nat} (hn : n ≤ 64) (h : ∀ i, n ≤ i → i < 64 → bs x i = false) : pop x = fb_ct (bs x) n := by
  unfold pop
  have e := fb_ct_split (bs x) n (64 - n)
  rw [show n + (64 - n) = 64 by omega] at e
  have e2 : fb_ct (fun k => bs x (n + k)) (64 - n) = 0 := fb_ct_zero.mpr (fun k hk => h (n + k) (by omega) (by omega))
  omega
theorem pop_drop {x : Int64} (h : ¬ x = 0) : pop (x &&& (x - 1)) + 1 = pop x := by
  obtain ⟨l1, l2, l3⟩ := lo_spec h
  unfold pop
  have h1 := fb_ct_upd (bs x) false (i := lo x) l1
  rw [l2] at h1
  have h2 : fb_ct (bs (x &&& (x - 1))) 64 = fb_ct (fun k => if k = lo x then false else bs x k) 64 := by
    apply fb_ct_cong
    intro k hk
    rw [dropbit h hk]
    by_cases e : k = lo x <;> simp [e]
  rw [h2]
  simpa using h1
theorem pop_pos {x : Int64} (h : ¬ x = 0) : 0 < pop x := by
  have := pop_drop h
  omega
theorem pop_zero {x : Int64} (h : pop x = 0) : x = 0 := by
  apply Classical.byContradiction
  intro h2
  have := pop_pos h2
  omega
theorem pop_bit {k : Nat} (hk : k < 64) : pop ((1 : Int64) <<< ((nI k).toInt64 &&& 63)) = 1 := by
  unfold pop
  have h1 := fb_ct_upd (fun _ => false) true (i := k) hk
  have h2 : fb_ct (fun _ => false) 64 = 0 := fb_ct_zero.mpr (fun _ _ => rfl)
  rw [h2] at h1
  have h3 : fb_ct (bs ((1 : Int64) <<< ((nI k).toInt64 &&& 63))) 64 = fb_ct (fun j => if j = k then true else (fun _ => false) j) 64 := by
    apply fb_ct_cong
    intro j hj
    rw [bs_bit hk hj]
    by_cases e : j = k <;> simp [e]
  rw [h3]
  simpa using h1
/-- the lowest bit's number, as the class tells it -/
theorem low_num {x : Int64} (h : ¬ x = 0) : pop ((x &&& -x) - 1) = lo x := by
  obtain ⟨l1, l2, l3⟩ := lo_spec h
  have hb := lowbit h
  have hy : ¬ (x &&& -x) = 0 := by
    intro e
    have := bs_bit l1 l1
    rw [← hb, e, bs_0] at this
    simp at this
  have hl : lo (x &&& -x) = lo x := lo_of l1 (by rw [hb, bs_bit l1 l1]; simp) (fun q hq => by rw [hb, bs_bit l1 (by omega)]; simp; omega)
  have hall : ∀ i, i < 64 → bs ((x &&& -x) - 1) i = decide (i < lo x) := by
    intro i hi
    rw [sub1_bs hy hi, hl]
    by_cases a : i < lo x
    · simp [a]
    · by_cases b : i = lo x
      · subst b
        simp
      · rw [if_neg a, if_neg b, hb, bs_bit l1 hi]
        simp [a, b]
  rw [pop_cut (n := lo x) (by omega) (fun i a b => by rw [hall i b]; simp; omega)]
  exact fb_ct_all.mpr (fun k hk => by rw [hall k (by omega)]; simp [hk])
