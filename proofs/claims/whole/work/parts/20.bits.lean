/-! bits of longs -/
def bs (x : Int64) (i : Nat) : Bool := x.toBitVec.getLsbD i
theorem bs_ext {x y : Int64} (h : ∀ i, i < 64 → bs x i = bs y i) : x = y := Int64.toBitVec_inj.mp (BitVec.eq_of_getLsbD_eq (fun i hi => h i hi))
theorem bs_big {x : Int64} {i : Nat} (h : 64 ≤ i) : bs x i = false := BitVec.getLsbD_of_ge _ _ h
theorem bs_and (x y : Int64) (i : Nat) : bs (x &&& y) i = (bs x i && bs y i) := by unfold bs; rw [Int64.toBitVec_and, BitVec.getLsbD_and]
theorem bs_or (x y : Int64) (i : Nat) : bs (x ||| y) i = (bs x i || bs y i) := by unfold bs; rw [Int64.toBitVec_or, BitVec.getLsbD_or]
theorem bs_xor (x y : Int64) (i : Nat) : bs (x ^^^ y) i = (bs x i ^^ bs y i) := by unfold bs; rw [Int64.toBitVec_xor, BitVec.getLsbD_xor]
theorem bs_0 (i : Nat) : bs 0 i = false := by unfold bs; show (0#64).getLsbD i = false; simp
theorem bs_m1 {i : Nat} (h : i < 64) : bs (-1) i = true := by
  unfold bs
  rw [show ((-1 : Int64)).toBitVec = BitVec.allOnes 64 from by decide, BitVec.getLsbD_allOnes]
  exact decide_eq_true h
theorem tb1 (i : Nat) : Nat.testBit 1 i = decide (i = 0) := by
  cases i with
  | zero => rfl
  | succ n => rw [Nat.testBit_succ]; simp
theorem bs_not (x : Int64) {i : Nat} (h : i < 64) : bs (x ^^^ (-1)) i = !bs x i := by rw [bs_xor, bs_m1 h]; simp
theorem lN_tb (n : Nat) : (lN n).toBitVec = BitVec.ofNat 64 n := rfl
theorem bs_lN {n : Nat} {i : Nat} (h : i < 64) : bs (lN n) i = n.testBit i := by
  unfold bs
  rw [lN_tb, BitVec.getLsbD_ofNat]
  simp [h]
theorem sh_c : ∀ k, k < 64 → ((nI k).toInt64 &&& 63) = lN k := by decide +kernel
theorem sh_u : ∀ k, k < 64 → ((nI k).toInt64.toUInt64 &&& Int64.toUInt64 63) = UInt64.ofNat k := by decide +kernel
theorem sh_m : ∀ k, k < 64 → (BitVec.ofNat 64 k).smod 64 = BitVec.ofNat 64 k := by decide +kernel
theorem bs_shl (x : Int64) {k : Nat} (hk : k < 64) {i : Nat} (hi : i < 64) : bs (x <<< ((nI k).toInt64 &&& 63)) i = (decide (k ≤ i) && bs x (i - k)) := by
  unfold bs
  rw [sh_c k hk, Int64.toBitVec_shiftLeft, lN_tb, sh_m k hk, BitVec.shiftLeft_eq', BitVec.getLsbD_shiftLeft, BitVec.toNat_ofNat, Nat.mod_eq_of_lt (by omega)]
  by_cases h : i < k
  · simp [h, hi, show ¬ k ≤ i by omega]
  · simp [h, hi, show k ≤ i by omega]
theorem bs_ushr (x : Int64) {k : Nat} (hk : k < 64) (i : Nat) : bs (x.toUInt64 >>> ((nI k).toInt64.toUInt64 &&& Int64.toUInt64 63)).toInt64 i = bs x (k + i) := by
  unfold bs
  rw [sh_u k hk]
  show (x.toUInt64 >>> UInt64.ofNat k).toBitVec.getLsbD i = _
  rw [UInt64.toBitVec_shiftRight]
  show (x.toBitVec >>> ((BitVec.ofNat 64 k) % 64)).getLsbD i = _
  rw [BitVec.ushiftRight_eq', BitVec.getLsbD_ushiftRight]
  congr 1
  rw [BitVec.toNat_umod, BitVec.toNat_ofNat, Nat.mod_eq_of_lt (show k < 2 ^ 64 by omega)]
  show k % 64 + i = k + i
  rw [Nat.mod_eq_of_lt hk]
theorem bs_shr0 (x : Int64) {k : Nat} (hk : k < 64) : bs (x >>> ((nI k).toInt64 &&& 63)) 0 = bs x k := by
  unfold bs
  rw [sh_c k hk, Int64.toBitVec_shiftRight, lN_tb, sh_m k hk, BitVec.sshiftRight_eq', BitVec.getLsbD_sshiftRight, BitVec.toNat_ofNat, Nat.mod_eq_of_lt (by omega)]
  simp [hk]
theorem bs_1 {i : Nat} : bs 1 i = decide (i = 0) := by
  by_cases h : i < 64
  · rw [show (1 : Int64) = lN 1 from rfl, bs_lN h, tb1]
  · rw [bs_big (by omega)]
    simp
    omega
theorem bs_bit {k : Nat} (hk : k < 64) {i : Nat} (hi : i < 64) : bs ((1 : Int64) <<< ((nI k).toInt64 &&& 63)) i = decide (i = k) := by
  rw [bs_shl _ hk hi, bs_1]
  by_cases h : i = k
  · subst h
    simp
  · by_cases h2 : k ≤ i
    · simp [h, h2]
      omega
    · simp [h, h2]
theorem bs_eq0 {x : Int64} : x = 0 ↔ ∀ i, i < 64 → bs x i = false := ⟨fun h i _ => by rw [h, bs_0], fun h => bs_ext (fun i hi => by rw [h i hi, bs_0])⟩
theorem bs_ne0 {x : Int64} (h : ¬ x = 0) : ∃ i, i < 64 ∧ bs x i = true := by
  apply Classical.byContradiction
  intro h2
  apply h
  apply bs_eq0.mpr
  intro i hi
  cases hb : bs x i with
  | false => rfl
  | true => exact absurd ⟨i, hi, hb⟩ h2
theorem bs_and1 (x : Int64) : x &&& 1 = if bs x 0 then 1 else 0 := by
  apply bs_ext
  intro i hi
  rw [bs_and, bs_1]
  by_cases h : i = 0
  · subst h
    cases hb : bs x 0 <;> simp [bs_0, bs_1]
  · cases hb : bs x 0 <;> simp [h, bs_0, bs_1]
/-- the model's question: is the bit there -/
theorem bs_holds (x : Int64) {k : Nat} (hk : k < 64) : (x >>> ((nI k).toInt64 &&& 63)) &&& 1 = if bs x k then 1 else 0 := by rw [bs_and1, bs_shr0 x hk]
theorem bs_has (x : Int64) {k : Nat} (hk : k < 64) : (x.toUInt64 >>> ((nI k).toInt64.toUInt64 &&& Int64.toUInt64 63)).toInt64 &&& 1 = if bs x k then 1 else 0 := by rw [bs_and1, bs_ushr x hk, Nat.add_zero]
/-- the long of which the bits are so -/
def mkN (f : Nat → Bool) : Nat → Nat
  | 0 => 0
  | n + 1 => mkN f n + (if f n then 2 ^ n else 0)
theorem mkN_lt (f : Nat → Bool) : ∀ n, mkN f n < 2 ^ n
  | 0 => Nat.zero_lt_succ 0
  | n + 1 => by
    have := mkN_lt f n
    show mkN f n + _ < 2 ^ (n + 1)
    rw [Nat.pow_succ]
    split <;> omega
theorem mkN_bit (f : Nat → Bool) : ∀ n i, (mkN f n).testBit i = (decide (i < n) && f i)
  | 0, i => by show (0 : Nat).testBit i = _; simp
  | n + 1, i => by
    have ih := mkN_bit f n i
    have hl := mkN_lt f n
    show (mkN f n + _).testBit i = _
    cases hf : f n with
    | false =>
      simp only [Bool.false_eq_true, if_false, Nat.add_zero]
      rw [ih]
      by_cases h : i = n
      · subst h
        simp [hf]
      · by_cases h2 : i < n
        · simp [h2, show i < n + 1 by omega]
        · simp [h2, show ¬ i < n + 1 by omega]
    | true =>
      simp only [if_true]
      rw [Nat.add_comm, show 2 ^ n + mkN f n = 2 ^ n * 1 + mkN f n by omega, Nat.testBit_two_pow_mul_add 1 hl]
      by_cases h : i < n
      · rw [if_pos h, ih]
        simp [h, show i < n + 1 by omega]
      · rw [if_neg h]
        by_cases h2 : i = n
        · subst h2
          simp [hf]
        · rw [tb1]
          simp [show ¬ i < n + 1 by omega]
          omega
def mk64 (f : Nat → Bool) : Int64 := lN (mkN f 64)
theorem bs_mk (f : Nat → Bool) {i : Nat} (h : i < 64) : bs (mk64 f) i = f i := by
  unfold mk64
  rw [bs_lN h, mkN_bit]
  simp [h]
theorem mk_eq {x : Int64} {f : Nat → Bool} (h : ∀ i, i < 64 → bs x i = f i) : x = mk64 f := bs_ext (fun i hi => by rw [h i hi, bs_mk f hi])
theorem mk_congr {f g : Nat → Bool} (h : ∀ i, i < 64 → f i = g i) : mk64 f = mk64 g := bs_ext (fun i hi => by rw [bs_mk f hi, bs_mk g hi, h i hi])
theorem mk_bs (x : Int64) : mk64 (bs x) = x := bs_ext (fun i hi => bs_mk _ hi)
