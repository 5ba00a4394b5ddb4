/-! Long.bitCount counts the bits -/
theorem and_blk {w a b c d : Nat} (ha : a < 2 ^ w) (hc : c < 2 ^ w) : (a + 2 ^ w * b) &&& (c + 2 ^ w * d) = (a &&& c) + 2 ^ w * (b &&& d) := by
  apply Nat.eq_of_testBit_eq
  intro i
  have hac : a &&& c < 2 ^ w := Nat.and_lt_two_pow _ hc
  rw [Nat.testBit_and, Nat.add_comm a, Nat.add_comm c, Nat.add_comm (a &&& c), Nat.testBit_two_pow_mul_add _ ha, Nat.testBit_two_pow_mul_add _ hc, Nat.testBit_two_pow_mul_add _ hac]
  split
  · rw [Nat.testBit_and]
  · rw [Nat.testBit_and]
def mk8 (m : Nat) : Nat → Nat
  | 0 => 0
  | k + 1 => m + 256 * mk8 m k
def w1 (k n : Nat) : Nat := n - (n / 2 &&& mk8 85 k)
def w2 (k n : Nat) : Nat := (n &&& mk8 51 k) + (n / 4 &&& mk8 51 k)
def w3 (k n : Nat) : Nat := (n + n / 16) &&& mk8 15 k
def g1 (b : Nat) : Nat := b - (b / 2 &&& 85)
def g2 (b : Nat) : Nat := (b &&& 51) + (b / 4 &&& 51)
theorem t1 : ∀ b, b < 256 → ∀ t, t < 2 → (b / 2 + 128 * t) &&& 85 = b / 2 &&& 85 := by decide +kernel
theorem t2 : ∀ b, b < 256 → ∀ t, t < 4 → (b / 4 + 64 * t) &&& 51 = b / 4 &&& 51 := by decide +kernel
theorem t3 : ∀ b, b < 69 → ∀ t, t < 5 → (b + b / 16 + 16 * t) &&& 15 = (b + b / 16) &&& 15 := by decide +kernel
theorem t4 : ∀ b, b < 256 → g2 (g1 b) < 69 ∧ g2 (g1 b) % 16 < 5 ∧ (g2 (g1 b) + g2 (g1 b) / 16) &&& 15 = fb_ct b.testBit 8 := by decide +kernel
theorem t5 : ∀ b, b < 256 → (b / 2 &&& 85) ≤ b := by decide +kernel
theorem w1_blk {k b n : Nat} (hb : b < 256) : w1 (k + 1) (b + 256 * n) = g1 b + 256 * w1 k n := by
  unfold w1 g1
  rw [show mk8 85 (k + 1) = 85 + 256 * mk8 85 k from rfl]
  have e1 : (b + 256 * n) / 2 = (b / 2 + 128 * (n % 2)) + 2 ^ 8 * (n / 2) := by omega
  rw [e1, show (256 : Nat) = 2 ^ 8 from rfl, and_blk (by omega) (by omega), t1 b hb _ (by omega)]
  have e2 := t5 b hb
  have e3 : (n / 2 &&& mk8 85 k) ≤ n := Nat.le_trans (Nat.and_le_left) (by omega)
  omega
theorem w2_blk {k c n : Nat} (hc : c < 256) : w2 (k + 1) (c + 256 * n) = g2 c + 256 * w2 k n := by
  unfold w2 g2
  rw [show mk8 51 (k + 1) = 51 + 256 * mk8 51 k from rfl]
  have e1 : (c + 256 * n) / 4 = (c / 4 + 64 * (n % 4)) + 2 ^ 8 * (n / 4) := by omega
  rw [e1, show (256 : Nat) = 2 ^ 8 from rfl, and_blk (by omega) (by omega), and_blk (by omega) (by omega), t2 c hc _ (by omega)]
  omega
theorem w3_blk {k e f : Nat} (he : e < 69) (hf : f % 16 < 5) : w3 (k + 1) (e + 256 * f) = ((e + e / 16) &&& 15) + 256 * w3 k f := by
  unfold w3
  rw [show mk8 15 (k + 1) = 15 + 256 * mk8 15 k from rfl]
  have e1 : e + 256 * f + (e + 256 * f) / 16 = (e + e / 16 + 16 * (f % 16)) + 2 ^ 8 * (f + f / 16) := by omega
  rw [e1, show (256 : Nat) = 2 ^ 8 from rfl, and_blk (by omega) (by omega), t3 e he _ hf]
def wT3 (k n : Nat) : Nat := w3 k (w2 k (w1 k n))
theorem g1_lt {b : Nat} (h : b < 256) : g1 b < 256 := Nat.lt_of_le_of_lt (Nat.sub_le _ _) h
theorem w2_nib : ∀ k n, w2 k (w1 k n) % 16 < 5
  | 0, n => by
    show ((w1 0 n &&& 0) + (w1 0 n / 4 &&& 0)) % 16 < 5
    rw [Nat.and_zero, Nat.and_zero]
    decide
  | k + 1, n => by
    have e : n = n % 256 + 256 * (n / 256) := by omega
    have hb : n % 256 < 256 := by omega
    rw [e, w1_blk hb, w2_blk (g1_lt hb)]
    have := (t4 _ hb).2.1
    omega
theorem wT_blk {k b n : Nat} (hb : b < 256) : wT3 (k + 1) (b + 256 * n) = fb_ct b.testBit 8 + 256 * wT3 k n := by
  unfold wT3
  rw [w1_blk hb, w2_blk (g1_lt hb), w3_blk (t4 b hb).1 (w2_nib k n), (t4 b hb).2.2]
theorem ct_blk {b n m : Nat} (hb : b < 256) : fb_ct (b + 256 * n).testBit (8 + m) = fb_ct b.testBit 8 + fb_ct n.testBit m := by
  rw [fb_ct_split]
  congr 1
  · apply fb_ct_cong
    intro k hk
    rw [Nat.add_comm, show (256 : Nat) = 2 ^ 8 from rfl, Nat.testBit_two_pow_mul_add _ hb, if_pos hk]
  · apply fb_ct_cong
    intro k hk
    rw [Nat.add_comm b, show (256 : Nat) = 2 ^ 8 from rfl, Nat.testBit_two_pow_mul_add _ hb, if_neg (by omega)]
    congr 1
    omega
/-- by bytes: what stands behind the third stage, and the count -/
theorem bytes8 (n : Nat) (hn : n < 2 ^ 64) : ∃ p0 p1 p2 p3 p4 p5 p6 p7 : Nat, p0 ≤ 8 ∧ p1 ≤ 8 ∧ p2 ≤ 8 ∧ p3 ≤ 8 ∧ p4 ≤ 8 ∧ p5 ≤ 8 ∧ p6 ≤ 8 ∧ p7 ≤ 8 ∧
    wT3 8 n = p0 + 256 * (p1 + 256 * (p2 + 256 * (p3 + 256 * (p4 + 256 * (p5 + 256 * (p6 + 256 * p7)))))) ∧ fb_ct n.testBit 64 = p0 + (p1 + (p2 + (p3 + (p4 + (p5 + (p6 + p7)))))) := by
  have step : ∀ k x : Nat, ∃ p y : Nat, y = x / 256 ∧ p ≤ 8 ∧ wT3 (k + 1) x = p + 256 * wT3 k y ∧ ∀ m, fb_ct x.testBit (8 + m) = p + fb_ct y.testBit m := by
    intro k x
    have e : x = x % 256 + 256 * (x / 256) := by omega
    have hb : x % 256 < 256 := by omega
    refine ⟨fb_ct (x % 256).testBit 8, x / 256, rfl, fb_ct_le _ _, ?_, fun m => ?_⟩
    · conv => lhs; rw [e]
      exact wT_blk hb
    · conv => lhs; rw [e]
      exact ct_blk hb
  obtain ⟨p0, y0, z0, a0, b0, c0⟩ := step 7 n
  obtain ⟨p1, y1, z1, a1, b1, c1⟩ := step 6 y0
  obtain ⟨p2, y2, z2, a2, b2, c2⟩ := step 5 y1
  obtain ⟨p3, y3, z3, a3, b3, c3⟩ := step 4 y2
  obtain ⟨p4, y4, z4, a4, b4, c4⟩ := step 3 y3
  obtain ⟨p5, y5, z5, a5, b5, c5⟩ := step 2 y4
  obtain ⟨p6, y6, z6, a6, b6, c6⟩ := step 1 y5
  obtain ⟨p7, y7, z7, a7, b7, c7⟩ := step 0 y6
  have hz : wT3 0 y7 = 0 := by show (_ &&& 0) = 0; rw [Nat.and_zero]
  refine ⟨p0, p1, p2, p3, p4, p5, p6, p7, a0, a1, a2, a3, a4, a5, a6, a7, ?_, ?_⟩
  · rw [b0, b1, b2, b3, b4, b5, b6, b7, hz, Nat.mul_zero, Nat.add_zero]
  · rw [show (64 : Nat) = 8 + 56 from rfl, c0, show (56 : Nat) = 8 + 48 from rfl, c1, show (48 : Nat) = 8 + 40 from rfl, c2, show (40 : Nat) = 8 + 32 from rfl, c3, show (32 : Nat) = 8 + 24 from rfl, c4, show (24 : Nat) = 8 + 16 from rfl, c5, show (16 : Nat) = 8 + 8 from rfl, c6, show (8 : Nat) = 8 + 0 from rfl, c7]
    rfl
theorem dv1 {p q : Nat} (h : p ≤ 8) : (p + 256 * q) / 256 = q := by omega
theorem dv2 {a b c : Nat} (ha : a ≤ 16) (hb : b ≤ 16) : (a + 256 * (b + 256 * c)) / 65536 = c := by omega
theorem dv3 {a b c d r : Nat} (ha : a ≤ 32) (hb : b ≤ 32) (hc : c ≤ 32) (hd : d ≤ 32) : (a + 256 * (b + 256 * (c + 256 * (d + 256 * r)))) / 4294967296 = r := by omega
theorem dv4 {a b x y : Nat} (ha : a ≤ 32) (hb : b ≤ 32) : (a + 256 * x + (b + 256 * y)) % 128 = a + b := by omega
theorem ds1 {p0 p1 p2 q1 q2 q3 : Nat} (h1 : q1 = p1 + 256 * q2) (h2 : q2 = p2 + 256 * q3) : p0 + 256 * q1 + q1 = (p0 + p1) + 256 * ((p1 + p2) + 256 * (q2 + q3)) := by omega
theorem ds2 {a b q2 q3 c : Nat} (h : q2 + q3 = c) : (a + 256 * (b + 256 * c)) + c = (a + 256 * (b + 256 * (q2 + q3))) + (q2 + q3) := by rw [h]
theorem swar (n : Nat) (hn : n < 2 ^ 64) : (let y := wT3 8 n; let z1 := y + y / 256; let z2 := z1 + z1 / 65536; (z2 + z2 / 4294967296) % 128) = fb_ct n.testBit 64 ∧ wT3 8 n < 2 ^ 60 := by
  obtain ⟨p0, p1, p2, p3, p4, p5, p6, p7, a0, a1, a2, a3, a4, a5, a6, a7, h1, h2⟩ := bytes8 n hn
  obtain ⟨q7, e7⟩ : ∃ q, q = p7 + 256 * 0 := ⟨_, rfl⟩
  obtain ⟨q6, e6⟩ : ∃ q, q = p6 + 256 * q7 := ⟨_, rfl⟩
  obtain ⟨q5, e5⟩ : ∃ q, q = p5 + 256 * q6 := ⟨_, rfl⟩
  obtain ⟨q4, e4⟩ : ∃ q, q = p4 + 256 * q5 := ⟨_, rfl⟩
  obtain ⟨q3, e3⟩ : ∃ q, q = p3 + 256 * q4 := ⟨_, rfl⟩
  obtain ⟨q2, e2⟩ : ∃ q, q = p2 + 256 * q3 := ⟨_, rfl⟩
  obtain ⟨q1, e1⟩ : ∃ q, q = p1 + 256 * q2 := ⟨_, rfl⟩
  have hy : wT3 8 n = p0 + 256 * q1 := by rw [h1, e1, e2, e3, e4, e5, e6, e7, Nat.mul_zero, Nat.add_zero]
  have b7 : q7 ≤ 8 := by omega
  have b6 : q6 ≤ 257 * 8 := by clear hy h1 h2 e1 e2 e3 e4 e5; omega
  have b5 : q5 ≤ 8 + 256 * (257 * 8) := by clear hy h1 h2 e1 e2 e3 e4 e6; omega
  have b4 : q4 ≤ 8 + 256 * (8 + 256 * (257 * 8)) := by clear hy h1 h2 e1 e2 e3 e5 e6; omega
  have b3 : q3 ≤ 8 + 256 * (8 + 256 * (8 + 256 * (257 * 8))) := by clear hy h1 h2 e1 e2 e4 e5 e6; omega
  have b2 : q2 ≤ 8 + 256 * (8 + 256 * (8 + 256 * (8 + 256 * (257 * 8)))) := by clear hy h1 h2 e1 e3 e4 e5 e6; omega
  have b1 : q1 ≤ 8 + 256 * (8 + 256 * (8 + 256 * (8 + 256 * (8 + 256 * (257 * 8))))) := by clear hy h1 h2 e2 e3 e4 e5 e6; omega
  rw [hy, h2]
  refine ⟨?_, by clear hy h1 h2 e1 e2 e3 e4 e5 e6; omega⟩
  clear h1 h2 hy b1 b2 b3 b4 b5 b6 b7
  dsimp only
  rw [dv1 a0, ds1 e1 e2, dv2 (by omega) (by omega)]
  have f : (p0 + p1) + 256 * ((p1 + p2) + 256 * (q2 + q3)) + (q2 + q3) = (p0 + p1 + p2 + p3) + 256 * ((p1 + p2 + p3 + p4) + 256 * ((p2 + p3 + p4 + p5) + 256 * ((p3 + p4 + p5 + p6) + 256 * (q4 + q5 + q6 + q7)))) := by
    clear e1 a0 a1 a2 a3 a4 a5 a6 a7
    omega
  rw [f, dv3 (by omega) (by omega) (by omega) (by omega)]
  have g : q4 + q5 + q6 + q7 = (p4 + p5 + p6 + p7) + 256 * (q5 + q6 + q7) := by
    clear e1 e2 e3 f
    omega
  rw [g, dv4 (by omega) (by omega)]
  omega
