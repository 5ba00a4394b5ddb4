/-! ends of methods; the library's counters -/
section EVR
variable {sc : Scr} {d M pc nx a b : Nat} {v : Value} {L : Lcs} {h h' : AHp}
theorem ev_ri {x y : Int32} (hc : cAt M pc = some (.ireturn, nx, a, 0, v)) (e : x = y) (eh : h = h') : Ek sc d M pc L [.int x] h (some (.int y)) h' 0 0 := by
  subst e; subst eh
  exact ev_rt hc rfl rfl
theorem ev_rz {x y : Int32} (hc : cAt M pc = some (.ireturn, nx, a, b, v)) (hx : x = 0 ∨ x = 1) (e : x = y) (eh : h = h') : Ek sc d M pc L [.int x] h (some (.int y)) h' 0 0 := by
  subst e; subst eh
  refine ev_rt hc rfl ?_
  rcases hx with rfl | rfl
  · show (bif Nat.beq b 0 || (decide ((0 : Int32) = 0) || decide ((0 : Int32) = 1)) then some (some (Value.int 0)) else none) = _
    simp
  · show (bif Nat.beq b 0 || (decide ((1 : Int32) = 0) || decide ((1 : Int32) = 1)) then some (some (Value.int 1)) else none) = _
    simp
theorem ev_rl {x y : Int64} (hc : cAt M pc = some (.lreturn, nx, a, b, v)) (e : x = y) (eh : h = h') : Ek sc d M pc L [.long x] h (some (.long y)) h' 0 0 := by
  subst e; subst eh
  exact ev_rt hc rfl rfl
theorem ev_rv (hc : cAt M pc = some (.return_, nx, a, b, v)) (eh : h = h') : Ek sc d M pc L [] h none h' 0 0 := by
  subst eh
  exact ev_rt hc rfl rfl
end EVR
theorem uN_eq (x : Int64) : x = lN x.toBitVec.toNat := wb_inj (by rw [wb_tb]; simp)
def ush (x : Int64) (k : Int32) : Int64 := (x.toUInt64 >>> (k.toInt64.toUInt64 &&& Int64.toUInt64 63)).toInt64
theorem ush_lN {n k : Nat} (hn : n < 2 ^ 64) (hk : k < 64) : ush (lN n) (nI k) = lN (n / 2 ^ k) := wb_shr hn hk
def bc1 (x : Int64) : Int64 := x - (ush x 1 &&& 6148914691236517205)
def bc2 (x : Int64) : Int64 := (x &&& 3689348814741910323) + (ush x 2 &&& 3689348814741910323)
def bc3 (x : Int64) : Int64 := (x + ush x 4) &&& 1085102592571150095
def bc4 (x : Int64) (k : Int32) : Int64 := x + ush x k
def bcF (x : Int64) : Int32 := (bc4 (bc4 (bc4 (bc3 (bc2 (bc1 x))) 8) 16) 32).toInt32 &&& 127
theorem bc1_lN {n : Nat} (hn : n < 2 ^ 64) : bc1 (lN n) = lN (w1 8 n) ∧ w1 8 n < 2 ^ 64 := by
  refine ⟨?_, Nat.lt_of_le_of_lt (Nat.sub_le _ _) hn⟩
  unfold bc1
  rw [show (1 : Int32) = nI 1 from rfl, ush_lN hn (by decide), show (6148914691236517205 : Int64) = lN 6148914691236517205 from by decide, wb_and (by omega) (by decide), lN_sub (Nat.le_trans Nat.and_le_left (by omega))]
  rfl
theorem bc2_lN {n : Nat} (hn : n < 2 ^ 64) : bc2 (lN n) = lN (w2 8 n) ∧ w2 8 n < 2 ^ 63 := by
  constructor
  · unfold bc2
    rw [show (2 : Int32) = nI 2 from rfl, ush_lN hn (by decide), show (3689348814741910323 : Int64) = lN 3689348814741910323 from by decide, wb_and (by omega) (by decide), wb_and (by omega) (by decide), lN_add]
    rfl
  · unfold w2
    have h1 : (n &&& mk8 51 8) ≤ mk8 51 8 := Nat.and_le_right
    have h2 : (n / 4 &&& mk8 51 8) ≤ mk8 51 8 := Nat.and_le_right
    have h3 : mk8 51 8 = 3689348814741910323 := by decide
    omega
theorem bc3_lN {n : Nat} (hn : n < 2 ^ 63) : bc3 (lN n) = lN (w3 8 n) := by
  unfold bc3
  rw [show (4 : Int32) = nI 4 from rfl, ush_lN (by omega) (by decide), lN_add, show (1085102592571150095 : Int64) = lN 1085102592571150095 from by decide, wb_and (by omega) (by decide)]
  rfl
theorem bc4_lN {n k : Nat} (hn : n < 2 ^ 64) (hk : k < 64) : bc4 (lN n) (nI k) = lN (n + n / 2 ^ k) := by
  unfold bc4
  rw [ush_lN hn hk, lN_add]
theorem bcF_eq (x : Int64) : bcF x = nI (pop x) := by
  have hn : x.toBitVec.toNat < 2 ^ 64 := x.toBitVec.isLt
  have hp : pop x = fb_ct x.toBitVec.toNat.testBit 64 := rfl
  rw [hp]
  have hx := uN_eq x
  generalize x.toBitVec.toNat = n at hn hx
  subst hx
  obtain ⟨s1, s2⟩ := swar n hn
  unfold bcF
  rw [(bc1_lN hn).1, (bc2_lN (bc1_lN hn).2).1, bc3_lN (bc2_lN (bc1_lN hn).2).2]
  have hy : w3 8 (w2 8 (w1 8 n)) = wT3 8 n := rfl
  rw [hy]
  generalize wT3 8 n = y at s1 s2
  dsimp only at s1
  rw [show (8 : Int32) = nI 8 from rfl, bc4_lN (by omega) (by decide), show (16 : Int32) = nI 16 from rfl, bc4_lN (by omega) (by decide), show (32 : Int32) = nI 32 from rfl, bc4_lN (by omega) (by decide), lN_i, show (127 : Int32) = nI (2 ^ 7 - 1) from rfl, fa_mask, ← s1]
theorem e_bitCountL (sc : Scr) (d : Nat) (h : AHp) (x : Int64) : Ev sc d m_JL_bitCount 0 (iniL 2 [.long x]) [] h (some (.int (nI (pop x)))) h := by
  refine ev_gos 99 rfl ?_
  exact ev_ri rfl (bcF_eq x) rfl
