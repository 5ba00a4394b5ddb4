/-! Land: what is asked of it -/
def rowS (W y : Nat) : Int64 := mk64 (fun i => decide (W * y ≤ i) && decide (i < W * y + W))
theorem bitm1 {k : Nat} (hk : k < 64) {i : Nat} (hi : i < 64) : bs (bit k - 1) i = decide (i < k) := by
  have hne : ¬ bit k = 0 := by
    intro e
    have := bs_bitc hk hk
    rw [e, bs_0] at this
    simp at this
  have hl : lo (bit k) = k := lo_of hk (by rw [bs_bitc hk hk]; simp) (fun q hq => by rw [bs_bitc hk (by omega)]; simp; omega)
  rw [sub1_bs hne hi, hl, bs_bitc hk hi]
  by_cases a : i < k
  · simp [a]
  · by_cases b : i = k
    · simp [b]
    · simp [a, b]
theorem row_eq {W y : Nat} (h : W * y + W ≤ 63) : (bit W - 1) <<< ((nI W * nI y).toInt64 &&& 63) = rowS W y := by
  apply mk_eq
  intro i hi
  rw [pk_mul, bs_shl _ (by omega) hi]
  by_cases a : W * y ≤ i
  · rw [bitm1 (by omega) (by omega)]
    simp [a]
    omega
  · simp [a]
def absd (a b : Nat) : Nat := if a ≤ b then b - a else a - b
def dist (W a b : Nat) : Nat := absd (a % W) (b % W) + absd (a / W) (b / W)
theorem abs_nI {a b : Nat} (ha : a < 2 ^ 30) (hb : b < 2 ^ 30) : (if (0 : Int32) ≤ nI a - nI b then nI a - nI b else 0 - (nI a - nI b)) = nI (absd a b) := by
  have e := pk_sub_toInt ha hb
  unfold absd
  by_cases h : a ≤ b
  · rw [if_pos h]
    by_cases h2 : a = b
    · subst h2
      rw [pk_sub (Nat.le_refl _), Nat.sub_self]
      rfl
    · rw [if_neg (by rw [Int32.le_iff_toInt_le, e]; show ¬ (0 : Int) ≤ _; omega)]
      rw [fa_eq, nI_toInt (by omega), fb_subI (by rw [e]; show _ ≤ (0 : Int) - _; omega) (by rw [e]; show (0 : Int) - _ < _; omega), e]
      show (0 : Int) - _ = _
      omega
  · rw [if_neg h, if_pos (by rw [Int32.le_iff_toInt_le, e]; show (0 : Int) ≤ _; omega), pk_sub (by omega)]
theorem nI_ne {a : Nat} (h0 : 0 < a) (h : a < 2 ^ 31) : ¬ nI a = 0 := nI_ne0 h0 h
def lim (k d : Nat) : Bool := decide (¬ ((limbs k >>> (nI d &&& 31)) &&& 1) = 0)
def dshp (W N : Nat) (rk : Int64) (k c : Nat) : Nat → Nat → Int64 → Int64
  | 0, _, g => if g &&& rk = 0 then g else 0
  | n + 1, d, g => bif lim k d then (if mvS W N (bit c) d = 0 then 0 else dshp W N rk k c n (d + 1) (g ||| mvS W N (bit c) d)) else dshp W N rk k c n (d + 1) g
/-- the shape that the class draws -/
def drwS (W N : Nat) (rk : Int64) (k c : Nat) : Int64 := dshp W N rk k c 4 1 (bit c)
section LND3
variable {sc : Scr} {d p pk ps W N : Nat} {h : AHp} {xw xh xp tw : Int32} {al le re rk : Int64} {sh : Nat → Int64}
theorem e_isRock (hL : h[p]? = some (Lnd xw xh xp tw al le re rk pk ps)) {k : Nat} (hk : k < 49) : Ev sc (d + 1) m_L_isRock 0 (iniL 2 [.ref p, .int (nI k)]) [] h (some (.int (b01 (bs rk k)))) h := by
  repeat (first | refine ev_gos 99 rfl ?_ | refine ev_gf2 rfl rfl rfl rfl ?_ | refine ev_gf2 rfl rfl (by with_reducible assumption) rfl ?_)
  refine ev_cs rfl rfl rfl (e_has sc d h rk hk) ?_
  exact ev_rz rfl (b01_or _) rfl rfl
theorem e_row (hL : h[p]? = some (Lnd xw xh xp tw al le re rk pk ps)) (hw : xw = nI W) {y : Nat} (hy : W * y + W ≤ 63) : Ev sc d m_L_row 0 (iniL 2 [.ref p, .int (nI y)]) [] h (some (.long (rowS W y))) h := by
  subst hw
  repeat (first | refine ev_gos 99 rfl ?_ | refine ev_gf2 rfl rfl rfl rfl ?_ | refine ev_gf2 rfl rfl (by with_reducible assumption) rfl ?_)
  exact ev_rl rfl (row_eq hy) rfl
theorem ev_id {sc : Scr} {d M pc nx a b : Nat} {v : Value} {L : Lcs} {S : Stk} {h h' : AHp} {r : Option Value} {c n : Nat} {x y : Int32} (hc : cAt M pc = some (.idiv, nx, a, b, v)) (hy : ¬ y = 0) (k : Ek sc d M nx L (.int (x / y) :: S) h r h' c n) : Ek sc d M pc L (.int y :: .int x :: S) h r h' c n := by
  refine ev_stp (pc' := nx) (L' := L) (S' := .int (x / y) :: S) ?_ k
  unfold stp
  simp only [hc]
  show aluS nx L (iiD (fun x y => x / y) (.int y :: .int x :: S)) = _
  unfold iiD
  have hb : (y == 0) = false := beq_eq_false_iff_ne.mpr hy
  simp only [hb]
  rfl
theorem ev_ire {sc : Scr} {d M pc nx a b : Nat} {v : Value} {L : Lcs} {S : Stk} {h h' : AHp} {r : Option Value} {c n : Nat} {x y : Int32} (hc : cAt M pc = some (.irem, nx, a, b, v)) (hy : ¬ y = 0) (k : Ek sc d M nx L (.int (x - x / y * y) :: S) h r h' c n) : Ek sc d M pc L (.int y :: .int x :: S) h r h' c n := by
  refine ev_stp (pc' := nx) (L' := L) (S' := .int (x - x / y * y) :: S) ?_ k
  unfold stp
  simp only [hc]
  show aluS nx L (iiD (fun x y => x - x / y * y) (.int y :: .int x :: S)) = _
  unfold iiD
  have hb : (y == 0) = false := beq_eq_false_iff_ne.mpr hy
  simp only [hb]
  rfl
theorem e_steps (hL : h[p]? = some (Lnd xw xh xp tw al le re rk pk ps)) (hw : xw = nI W) (hW : 1 ≤ W) (hW7 : W ≤ 7) {a b : Nat} (ha : a < 49) (hb : b < 49) : Ev sc d m_L_steps 0 (iniL 3 [.ref p, .int (nI a), .int (nI b)]) [] h (some (.int (nI (dist W a b)))) h := by
  subst hw
  have hz : ¬ nI W = 0 := nI_ne hW (by omega)
  repeat (first | refine ev_gos 99 rfl ?_ | refine ev_gf2 rfl rfl rfl rfl ?_ | refine ev_gf2 rfl rfl (by with_reducible assumption) rfl ?_)
  refine ev_ift rfl rfl rfl (c_ge ((nI_leI (by decide) (by omega)).mpr hW : nI 1 ≤ nI W)) ?_
  repeat (first | refine ev_gos 99 rfl ?_ | refine ev_gf2 rfl rfl rfl rfl ?_ | refine ev_gf2 rfl rfl (by with_reducible assumption) rfl ?_)
  refine ev_ire rfl hz ?_
  repeat (first | refine ev_gos 99 rfl ?_ | refine ev_gf2 rfl rfl rfl rfl ?_ | refine ev_gf2 rfl rfl (by with_reducible assumption) rfl ?_)
  refine ev_ire rfl hz ?_
  rw [pk_rem (by omega) hW (by omega), pk_rem (by omega) hW (by omega)]
  repeat (first | refine ev_gos 99 rfl ?_ | refine ev_gf2 rfl rfl rfl rfl ?_ | refine ev_gf2 rfl rfl (by with_reducible assumption) rfl ?_)
  refine ev_hw rfl rfl rfl ?_
  repeat (first | refine ev_gos 99 rfl ?_ | refine ev_gf2 rfl rfl rfl rfl ?_ | refine ev_gf2 rfl rfl (by with_reducible assumption) rfl ?_)
  refine ev_id rfl hz ?_
  repeat (first | refine ev_gos 99 rfl ?_ | refine ev_gf2 rfl rfl rfl rfl ?_ | refine ev_gf2 rfl rfl (by with_reducible assumption) rfl ?_)
  refine ev_id rfl hz ?_
  rw [pk_div (by omega) hW (by omega), pk_div (by omega) hW (by omega)]
  repeat (first | refine ev_gos 99 rfl ?_ | refine ev_gf2 rfl rfl rfl rfl ?_ | refine ev_gf2 rfl rfl (by with_reducible assumption) rfl ?_)
  refine ev_hw rfl rfl rfl ?_
  repeat (first | refine ev_gos 99 rfl ?_ | refine ev_gf2 rfl rfl rfl rfl ?_ | refine ev_gf2 rfl rfl (by with_reducible assumption) rfl ?_)
  refine ev_ri rfl ?_ rfl
  have h1 : a % W < 2 ^ 30 := Nat.lt_of_le_of_lt (Nat.mod_le a W) (by omega)
  have h2 : b % W < 2 ^ 30 := Nat.lt_of_le_of_lt (Nat.mod_le b W) (by omega)
  have h3 : a / W < 2 ^ 30 := Nat.lt_of_le_of_lt (Nat.div_le_self a W) (by omega)
  have h4 : b / W < 2 ^ 30 := Nat.lt_of_le_of_lt (Nat.div_le_self b W) (by omega)
  unfold dist
  rw [← nI_add, ← abs_nI h1 h2, ← abs_nI h3 h4]
theorem e_shape (hL : h[p]? = some (Lnd xw xh xp tw al le re rk pk ps)) (hs : h[ps]? = some (aJ 245 sh)) {k c : Nat} (hk : k < 5) (hc : c < 49) : Ev sc d m_L_shape 0 (iniL 3 [.ref p, .int (nI k), .int (nI c)]) [] h (some (.long (sh (k * 49 + c)))) h := by
  repeat (first | refine ev_gos 99 rfl ?_ | refine ev_gf2 rfl rfl rfl rfl ?_ | refine ev_gf2 rfl rfl (by with_reducible assumption) rfl ?_)
  refine ev_iff rfl rfl rfl (j_lt (nI_pos (by omega))) ?_
  repeat (first | refine ev_gos 99 rfl ?_ | refine ev_gf2 rfl rfl rfl rfl ?_ | refine ev_gf2 rfl rfl (by with_reducible assumption) rfl ?_)
  refine ev_iff rfl rfl rfl (d_ge (nI_lt3 (by omega) (by decide) (by omega) : ¬ nI 5 ≤ nI k)) ?_
  repeat (first | refine ev_gos 99 rfl ?_ | refine ev_gf2 rfl rfl rfl rfl ?_ | refine ev_gf2 rfl rfl (by with_reducible assumption) rfl ?_)
  refine ev_iff rfl rfl rfl (j_lt (nI_pos (by omega))) ?_
  repeat (first | refine ev_gos 99 rfl ?_ | refine ev_gf2 rfl rfl rfl rfl ?_ | refine ev_gf2 rfl rfl (by with_reducible assumption) rfl ?_)
  refine ev_ift rfl rfl rfl (c_lt ((nI_ltI (by omega) (by decide)).mpr hc : nI c < nI 49)) ?_
  repeat (first | refine ev_gos 99 rfl ?_ | refine ev_gf2 rfl rfl rfl rfl ?_ | refine ev_gf2 rfl rfl (by with_reducible assumption) rfl ?_)
  have e : nI k * 49 + nI c = nI (k * 49 + c) := by rw [show (49 : Int32) = nI 49 from rfl, pk_mul, nI_add]
  refine ev_la rfl hs (inB_of (by show 0 ≤ (nI k * 49 + nI c).toInt; rw [e, nI_toInt (by omega)]; omega) (by show (nI k * 49 + nI c).toInt < _; rw [e, nI_toInt (by omega)]; omega)) ?_
  exact ev_rl rfl (by show sh (nI k * 49 + nI c).toNatClampNeg = _; rw [e, nI_clamp (by omega)]) rfl
theorem e_drawnShape_loop (hL : h[p]? = some (Lnd xw xh xp tw al le re rk pk ps)) (hw : xw = nI W) (ha : al = allS N) (hl : le = lefS W N) (hr : re = rigS W N) (hro : rd sc h 1001 = some (aI 5 limbs)) {k c : Nat} (hk : k < 5) : ∀ (n i : Nat) (g : Int64), i + n = 5 → 1 ≤ i → Ev sc (d + 1) m_L_drawnShape 13 [some (.ref p), some (.int (nI k)), some (.int (nI c)), some (.long (bit c)), none, some (.long g), none, some (.int (nI i)), none, none] [.int 5, .int (nI i)] h (some (.long (dshp W N rk k c n i g))) h := by
  intro n
  induction n with
  | zero =>
    intro i g hi h1
    have e : i = 5 := by omega
    subst e
    refine ev_ift rfl rfl rfl (c_ge (by decide : (5 : Int32) ≤ nI 5)) ?_
    repeat (first | refine ev_gos 99 rfl ?_ | refine ev_gf2 rfl rfl rfl rfl ?_ | refine ev_gf2 rfl rfl (by with_reducible assumption) rfl ?_)
    by_cases hz : g &&& rk = 0
    · refine ev_iff rfl rfl rfl (j_ne (lc_eq.mpr hz)) ?_
      repeat (first | refine ev_gos 99 rfl ?_ | refine ev_gf2 rfl rfl rfl rfl ?_ | refine ev_gf2 rfl rfl (by with_reducible assumption) rfl ?_)
      exact ev_rl rfl (by show g = if g &&& rk = 0 then g else 0; rw [if_pos hz]) rfl
    · refine ev_ift rfl rfl rfl (i_ne (fun z => hz (lc_eq.mp z))) ?_
      repeat (first | refine ev_gos 99 rfl ?_ | refine ev_gf2 rfl rfl rfl rfl ?_ | refine ev_gf2 rfl rfl (by with_reducible assumption) rfl ?_)
      exact ev_rl rfl (by show (0 : Int64) = if g &&& rk = 0 then g else 0; rw [if_neg hz]) rfl
  | succ n ih =>
    intro i g hi h1
    refine ev_iff rfl rfl rfl (d_ge (nI_lt3 (by omega) (by decide) (by omega) : ¬ nI 5 ≤ nI i)) ?_
    refine ev_hr rfl rfl rfl ?_
    repeat (first | refine ev_gos 99 rfl ?_ | refine ev_gf2 rfl rfl rfl rfl ?_ | refine ev_gf2 rfl rfl (by with_reducible assumption) rfl ?_)
    refine ev_ir rfl hro (inB_of (by rw [nI_toInt (by omega)]; omega) (by rw [nI_toInt (by omega)]; omega)) ?_
    rw [nI_clamp (by omega)]
    repeat (first | refine ev_gos 99 rfl ?_ | refine ev_gf2 rfl rfl rfl rfl ?_ | refine ev_gf2 rfl rfl (by with_reducible assumption) rfl ?_)
    cases hlm : lim k i with
    | false =>
      have hz : ((limbs k >>> (nI i &&& 31)) &&& 1) = 0 := Classical.not_not.mp (of_decide_eq_false hlm)
      refine ev_ift rfl rfl rfl (i_eq hz) ?_
      repeat (first | refine ev_gos 99 rfl ?_ | refine ev_gf2 rfl rfl rfl rfl ?_ | refine ev_gf2 rfl rfl (by with_reducible assumption) rfl ?_)
      have h3 := ih (i + 1) g (by omega) (by omega)
      rw [← nI_1] at h3
      have e : dshp W N rk k c (n + 1) i g = dshp W N rk k c n (i + 1) g := by
        show (bif lim k i then _ else _) = _
        rw [hlm]
        rfl
      rw [e]
      exact ev_wk2 h3 rfl ⟨rfl, rfl, rfl, rfl, rfl, rfl, trivial⟩
    | true =>
      have hz : ¬ ((limbs k >>> (nI i &&& 31)) &&& 1) = 0 := of_decide_eq_true hlm
      refine ev_iff rfl rfl rfl (j_eq hz) ?_
      repeat (first | refine ev_gos 99 rfl ?_ | refine ev_gf2 rfl rfl rfl rfl ?_ | refine ev_gf2 rfl rfl (by with_reducible assumption) rfl ?_)
      refine ev_cv rfl rfl hL (e_moved hL hw ha hl hr (bit c) (k := i) h1 (by omega)) ?_
      repeat (first | refine ev_gos 99 rfl ?_ | refine ev_gf2 rfl rfl rfl rfl ?_ | refine ev_gf2 rfl rfl (by with_reducible assumption) rfl ?_)
      have e : dshp W N rk k c (n + 1) i g = if mvS W N (bit c) i = 0 then 0 else dshp W N rk k c n (i + 1) (g ||| mvS W N (bit c) i) := by
        show (bif lim k i then _ else _) = _
        rw [hlm]
        rfl
      rw [e]
      by_cases hm : mvS W N (bit c) i = 0
      · rw [if_pos hm]
        refine ev_iff rfl rfl rfl (j_ne (lc_eq.mpr hm)) ?_
        repeat (first | refine ev_gos 99 rfl ?_ | refine ev_gf2 rfl rfl rfl rfl ?_ | refine ev_gf2 rfl rfl (by with_reducible assumption) rfl ?_)
        exact ev_rl rfl rfl rfl
      · rw [if_neg hm]
        refine ev_ift rfl rfl rfl (i_ne (fun z => hm (lc_eq.mp z))) ?_
        repeat (first | refine ev_gos 99 rfl ?_ | refine ev_gf2 rfl rfl rfl rfl ?_ | refine ev_gf2 rfl rfl (by with_reducible assumption) rfl ?_)
        have h3 := ih (i + 1) (g ||| mvS W N (bit c) i) (by omega) (by omega)
        rw [← nI_1] at h3
        exact ev_wk2 h3 rfl ⟨rfl, rfl, rfl, rfl, rfl, rfl, trivial⟩
theorem e_drawnShape (hL : h[p]? = some (Lnd xw xh xp tw al le re rk pk ps)) (hw : xw = nI W) (ha : al = allS N) (hl : le = lefS W N) (hr : re = rigS W N) (hro : rd sc h 1001 = some (aI 5 limbs)) {k c : Nat} (hk : k < 5) : Ev sc (d + 1) m_L_drawnShape 0 (iniL 10 [.ref p, .int (nI k), .int (nI c)]) [] h (some (.long (drwS W N rk k c))) h := by
  repeat (first | refine ev_gos 99 rfl ?_ | refine ev_gf2 rfl rfl rfl rfl ?_ | refine ev_gf2 rfl rfl (by with_reducible assumption) rfl ?_)
  exact e_drawnShape_loop hL hw ha hl hr hro hk 4 1 (bit c) rfl (by decide)
end LND3
