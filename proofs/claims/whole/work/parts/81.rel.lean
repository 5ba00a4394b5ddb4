/-! both readers side by side: what holds -/
def RR (r : RS) (rd : Nat → Int32) (W H P R : Nat) : Prop :=
  (r.1 19 = nI W ∧ rd 0 = nI W) ∧ (r.1 20 = nI H ∧ rd 1 = nI H) ∧ (r.1 21 = nI P ∧ rd 2 = nI P) ∧ rd 3 = nI R ∧ W ≤ 7 ∧ H ≤ 7 ∧ P ≤ 7 ∧ R ≤ 8 ∧ ((W = 0 ∧ H = 0 ∧ P = 0 ∧ R = 0) ∨ (2 ≤ W ∧ 2 ≤ H)) ∧ (∃ k, k ≤ 4 ∧ r.1 22 = nI k ∧ rd 4 = nI k) ∧ (∃ b, r.1 5 = b01 b ∧ rd 20 = b01 b) ∧ (∀ p, p < P → ∃ k, k < 5 ∧ r.2.2.1 p = nI k ∧ rd (5 + p) = nI k) ∧ (∀ j, j < R → ∃ c, c < W * H ∧ rd (12 + j) = nI c) ∧ r.2.1 7 = setR rd R ∧ pop (r.2.1 7) = R
theorem RR_q {r r' : RS} {rd : Nat → Int32} {W H P R : Nat} (h : RR r rd W H P R) (h19 : r'.1 19 = r.1 19) (h20 : r'.1 20 = r.1 20) (h21 : r'.1 21 = r.1 21) (h22 : r'.1 22 = r.1 22) (h5 : r'.1 5 = r.1 5) (h7 : r'.2.1 7 = r.2.1 7) (hk : r'.2.2.1 = r.2.2.1) : RR r' rd W H P R := by
  obtain ⟨a1, a2, a3, a4, a5, a6, a7, a8, a9, a10, a11, a12, a13, a14, a15⟩ := h
  exact ⟨⟨h19.trans a1.1, a1.2⟩, ⟨h20.trans a2.1, a2.2⟩, ⟨h21.trans a3.1, a3.2⟩, a4, a5, a6, a7, a8, a9, by rw [h22]; exact a10, by rw [h5]; exact a11, by rw [hk]; exact a12, a13, h7.trans a14, by rw [h7]; exact a15⟩
/-- how a clause ends, on both sides -/
def OUT (n i : Nat) (bz : Nat → Int64) (r : RS) (ok : Bool) (a b : Nat) (wr : Int32) (rd : Nat → Int32) : Prop := (ok = true ∧ r.1 1 = 0 ∧ (r.1 2 = -1 ∧ r.2.2.2 = bz ∧ i < a) ∧ r.1 3 = nI a ∧ a ≤ n ∧ ∃ W H P R, RR r rd W H P R) ∨ (ok = false ∧ ∃ k, 1 ≤ k ∧ k ≤ 4 ∧ wr = nI k ∧ FL r (nI k) (nI b))
theorem nmC_r (t : Nat → Int32) (n i : Nat) (x y : Int32) (h : ¬ nmC t n i x y = 0) : 1 ≤ nmC t n i x y ∧ nmC t n i x y ≤ 4 := by
  have := nmC_lt t n i x y
  omega
theorem fo_cong {α : Type} {f g : Nat → α → α} : ∀ (n : Nat) (a : α), (∀ j b, j < n → f j b = g j b) → fo f n a = fo g n a
  | 0, _, _ => rfl
  | n + 1, a, h => by
    show f n (fo f n a) = g n (fo g n a)
    rw [fo_cong n a (fun j b hj => h j b (by omega)), h n _ (by omega)]
theorem setR_cong {g g2 : Nat → Int32} {R : Nat} (h : ∀ j, j < R → g2 (12 + j) = g (12 + j)) : setR g2 R = setR g R := fo_cong R 0 (fun j b hj => by rw [h j hj])
theorem setR_bs {g : Nat → Int32} {R : Nat} (hg : ∀ j, j < R → ∃ c, c < 49 ∧ g (12 + j) = nI c) (i : Nat) : bs (setR g R) i = true ↔ ∃ j, j < R ∧ g (12 + j) = nI i ∧ i < 49 := by
  induction R with
  | zero =>
    have e : bs (setR g 0) i = false := bs_0 i
    rw [e]
    exact ⟨fun z => (by cases z), fun ⟨j, j1, _⟩ => absurd j1 (Nat.not_lt_zero j)⟩
  | succ R ih =>
    have ih := ih (fun j hj => hg j (by omega))
    obtain ⟨c, c1, c2⟩ := hg R (by omega)
    have e : setR g (R + 1) = setR g R ||| bit (g (12 + R)).toNatClampNeg := rfl
    rw [e, bs_or, Bool.or_eq_true, ih, c2, nI_clamp (by omega), bs_bit' (by omega)]
    constructor
    · rintro (⟨j, j1, j2⟩ | q)
      · exact ⟨j, by omega, j2⟩
      · have := of_decide_eq_true q
        subst this
        exact ⟨R, by omega, c2, c1⟩
    · rintro ⟨j, j1, j2, j3⟩
      by_cases ej : j = R
      · subst ej
        rw [c2] at j2
        have := (nI_eq (by omega) (by omega)).mp j2
        exact Or.inr (decide_eq_true this.symm)
      · exact Or.inl ⟨j, by omega, j2, j3⟩
theorem pop_or_bit {x : Int64} {c : Nat} (hc : c < 64) (h : bs x c = false) : pop (x ||| bit c) = pop x + 1 := by
  have e : pop (x ||| bit c) = fb_ct (fun k => bs x k || bs (bit c) k) 64 := fb_ct_cong (fun k _ => bs_or _ _ _)
  rw [e, fb_ct_or (fun k hk z => by
    rw [bs_bitc hc hk] at z
    have := of_decide_eq_true z.2
    subst this
    rw [h] at z
    exact absurd z.1 (by decide))]
  show pop x + pop (bit c) = _
  rw [show pop (bit c) = 1 from pop_bit hc]
/-! the class's clauses, case by case -/
section CLC
variable {t : Nat → Int32} {n : Nat} {r : RS} {i : Nat}
theorem ps_bad (h : ¬ r.1 21 < 7) (h0 : r.1 1 = 0) : FL (psR t n r i) 3 (nI (i - 1)) := by
  unfold psR
  dsimp only
  rw [if_neg h]
  have z := FL_nm (t := t) (n := n) (i := i) (by decide) (FL_cm0 h0 3 (nI (i - 1))) 0 4
  rw [if_neg (by rw [z.1]; decide)]
  exact z
theorem ps_num (h : r.1 21 < 7) (h0 : r.1 1 = 0) (hc : ¬ nmC t n i 0 4 = 0) : FL (psR t n r i) (nI (nmC t n i 0 4)) (nI (skN t n i)) := by
  unfold psR
  dsimp only
  rw [if_pos h]
  have z := FL_nm0 h0 hc
  rw [if_neg (by rw [z.1]; exact nmC_3 t n i 0 4 hc)]
  exact z
theorem ps_ok (h : r.1 21 < 7) (h0 : r.1 1 = 0) (hc : nmC t n i 0 4 = 0) : psR t n r i = sR (sRk (sR (sR r 4 (nI (skN t n i))) 3 (nI (nE t n i))) (upd r.2.2.1 (r.1 21).toNatClampNeg (nV t n i))) 21 (r.1 21 + 1) := by
  unfold psR
  dsimp only
  rw [if_pos h, nm_okR hc, if_pos (show (sR (sR r 4 (nI (skN t n i))) 3 (nI (nE t n i))).1 1 = 0 from h0)]
theorem wd_bad (h : ¬ r.1 5 = 0) (h0 : r.1 1 = 0) : FL (wdR t n r i) 3 (nI (i - 1)) := by
  unfold wdR
  dsimp only
  rw [if_neg h]
  have z := FL_nm (t := t) (n := n) (i := i) (by decide) (FL_cm0 h0 3 (nI (i - 1))) 0 4
  rw [if_neg (by rw [z.1]; decide)]
  exact z
theorem wd_num (h : r.1 5 = 0) (h0 : r.1 1 = 0) (hc : ¬ nmC t n i 0 4 = 0) : FL (wdR t n r i) (nI (nmC t n i 0 4)) (nI (skN t n i)) := by
  unfold wdR
  dsimp only
  rw [if_pos h]
  have z := FL_nm0 h0 hc
  rw [if_neg (by rw [z.1]; exact nmC_3 t n i 0 4 hc)]
  exact z
theorem wd_ok (h : r.1 5 = 0) (h0 : r.1 1 = 0) (hc : nmC t n i 0 4 = 0) : wdR t n r i = sR (sR (sR (sR r 4 (nI (skN t n i))) 3 (nI (nE t n i))) 22 (nV t n i)) 5 1 := by
  unfold wdR
  dsimp only
  rw [if_pos h, nm_okR hc, if_pos (show (sR (sR r 4 (nI (skN t n i))) 3 (nI (nE t n i))).1 1 = 0 from h0)]
theorem sd_bad (h : ¬ r.1 19 = 0) (h0 : r.1 1 = 0) : FL (sdR t n r i) 3 (nI (i - 1)) := by
  unfold sdR
  dsimp only
  rw [if_neg h]
  have z := FL_nm (t := t) (n := n) (i := nE t n i) (by decide) (FL_nm (t := t) (n := n) (i := i) (by decide) (FL_cm0 h0 3 (nI (i - 1))) 2 7) 2 7
  rw [if_neg (by rw [z.1]; decide)]
  exact z
theorem sd_n1 (h : r.1 19 = 0) (h0 : r.1 1 = 0) (hc : ¬ nmC t n i 2 7 = 0) : FL (sdR t n r i) (nI (nmC t n i 2 7)) (nI (skN t n i)) := by
  unfold sdR
  dsimp only
  rw [if_pos h]
  have z := FL_nm (t := t) (n := n) (i := nE t n i) (nmC_3 t n i 2 7 hc) (FL_nm0 h0 hc) 2 7
  rw [if_neg (by rw [z.1]; exact nmC_3 t n i 2 7 hc)]
  exact z
theorem sd_n2 (h : r.1 19 = 0) (h0 : r.1 1 = 0) (hc : nmC t n i 2 7 = 0) (hc2 : ¬ nmC t n (nE t n i) 2 7 = 0) : FL (sdR t n r i) (nI (nmC t n (nE t n i) 2 7)) (nI (skN t n (nE t n i))) := by
  unfold sdR
  dsimp only
  rw [if_pos h, nm_okR hc]
  have z := FL_nm0 (r := sR (sR r 4 (nI (skN t n i))) 3 (nI (nE t n i))) h0 hc2
  rw [if_neg (by rw [z.1]; exact nmC_3 t n _ 2 7 hc2)]
  exact z
theorem sd_ok (h : r.1 19 = 0) (h0 : r.1 1 = 0) (hc : nmC t n i 2 7 = 0) (hc2 : nmC t n (nE t n i) 2 7 = 0) : sdR t n r i = msR (sR (sR (sR (sR r 4 (nI (skN t n i))) 3 (nI (nE t n i))) 4 (nI (skN t n (nE t n i)))) 3 (nI (nE t n (nE t n i)))) (nV t n i).toNatClampNeg (nV t n (nE t n i)).toNatClampNeg := by
  unfold sdR
  dsimp only
  rw [if_pos h, nm_okR hc, nm_okR hc2, if_pos (show (sR (sR (sR (sR r 4 (nI (skN t n i))) 3 (nI (nE t n i))) 4 (nI (skN t n (nE t n i)))) 3 (nI (nE t n (nE t n i)))).1 1 = 0 from h0)]
theorem rk_bad (h : ¬ pop (r.2.1 7) < 8) (h0 : r.1 1 = 0) : FL (rkR t n r i) 3 (nI (i - 1)) := by
  unfold rkR
  dsimp only
  rw [if_neg h]
  have z := FL_nm (t := t) (n := n) (i := nE t n i) (by decide) (FL_nm (t := t) (n := n) (i := i) (by decide) (FL_cm0 h0 3 (nI (i - 1))) 0 (r.1 19 - 1)) 0 (r.1 20 - 1)
  rw [if_neg (by rw [z.1]; decide)]
  exact z
theorem rk_n1 (h : pop (r.2.1 7) < 8) (h0 : r.1 1 = 0) (hc : ¬ nmC t n i 0 (r.1 19 - 1) = 0) : FL (rkR t n r i) (nI (nmC t n i 0 (r.1 19 - 1))) (nI (skN t n i)) := by
  unfold rkR
  dsimp only
  rw [if_pos h]
  have z := FL_nm (t := t) (n := n) (i := nE t n i) (nmC_3 t n i _ _ hc) (FL_nm0 h0 hc) 0 (r.1 20 - 1)
  rw [if_neg (by rw [z.1]; exact nmC_3 t n i _ _ hc)]
  exact z
theorem rk_n2 (h : pop (r.2.1 7) < 8) (h0 : r.1 1 = 0) (hc : nmC t n i 0 (r.1 19 - 1) = 0) (hc2 : ¬ nmC t n (nE t n i) 0 (r.1 20 - 1) = 0) : FL (rkR t n r i) (nI (nmC t n (nE t n i) 0 (r.1 20 - 1))) (nI (skN t n (nE t n i))) := by
  unfold rkR
  dsimp only
  rw [if_pos h, nm_okR hc]
  have z := FL_nm0 (r := sR (sR r 4 (nI (skN t n i))) 3 (nI (nE t n i))) h0 hc2
  rw [if_neg (by rw [z.1]; exact nmC_3 t n _ _ _ hc2)]
  exact z
theorem rk_ok (h : pop (r.2.1 7) < 8) (h0 : r.1 1 = 0) (hc : nmC t n i 0 (r.1 19 - 1) = 0) (hc2 : nmC t n (nE t n i) 0 (r.1 20 - 1) = 0) : rkR t n r i = adR (sR (sR (sR (sR r 4 (nI (skN t n i))) 3 (nI (nE t n i))) 4 (nI (skN t n (nE t n i)))) 3 (nI (nE t n (nE t n i)))) ((1 : Int64) <<< ((r.1 19 * nV t n (nE t n i) + nV t n i).toInt64 &&& 63)) := by
  unfold rkR
  dsimp only
  rw [if_pos h, nm_okR hc, nm_okR hc2, if_pos (show (sR (sR (sR (sR r 4 (nI (skN t n i))) 3 (nI (nE t n i))) 4 (nI (skN t n (nE t n i)))) 3 (nI (nE t n (nE t n i)))).1 1 = 0 from h0)]
end CLC
