/-! the model: what it asks of its north -/
def in3 (x a b : Int32) : Bool := decide (a ≤ x) && decide (x ≤ b)
theorem e_inB {sc : Scr} {d : Nat} {h : AHp} {X Xa Xb : Int64} (x a b : Int32) (hx : X = x.toInt64) (ha : Xa = a.toInt64) (hb : Xb = b.toInt64) : Ev sc d m_M_in 0 (iniL 6 [.long X, .long Xa, .long Xb]) [] h (some (.int (b01 (in3 x a b)))) h := by
  subst hx; subst ha; subst hb
  have h := e_in sc d h x.toInt64 a.toInt64 b.toInt64
  have e : (decide (a.toInt64 ≤ x.toInt64) && decide (x.toInt64 ≤ b.toInt64)) = in3 x a b := by
    unfold in3
    rw [decide_eq_decide.mpr (fa_wide_le a x), decide_eq_decide.mpr (fa_wide_le x b)]
  rw [e] at h
  exact h
theorem m1_toInt {N : Nat} (hN : N < 2 ^ 30) : (nI N - 1).toInt = (N : Int) - 1 := pk_sub_toInt (b := 1) hN (by decide)
theorem in3_R (x : Int32) {N : Nat} (hN : N < 2 ^ 30) : in3 x 0 (nI N - 1) = inR x N := by
  unfold in3 inR
  congr 1
  apply decide_eq_decide.mpr
  rw [Int32.le_iff_toInt_le, Int32.lt_iff_toInt_lt, m1_toInt hN, nI_toInt (by omega)]
  omega
theorem inR_N {a N : Nat} (ha : a < 2 ^ 31) (hN : N < 2 ^ 31) : inR (nI a) N = decide (a < N) := by
  unfold inR
  rw [decide_eq_true (nI_pos' ha), Bool.true_and]
  exact decide_eq_decide.mpr (nI_ltI ha hN)
theorem inR_m {a N : Nat} (ha : a ≤ N) (hN : N < 2 ^ 30) : inR (nI a + (-1)) N = decide (0 < a) := by
  cases a with
  | zero =>
    have e : nI 0 + (-1) = -1 := by decide
    rw [e]
    unfold inR
    rw [decide_eq_false (by decide)]
    rfl
  | succ n =>
    rw [pk_m1, inR_N (by omega) (by omega), decide_eq_true (by omega), decide_eq_true (by omega)]
theorem ev_ix {sc : Scr} {d M pc nx a b p m : Nat} {v : Value} {L : Lcs} {S : Stk} {h h' : AHp} {r : Option Value} {c n : Nat} {i : Int32} {f : Nat → Int32} (k : Nat) (hc : cAt M pc = some (.iaload, nx, a, b, v)) (hp : h[p]? = some (aI m f)) (hi : i = nI k) (hk : k < m) (hm : m < 2 ^ 31) (kk : Ek sc d M nx L (.int (f k) :: S) h r h' c n) : Ek sc d M pc L (.int i :: .ref p :: S) h r h' c n := by
  subst hi
  refine ev_ia hc hp (inI hk hm) ?_
  rw [nI_clamp (by omega)]
  exact kk
theorem or0 (x : Int64) : x ||| 0 = x := bs_ext (fun i _ => by rw [bs_or, bs_0, Bool.or_false])
theorem enc_ne {v : Nat} (h : v < 2 ^ 31) : ¬ nI v = -1 := by
  intro z
  rw [fa_eq, nI_toInt h] at z
  have : (-1 : Int32).toInt = -1 := by decide
  omega
def setR (g : Nat → Int32) (R : Nat) : Int64 := fo (fun j x => x ||| bit (g (12 + j)).toNatClampNeg) R 0
/-- what holds of the model's north; rk its rocks -/
def MN (g : Nat → Int32) (rk : Int64) (W H P : Nat) : Prop := g 0 = nI W ∧ g 1 = nI H ∧ g 2 = nI P ∧ W ≤ 7 ∧ H ≤ 7 ∧ P ≤ 7 ∧ ((W = 0 ∧ H = 0 ∧ P = 0) ∨ (2 ≤ W ∧ 2 ≤ H)) ∧ (∀ p, p < P → ∃ k, k < 5 ∧ g (5 + p) = nI k) ∧ ∃ R, R ≤ 8 ∧ g 3 = nI R ∧ pop rk = R ∧ (∀ j, j < R → ∃ c, c < W * H ∧ g (12 + j) = nI c) ∧ rk = setR g R
theorem MN.n49 {g : Nat → Int32} {rk : Int64} {W H P : Nat} (h : MN g rk W H P) : W * H ≤ 49 := WH49 h.2.2.2.1 h.2.2.2.2.1
theorem MN.pos {g : Nat → Int32} {rk : Int64} {W H P : Nat} (h : MN g rk W H P) (h0 : 0 < W * H) : 2 ≤ W ∧ 2 ≤ H := by
  rcases h.2.2.2.2.2.2.1 with ⟨a, b, c⟩ | q
  · rw [a, Nat.zero_mul] at h0
    exact absurd h0 (Nat.lt_irrefl 0)
  · exact q
section MOD
variable {sc : Scr} {d : Nat} {w : Bool} {s : Nat → Int32} {l : Nat → Int64} {A : Nat → Nat → Int32} {B : Nat → Nat → Int64} {W H P : Nat} {rk : Int64}
theorem e_mcells (hM : MN (A 27) rk W H P) : Ev sc d m_M_cells 0 (iniL 1 [.ref 26]) [] (HH w s l A B) (some (.int (nI (W * H)))) (HH w s l A B) := by
  repeat (first | refine ev_gos 99 rfl ?_ | refine ev_gf2 rfl rfl rfl rfl ?_ | refine ev_gf2 rfl rfl HH_land rfl ?_ | refine ev_gf2 rfl rfl HH_draft rfl ?_ | refine ev_gf2 rfl rfl (by with_reducible assumption) rfl ?_)
  refine ev_ix 0 rfl rfl rfl (by decide) (by decide) ?_
  repeat (first | refine ev_gos 99 rfl ?_ | refine ev_gf2 rfl rfl rfl rfl ?_ | refine ev_gf2 rfl rfl HH_land rfl ?_ | refine ev_gf2 rfl rfl HH_draft rfl ?_ | refine ev_gf2 rfl rfl (by with_reducible assumption) rfl ?_)
  refine ev_ix 1 rfl rfl rfl (by decide) (by decide) ?_
  repeat (first | refine ev_gos 99 rfl ?_ | refine ev_gf2 rfl rfl rfl rfl ?_ | refine ev_gf2 rfl rfl HH_land rfl ?_ | refine ev_gf2 rfl rfl HH_draft rfl ?_ | refine ev_gf2 rfl rfl (by with_reducible assumption) rfl ?_)
  exact ev_ri rfl (by show A 27 0 * A 27 1 = _; rw [hM.1, hM.2.1, pk_mul]) rfl
theorem e_misCell (hM : MN (A 27) rk W H P) (c : Int32) : Ev sc (d + 1) m_M_isCell 0 (iniL 2 [.ref 26, .int c]) [] (HH w s l A B) (some (.int (b01 (inR c (W * H))))) (HH w s l A B) := by
  have h49 := hM.n49
  repeat (first | refine ev_gos 99 rfl ?_ | refine ev_gf2 rfl rfl rfl rfl ?_ | refine ev_gf2 rfl rfl HH_land rfl ?_ | refine ev_gf2 rfl rfl HH_draft rfl ?_ | refine ev_gf2 rfl rfl (by with_reducible assumption) rfl ?_)
  refine ev_cv rfl rfl rfl (e_mcells hM) ?_
  repeat (first | refine ev_gos 99 rfl ?_ | refine ev_gf2 rfl rfl rfl rfl ?_ | refine ev_gf2 rfl rfl HH_land rfl ?_ | refine ev_gf2 rfl rfl HH_draft rfl ?_ | refine ev_gf2 rfl rfl (by with_reducible assumption) rfl ?_)
  refine ev_cs rfl rfl rfl (e_inB c 0 (nI (W * H) - 1) rfl (by decide) rfl) ?_
  exact ev_rz rfl (b01_or _) (by rw [in3_R c (by omega)]) rfl
theorem e_misPerson (hM : MN (A 27) rk W H P) (c : Int32) : Ev sc (d + 1) m_M_isPerson 0 (iniL 2 [.ref 26, .int c]) [] (HH w s l A B) (some (.int (b01 (inR c P)))) (HH w s l A B) := by
  have hP7 : P ≤ 7 := hM.2.2.2.2.2.1
  repeat (first | refine ev_gos 99 rfl ?_ | refine ev_gf2 rfl rfl rfl rfl ?_ | refine ev_gf2 rfl rfl HH_land rfl ?_ | refine ev_gf2 rfl rfl HH_draft rfl ?_ | refine ev_gf2 rfl rfl (by with_reducible assumption) rfl ?_)
  refine ev_ix 2 rfl rfl rfl (by decide) (by decide) ?_
  rw [hM.2.2.1]
  repeat (first | refine ev_gos 99 rfl ?_ | refine ev_gf2 rfl rfl rfl rfl ?_ | refine ev_gf2 rfl rfl HH_land rfl ?_ | refine ev_gf2 rfl rfl HH_draft rfl ?_ | refine ev_gf2 rfl rfl (by with_reducible assumption) rfl ?_)
  refine ev_cs rfl rfl rfl (e_inB c 0 (nI P - 1) rfl (by decide) rfl) ?_
  exact ev_rz rfl (b01_or _) (by rw [in3_R c (by omega)]) rfl
theorem e_rocks_loop {R : Nat} (hR : R ≤ 8) (h3 : A 27 3 = nI R) (hc : ∀ j, j < R → ∃ c, c < 49 ∧ A 27 (12 + j) = nI c) : ∀ (n i : Nat), i + n = R → Ev sc d m_M_rocks 10 [some (.ref 26), some (.long (setR (A 27) i)), none, some (.int (nI i))] [.int 3, .ref 27, .int (nI i)] (HH w s l A B) (some (.long (setR (A 27) R))) (HH w s l A B) := by
  intro n
  induction n with
  | zero =>
    intro i hi
    have e : i = R := by omega
    subst e
    refine ev_ix 3 rfl rfl rfl (by decide) (by decide) ?_
    rw [h3]
    refine ev_ift rfl rfl rfl (c_ge ((nI_leI (by omega) (by omega)).mpr (by omega))) ?_
    repeat (first | refine ev_gos 99 rfl ?_ | refine ev_gf2 rfl rfl rfl rfl ?_ | refine ev_gf2 rfl rfl HH_land rfl ?_ | refine ev_gf2 rfl rfl HH_draft rfl ?_ | refine ev_gf2 rfl rfl (by with_reducible assumption) rfl ?_)
    exact ev_rl rfl rfl rfl
  | succ n ih =>
    intro i hi
    refine ev_ix 3 rfl rfl rfl (by decide) (by decide) ?_
    rw [h3]
    refine ev_iff rfl rfl rfl (d_ge (nI_lt3 (by omega) (by omega) (by omega))) ?_
    repeat (first | refine ev_gos 99 rfl ?_ | refine ev_gf2 rfl rfl rfl rfl ?_ | refine ev_gf2 rfl rfl HH_land rfl ?_ | refine ev_gf2 rfl rfl HH_draft rfl ?_ | refine ev_gf2 rfl rfl (by with_reducible assumption) rfl ?_)
    refine ev_ix (12 + i) rfl rfl (nI_add 12 i) (by omega) (by decide) ?_
    obtain ⟨c, c1, c2⟩ := hc i (by omega)
    have h3 := ih (i + 1) (by omega)
    have e : setR (A 27) (i + 1) = setR (A 27) i ||| bit c := by
      show setR (A 27) i ||| bit (A 27 (12 + i)).toNatClampNeg = _
      rw [c2, nI_clamp (by omega)]
    rw [e, ← nI_1] at h3
    rw [c2]
    repeat (first | refine ev_gos 99 rfl ?_ | refine ev_gf2 rfl rfl rfl rfl ?_ | refine ev_gf2 rfl rfl HH_land rfl ?_ | refine ev_gf2 rfl rfl HH_draft rfl ?_ | refine ev_gf2 rfl rfl (by with_reducible assumption) rfl ?_)
    exact h3
theorem e_mrocks (hM : MN (A 27) rk W H P) : Ev sc d m_M_rocks 0 (iniL 4 [.ref 26]) [] (HH w s l A B) (some (.long rk)) (HH w s l A B) := by
  have h49 := hM.n49
  obtain ⟨R, r1, r2, r3, r4, r5⟩ := hM.2.2.2.2.2.2.2.2
  repeat (first | refine ev_gos 99 rfl ?_ | refine ev_gf2 rfl rfl rfl rfl ?_ | refine ev_gf2 rfl rfl HH_land rfl ?_ | refine ev_gf2 rfl rfl HH_draft rfl ?_ | refine ev_gf2 rfl rfl (by with_reducible assumption) rfl ?_)
  rw [r5]
  exact e_rocks_loop r1 r2 (fun j hj => by obtain ⟨c, c1, c2⟩ := r4 j hj; exact ⟨c, by omega, c2⟩) R 0 (Nat.zero_add R)
theorem e_misRock (hM : MN (A 27) rk W H P) {c : Nat} (hc : c < 64) : Ev sc (d + 1) m_M_isRock 0 (iniL 2 [.ref 26, .int (nI c)]) [] (HH w s l A B) (some (.int (b01 (bs rk c)))) (HH w s l A B) := by
  repeat (first | refine ev_gos 99 rfl ?_ | refine ev_gf2 rfl rfl rfl rfl ?_ | refine ev_gf2 rfl rfl HH_land rfl ?_ | refine ev_gf2 rfl rfl HH_draft rfl ?_ | refine ev_gf2 rfl rfl (by with_reducible assumption) rfl ?_)
  refine ev_cv rfl rfl rfl (e_mrocks hM) ?_
  repeat (first | refine ev_gos 99 rfl ?_ | refine ev_gf2 rfl rfl rfl rfl ?_ | refine ev_gf2 rfl rfl HH_land rfl ?_ | refine ev_gf2 rfl rfl HH_draft rfl ?_ | refine ev_gf2 rfl rfl (by with_reducible assumption) rfl ?_)
  refine ev_cs rfl rfl rfl (e_holds sc d _ rk hc) ?_
  exact ev_rz rfl (b01_or _) rfl rfl
theorem enc_if (p : Prop) [Decidable p] (v : Nat) : encI (if p then some v else none) = bif decide p then nI v else -1 := by
  by_cases h : p
  · rw [if_pos h, decide_eq_true h]
    rfl
  · rw [if_neg h, decide_eq_false h]
    rfl
theorem e_bes_k2 (hM : MN (A 27) rk W H P) {c k : Nat} (x y : Int32) (v : Nat) (by_ : Bool) (e2 : inR y H = by_) (e3 : by_ = true → x + nI W * y = nI v) : Ev sc (d + 1) m_M_beside 86 [some (.ref 26), some (.int (nI c)), some (.int (nI k)), some (.int x), some (.int y)] [.int 1, .ref 27, .long 0, .long y.toInt64] (HH w s l A B) (some (.int (bif by_ then nI v else -1))) (HH w s l A B) := by
  have hH7 : H ≤ 7 := hM.2.2.2.2.1
  refine ev_ix 1 rfl rfl rfl (by decide) (by decide) ?_
  rw [hM.2.1]
  repeat (first | refine ev_gos 99 rfl ?_ | refine ev_gf2 rfl rfl rfl rfl ?_ | refine ev_gf2 rfl rfl HH_land rfl ?_ | refine ev_gf2 rfl rfl HH_draft rfl ?_ | refine ev_gf2 rfl rfl (by with_reducible assumption) rfl ?_)
  refine ev_cs rfl rfl rfl (e_inB y 0 (nI H - 1) rfl (by decide) rfl) ?_
  rw [in3_R y (by omega), e2]
  cases by_ with
  | false =>
    refine ev_ift rfl rfl rfl rfl ?_
    repeat (first | refine ev_gos 99 rfl ?_ | refine ev_gf2 rfl rfl rfl rfl ?_ | refine ev_gf2 rfl rfl HH_land rfl ?_ | refine ev_gf2 rfl rfl HH_draft rfl ?_ | refine ev_gf2 rfl rfl (by with_reducible assumption) rfl ?_)
    exact ev_ri rfl rfl rfl
  | true =>
    refine ev_iff rfl rfl rfl rfl ?_
    repeat (first | refine ev_gos 99 rfl ?_ | refine ev_gf2 rfl rfl rfl rfl ?_ | refine ev_gf2 rfl rfl HH_land rfl ?_ | refine ev_gf2 rfl rfl HH_draft rfl ?_ | refine ev_gf2 rfl rfl (by with_reducible assumption) rfl ?_)
    refine ev_ix 0 rfl rfl rfl (by decide) (by decide) ?_
    rw [hM.1]
    repeat (first | refine ev_gos 99 rfl ?_ | refine ev_gf2 rfl rfl rfl rfl ?_ | refine ev_gf2 rfl rfl HH_land rfl ?_ | refine ev_gf2 rfl rfl HH_draft rfl ?_ | refine ev_gf2 rfl rfl (by with_reducible assumption) rfl ?_)
    exact ev_ri rfl (e3 rfl) rfl
theorem e_bes_key (hM : MN (A 27) rk W H P) {c k : Nat} (x y : Int32) (v : Nat) (bx by_ : Bool) (e1 : inR x W = bx) (e2 : inR y H = by_) (e3 : bx = true → by_ = true → x + nI W * y = nI v) : Ev sc (d + 1) m_M_beside 71 [some (.ref 26), some (.int (nI c)), some (.int (nI k)), some (.int x), some (.int y)] [.long (nI W - 1).toInt64, .long 0, .long x.toInt64] (HH w s l A B) (some (.int (bif bx && by_ then nI v else -1))) (HH w s l A B) := by
  have hW7 : W ≤ 7 := hM.2.2.2.1
  refine ev_cs rfl rfl rfl (e_inB x 0 (nI W - 1) rfl (by decide) rfl) ?_
  rw [in3_R x (by omega), e1]
  cases bx with
  | false =>
    refine ev_ift rfl rfl rfl rfl ?_
    repeat (first | refine ev_gos 99 rfl ?_ | refine ev_gf2 rfl rfl rfl rfl ?_ | refine ev_gf2 rfl rfl HH_land rfl ?_ | refine ev_gf2 rfl rfl HH_draft rfl ?_ | refine ev_gf2 rfl rfl (by with_reducible assumption) rfl ?_)
    exact ev_ri rfl rfl rfl
  | true =>
    refine ev_iff rfl rfl rfl rfl ?_
    repeat (first | refine ev_gos 99 rfl ?_ | refine ev_gf2 rfl rfl rfl rfl ?_ | refine ev_gf2 rfl rfl HH_land rfl ?_ | refine ev_gf2 rfl rfl HH_draft rfl ?_ | refine ev_gf2 rfl rfl (by with_reducible assumption) rfl ?_)
    rw [Bool.true_and]
    exact e_bes_k2 hM x y v by_ e2 (e3 rfl)
theorem e_bes_1 (hM : MN (A 27) rk W H P) {c : Nat} (hc : c < W * H) : Ev sc (d + 1) m_M_beside 0 (iniL 5 [.ref 26, .int (nI c), .int (nI 1)]) [] (HH w s l A B) (some (.int (encI (bsd W H c 1)))) (HH w s l A B) := by
  have h49 := hM.n49
  obtain ⟨hW, hH⟩ := hM.pos (by omega)
  have hW7 : W ≤ 7 := hM.2.2.2.1
  have hH7 : H ≤ 7 := hM.2.2.2.2.1
  have hz : ¬ nI W = 0 := nI_ne (by omega) (by omega)
  have ex : c % W < W := Nat.mod_lt c (by omega)
  have ey : c / W < H := Nat.div_lt_of_lt_mul hc
  have ed := Nat.div_add_mod c W
  repeat (first | refine ev_gos 99 rfl ?_ | refine ev_gf2 rfl rfl rfl rfl ?_ | refine ev_gf2 rfl rfl HH_land rfl ?_ | refine ev_gf2 rfl rfl HH_draft rfl ?_ | refine ev_gf2 rfl rfl (by with_reducible assumption) rfl ?_)
  refine ev_ix 0 rfl rfl rfl (by decide) (by decide) ?_
  rw [hM.1]
  refine ev_ire rfl hz ?_
  rw [pk_rem (by omega) (by omega) (by omega)]
  repeat (first | refine ev_gos 99 rfl ?_ | refine ev_gf2 rfl rfl rfl rfl ?_ | refine ev_gf2 rfl rfl HH_land rfl ?_ | refine ev_gf2 rfl rfl HH_draft rfl ?_ | refine ev_gf2 rfl rfl (by with_reducible assumption) rfl ?_)
  (first | refine ev_ift rfl rfl rfl rfl ?_ | refine ev_iff rfl rfl rfl rfl ?_)
  repeat (first | refine ev_gos 99 rfl ?_ | refine ev_gf2 rfl rfl rfl rfl ?_ | refine ev_gf2 rfl rfl HH_land rfl ?_ | refine ev_gf2 rfl rfl HH_draft rfl ?_ | refine ev_gf2 rfl rfl (by with_reducible assumption) rfl ?_)
  refine ev_ix 0 rfl rfl rfl (by decide) (by decide) ?_
  rw [hM.1]
  refine ev_id rfl hz ?_
  rw [pk_div (by omega) (by omega) (by omega)]
  repeat (first | refine ev_gos 99 rfl ?_ | refine ev_gf2 rfl rfl rfl rfl ?_ | refine ev_gf2 rfl rfl HH_land rfl ?_ | refine ev_gf2 rfl rfl HH_draft rfl ?_ | refine ev_gf2 rfl rfl (by with_reducible assumption) rfl ?_)
  (first | refine ev_ift rfl rfl rfl rfl ?_ | refine ev_iff rfl rfl rfl rfl ?_)
  repeat (first | refine ev_gos 99 rfl ?_ | refine ev_gf2 rfl rfl rfl rfl ?_ | refine ev_gf2 rfl rfl HH_land rfl ?_ | refine ev_gf2 rfl rfl HH_draft rfl ?_ | refine ev_gf2 rfl rfl (by with_reducible assumption) rfl ?_)
  (first | refine ev_ift rfl rfl rfl rfl ?_ | refine ev_iff rfl rfl rfl rfl ?_)
  repeat (first | refine ev_gos 99 rfl ?_ | refine ev_gf2 rfl rfl rfl rfl ?_ | refine ev_gf2 rfl rfl HH_land rfl ?_ | refine ev_gf2 rfl rfl HH_draft rfl ?_ | refine ev_gf2 rfl rfl (by with_reducible assumption) rfl ?_)
  refine ev_ix 0 rfl rfl rfl (by decide) (by decide) ?_
  rw [hM.1]
  repeat (first | refine ev_gos 99 rfl ?_ | refine ev_gf2 rfl rfl rfl rfl ?_ | refine ev_gf2 rfl rfl HH_land rfl ?_ | refine ev_gf2 rfl rfl HH_draft rfl ?_ | refine ev_gf2 rfl rfl (by with_reducible assumption) rfl ?_)
  have q := e_bes_key (sc := sc) (d := d) (w := w) (s := s) (l := l) (B := B) (c := c) (k := 1) hM (nI (c % W) + 1) (nI (c / W) + 0) (c + 1) (decide (c % W + 1 < W)) true (by rw [nI_1]; exact inR_N (by omega) (by omega)) (by rw [Int32.add_zero, inR_N (by omega) (by omega), decide_eq_true ey]) (fun _ _ => by rw [Int32.add_zero, nI_1, pk_mul, nI_add]; congr 1; omega)
  rw [Bool.and_true] at q
  rw [show bsd W H c 1 = (if c % W + 1 < W then some (c + 1) else none) from rfl, enc_if]
  exact q
theorem e_bes_2 (hM : MN (A 27) rk W H P) {c : Nat} (hc : c < W * H) : Ev sc (d + 1) m_M_beside 0 (iniL 5 [.ref 26, .int (nI c), .int (nI 2)]) [] (HH w s l A B) (some (.int (encI (bsd W H c 2)))) (HH w s l A B) := by
  have h49 := hM.n49
  obtain ⟨hW, hH⟩ := hM.pos (by omega)
  have hW7 : W ≤ 7 := hM.2.2.2.1
  have hH7 : H ≤ 7 := hM.2.2.2.2.1
  have hz : ¬ nI W = 0 := nI_ne (by omega) (by omega)
  have ex : c % W < W := Nat.mod_lt c (by omega)
  have ey : c / W < H := Nat.div_lt_of_lt_mul hc
  have ed := Nat.div_add_mod c W
  repeat (first | refine ev_gos 99 rfl ?_ | refine ev_gf2 rfl rfl rfl rfl ?_ | refine ev_gf2 rfl rfl HH_land rfl ?_ | refine ev_gf2 rfl rfl HH_draft rfl ?_ | refine ev_gf2 rfl rfl (by with_reducible assumption) rfl ?_)
  refine ev_ix 0 rfl rfl rfl (by decide) (by decide) ?_
  rw [hM.1]
  refine ev_ire rfl hz ?_
  rw [pk_rem (by omega) (by omega) (by omega)]
  repeat (first | refine ev_gos 99 rfl ?_ | refine ev_gf2 rfl rfl rfl rfl ?_ | refine ev_gf2 rfl rfl HH_land rfl ?_ | refine ev_gf2 rfl rfl HH_draft rfl ?_ | refine ev_gf2 rfl rfl (by with_reducible assumption) rfl ?_)
  (first | refine ev_ift rfl rfl rfl rfl ?_ | refine ev_iff rfl rfl rfl rfl ?_)
  repeat (first | refine ev_gos 99 rfl ?_ | refine ev_gf2 rfl rfl rfl rfl ?_ | refine ev_gf2 rfl rfl HH_land rfl ?_ | refine ev_gf2 rfl rfl HH_draft rfl ?_ | refine ev_gf2 rfl rfl (by with_reducible assumption) rfl ?_)
  (first | refine ev_ift rfl rfl rfl rfl ?_ | refine ev_iff rfl rfl rfl rfl ?_)
  repeat (first | refine ev_gos 99 rfl ?_ | refine ev_gf2 rfl rfl rfl rfl ?_ | refine ev_gf2 rfl rfl HH_land rfl ?_ | refine ev_gf2 rfl rfl HH_draft rfl ?_ | refine ev_gf2 rfl rfl (by with_reducible assumption) rfl ?_)
  refine ev_ix 0 rfl rfl rfl (by decide) (by decide) ?_
  rw [hM.1]
  refine ev_id rfl hz ?_
  rw [pk_div (by omega) (by omega) (by omega)]
  repeat (first | refine ev_gos 99 rfl ?_ | refine ev_gf2 rfl rfl rfl rfl ?_ | refine ev_gf2 rfl rfl HH_land rfl ?_ | refine ev_gf2 rfl rfl HH_draft rfl ?_ | refine ev_gf2 rfl rfl (by with_reducible assumption) rfl ?_)
  (first | refine ev_ift rfl rfl rfl rfl ?_ | refine ev_iff rfl rfl rfl rfl ?_)
  repeat (first | refine ev_gos 99 rfl ?_ | refine ev_gf2 rfl rfl rfl rfl ?_ | refine ev_gf2 rfl rfl HH_land rfl ?_ | refine ev_gf2 rfl rfl HH_draft rfl ?_ | refine ev_gf2 rfl rfl (by with_reducible assumption) rfl ?_)
  refine ev_ix 0 rfl rfl rfl (by decide) (by decide) ?_
  rw [hM.1]
  repeat (first | refine ev_gos 99 rfl ?_ | refine ev_gf2 rfl rfl rfl rfl ?_ | refine ev_gf2 rfl rfl HH_land rfl ?_ | refine ev_gf2 rfl rfl HH_draft rfl ?_ | refine ev_gf2 rfl rfl (by with_reducible assumption) rfl ?_)
  have q := e_bes_key (sc := sc) (d := d) (w := w) (s := s) (l := l) (B := B) (c := c) (k := 2) hM (nI (c % W) + 0) (nI (c / W) + 1) (c + W) true (decide (c / W + 1 < H)) (by rw [Int32.add_zero, inR_N (by omega) (by omega), decide_eq_true ex]) (by rw [nI_1]; exact inR_N (by omega) (by omega)) (fun _ _ => by rw [Int32.add_zero, nI_1, pk_mul, nI_add, Nat.mul_succ]; congr 1; omega)
  rw [Bool.true_and] at q
  rw [show bsd W H c 2 = (if c / W + 1 < H then some (c + W) else none) from rfl, enc_if]
  exact q
theorem e_bes_3 (hM : MN (A 27) rk W H P) {c : Nat} (hc : c < W * H) : Ev sc (d + 1) m_M_beside 0 (iniL 5 [.ref 26, .int (nI c), .int (nI 3)]) [] (HH w s l A B) (some (.int (encI (bsd W H c 3)))) (HH w s l A B) := by
  have h49 := hM.n49
  obtain ⟨hW, hH⟩ := hM.pos (by omega)
  have hW7 : W ≤ 7 := hM.2.2.2.1
  have hH7 : H ≤ 7 := hM.2.2.2.2.1
  have hz : ¬ nI W = 0 := nI_ne (by omega) (by omega)
  have ex : c % W < W := Nat.mod_lt c (by omega)
  have ey : c / W < H := Nat.div_lt_of_lt_mul hc
  have ed := Nat.div_add_mod c W
  repeat (first | refine ev_gos 99 rfl ?_ | refine ev_gf2 rfl rfl rfl rfl ?_ | refine ev_gf2 rfl rfl HH_land rfl ?_ | refine ev_gf2 rfl rfl HH_draft rfl ?_ | refine ev_gf2 rfl rfl (by with_reducible assumption) rfl ?_)
  refine ev_ix 0 rfl rfl rfl (by decide) (by decide) ?_
  rw [hM.1]
  refine ev_ire rfl hz ?_
  rw [pk_rem (by omega) (by omega) (by omega)]
  repeat (first | refine ev_gos 99 rfl ?_ | refine ev_gf2 rfl rfl rfl rfl ?_ | refine ev_gf2 rfl rfl HH_land rfl ?_ | refine ev_gf2 rfl rfl HH_draft rfl ?_ | refine ev_gf2 rfl rfl (by with_reducible assumption) rfl ?_)
  (first | refine ev_ift rfl rfl rfl rfl ?_ | refine ev_iff rfl rfl rfl rfl ?_)
  repeat (first | refine ev_gos 99 rfl ?_ | refine ev_gf2 rfl rfl rfl rfl ?_ | refine ev_gf2 rfl rfl HH_land rfl ?_ | refine ev_gf2 rfl rfl HH_draft rfl ?_ | refine ev_gf2 rfl rfl (by with_reducible assumption) rfl ?_)
  (first | refine ev_ift rfl rfl rfl rfl ?_ | refine ev_iff rfl rfl rfl rfl ?_)
  repeat (first | refine ev_gos 99 rfl ?_ | refine ev_gf2 rfl rfl rfl rfl ?_ | refine ev_gf2 rfl rfl HH_land rfl ?_ | refine ev_gf2 rfl rfl HH_draft rfl ?_ | refine ev_gf2 rfl rfl (by with_reducible assumption) rfl ?_)
  refine ev_ix 0 rfl rfl rfl (by decide) (by decide) ?_
  rw [hM.1]
  refine ev_id rfl hz ?_
  rw [pk_div (by omega) (by omega) (by omega)]
  repeat (first | refine ev_gos 99 rfl ?_ | refine ev_gf2 rfl rfl rfl rfl ?_ | refine ev_gf2 rfl rfl HH_land rfl ?_ | refine ev_gf2 rfl rfl HH_draft rfl ?_ | refine ev_gf2 rfl rfl (by with_reducible assumption) rfl ?_)
  (first | refine ev_ift rfl rfl rfl rfl ?_ | refine ev_iff rfl rfl rfl rfl ?_)
  repeat (first | refine ev_gos 99 rfl ?_ | refine ev_gf2 rfl rfl rfl rfl ?_ | refine ev_gf2 rfl rfl HH_land rfl ?_ | refine ev_gf2 rfl rfl HH_draft rfl ?_ | refine ev_gf2 rfl rfl (by with_reducible assumption) rfl ?_)
  (first | refine ev_ift rfl rfl rfl rfl ?_ | refine ev_iff rfl rfl rfl rfl ?_)
  repeat (first | refine ev_gos 99 rfl ?_ | refine ev_gf2 rfl rfl rfl rfl ?_ | refine ev_gf2 rfl rfl HH_land rfl ?_ | refine ev_gf2 rfl rfl HH_draft rfl ?_ | refine ev_gf2 rfl rfl (by with_reducible assumption) rfl ?_)
  refine ev_ix 0 rfl rfl rfl (by decide) (by decide) ?_
  rw [hM.1]
  repeat (first | refine ev_gos 99 rfl ?_ | refine ev_gf2 rfl rfl rfl rfl ?_ | refine ev_gf2 rfl rfl HH_land rfl ?_ | refine ev_gf2 rfl rfl HH_draft rfl ?_ | refine ev_gf2 rfl rfl (by with_reducible assumption) rfl ?_)
  have q := e_bes_key (sc := sc) (d := d) (w := w) (s := s) (l := l) (B := B) (c := c) (k := 3) hM (nI (c % W) + (-1)) (nI (c / W) + 0) (c - 1) (decide (0 < c % W)) true (inR_m (by omega) (by omega)) (by rw [Int32.add_zero, inR_N (by omega) (by omega), decide_eq_true ey]) (fun q1 _ => by
    have q2 := of_decide_eq_true q1
    obtain ⟨m, hm⟩ : ∃ m, c % W = m + 1 := ⟨c % W - 1, by omega⟩
    rw [Int32.add_zero, hm, pk_m1, pk_mul, nI_add]; congr 1; omega)
  rw [Bool.and_true] at q
  rw [show bsd W H c 3 = (if 0 < c % W then some (c - 1) else none) from rfl, enc_if]
  exact q
theorem e_bes_4 (hM : MN (A 27) rk W H P) {c : Nat} (hc : c < W * H) : Ev sc (d + 1) m_M_beside 0 (iniL 5 [.ref 26, .int (nI c), .int (nI 4)]) [] (HH w s l A B) (some (.int (encI (bsd W H c 4)))) (HH w s l A B) := by
  have h49 := hM.n49
  obtain ⟨hW, hH⟩ := hM.pos (by omega)
  have hW7 : W ≤ 7 := hM.2.2.2.1
  have hH7 : H ≤ 7 := hM.2.2.2.2.1
  have hz : ¬ nI W = 0 := nI_ne (by omega) (by omega)
  have ex : c % W < W := Nat.mod_lt c (by omega)
  have ey : c / W < H := Nat.div_lt_of_lt_mul hc
  have ed := Nat.div_add_mod c W
  repeat (first | refine ev_gos 99 rfl ?_ | refine ev_gf2 rfl rfl rfl rfl ?_ | refine ev_gf2 rfl rfl HH_land rfl ?_ | refine ev_gf2 rfl rfl HH_draft rfl ?_ | refine ev_gf2 rfl rfl (by with_reducible assumption) rfl ?_)
  refine ev_ix 0 rfl rfl rfl (by decide) (by decide) ?_
  rw [hM.1]
  refine ev_ire rfl hz ?_
  rw [pk_rem (by omega) (by omega) (by omega)]
  repeat (first | refine ev_gos 99 rfl ?_ | refine ev_gf2 rfl rfl rfl rfl ?_ | refine ev_gf2 rfl rfl HH_land rfl ?_ | refine ev_gf2 rfl rfl HH_draft rfl ?_ | refine ev_gf2 rfl rfl (by with_reducible assumption) rfl ?_)
  (first | refine ev_ift rfl rfl rfl rfl ?_ | refine ev_iff rfl rfl rfl rfl ?_)
  repeat (first | refine ev_gos 99 rfl ?_ | refine ev_gf2 rfl rfl rfl rfl ?_ | refine ev_gf2 rfl rfl HH_land rfl ?_ | refine ev_gf2 rfl rfl HH_draft rfl ?_ | refine ev_gf2 rfl rfl (by with_reducible assumption) rfl ?_)
  (first | refine ev_ift rfl rfl rfl rfl ?_ | refine ev_iff rfl rfl rfl rfl ?_)
  repeat (first | refine ev_gos 99 rfl ?_ | refine ev_gf2 rfl rfl rfl rfl ?_ | refine ev_gf2 rfl rfl HH_land rfl ?_ | refine ev_gf2 rfl rfl HH_draft rfl ?_ | refine ev_gf2 rfl rfl (by with_reducible assumption) rfl ?_)
  refine ev_ix 0 rfl rfl rfl (by decide) (by decide) ?_
  rw [hM.1]
  refine ev_id rfl hz ?_
  rw [pk_div (by omega) (by omega) (by omega)]
  repeat (first | refine ev_gos 99 rfl ?_ | refine ev_gf2 rfl rfl rfl rfl ?_ | refine ev_gf2 rfl rfl HH_land rfl ?_ | refine ev_gf2 rfl rfl HH_draft rfl ?_ | refine ev_gf2 rfl rfl (by with_reducible assumption) rfl ?_)
  (first | refine ev_ift rfl rfl rfl rfl ?_ | refine ev_iff rfl rfl rfl rfl ?_)
  repeat (first | refine ev_gos 99 rfl ?_ | refine ev_gf2 rfl rfl rfl rfl ?_ | refine ev_gf2 rfl rfl HH_land rfl ?_ | refine ev_gf2 rfl rfl HH_draft rfl ?_ | refine ev_gf2 rfl rfl (by with_reducible assumption) rfl ?_)
  (first | refine ev_ift rfl rfl rfl rfl ?_ | refine ev_iff rfl rfl rfl rfl ?_)
  repeat (first | refine ev_gos 99 rfl ?_ | refine ev_gf2 rfl rfl rfl rfl ?_ | refine ev_gf2 rfl rfl HH_land rfl ?_ | refine ev_gf2 rfl rfl HH_draft rfl ?_ | refine ev_gf2 rfl rfl (by with_reducible assumption) rfl ?_)
  refine ev_ix 0 rfl rfl rfl (by decide) (by decide) ?_
  rw [hM.1]
  repeat (first | refine ev_gos 99 rfl ?_ | refine ev_gf2 rfl rfl rfl rfl ?_ | refine ev_gf2 rfl rfl HH_land rfl ?_ | refine ev_gf2 rfl rfl HH_draft rfl ?_ | refine ev_gf2 rfl rfl (by with_reducible assumption) rfl ?_)
  have q := e_bes_key (sc := sc) (d := d) (w := w) (s := s) (l := l) (B := B) (c := c) (k := 4) hM (nI (c % W) + 0) (nI (c / W) + (-1)) (c - W) true (decide (0 < c / W)) (by rw [Int32.add_zero, inR_N (by omega) (by omega), decide_eq_true ex]) (inR_m (by omega) (by omega)) (fun _ q1 => by
    have q2 := of_decide_eq_true q1
    obtain ⟨m, hm⟩ : ∃ m, c / W = m + 1 := ⟨c / W - 1, by omega⟩
    rw [hm, Nat.mul_succ] at ed
    rw [Int32.add_zero, hm, pk_m1, pk_mul, nI_add]; congr 1; omega)
  rw [Bool.true_and] at q
  rw [show bsd W H c 4 = (if 0 < c / W then some (c - W) else none) from rfl, enc_if]
  exact q
theorem e_beside (hM : MN (A 27) rk W H P) {c k : Nat} (hc : c < W * H) (h1 : 1 ≤ k) (h4 : k ≤ 4) : Ev sc (d + 1) m_M_beside 0 (iniL 5 [.ref 26, .int (nI c), .int (nI k)]) [] (HH w s l A B) (some (.int (encI (bsd W H c k)))) (HH w s l A B) := by
  rcases (show k = 1 ∨ k = 2 ∨ k = 3 ∨ k = 4 by omega) with rfl | rfl | rfl | rfl
  · exact e_bes_1 hM hc
  · exact e_bes_2 hM hc
  · exact e_bes_3 hM hc
  · exact e_bes_4 hM hc
end MOD
