/-! the model: a round's orders, one by one -/
def b32 (x : Int32) (i : Nat) : Bool := x.toBitVec.getLsbD i
theorem b32_and (x y : Int32) (i : Nat) : b32 (x &&& y) i = (b32 x i && b32 y i) := by unfold b32; rw [Int32.toBitVec_and, BitVec.getLsbD_and]
theorem b32_or (x y : Int32) (i : Nat) : b32 (x ||| y) i = (b32 x i || b32 y i) := by unfold b32; rw [Int32.toBitVec_or, BitVec.getLsbD_or]
theorem b32_xor (x y : Int32) (i : Nat) : b32 (x ^^^ y) i = (b32 x i ^^ b32 y i) := by unfold b32; rw [Int32.toBitVec_xor, BitVec.getLsbD_xor]
theorem b32_m1 : ∀ i, i < 32 → b32 (-1) i = true := by decide +kernel
theorem b32_0 (i : Nat) : b32 0 i = false := by unfold b32; show (0#32).getLsbD i = false; simp
theorem b32_nI {n i : Nat} (h : i < 32) : b32 (nI n) i = n.testBit i := by
  unfold b32
  show (BitVec.ofNat 32 n).getLsbD i = _
  rw [BitVec.getLsbD_ofNat, decide_eq_true h, Bool.true_and]
theorem b32_ext {x y : Int32} (h : ∀ i, i < 32 → b32 x i = b32 y i) : x = y := Int32.toBitVec_inj.mp (BitVec.eq_of_getLsbD_eq (fun i hi => h i hi))
theorem sub32 {x m : Int32} (h : x &&& (m ^^^ (-1)) = 0) {i : Nat} (hi : i < 32) (hx : b32 x i = true) : b32 m i = true := by
  have e : b32 (x &&& (m ^^^ (-1))) i = false := by rw [h, b32_0]
  rw [b32_and, b32_xor, b32_m1 i hi, hx] at e
  cases hb : b32 m i with
  | true => rfl
  | false =>
    rw [hb] at e
    cases e
theorem mask_nI : ∀ P, P < 8 → (nI (2 ^ P - 1)).toBitVec.toNat = 2 ^ P - 1 ∧ ((1 : Int32) <<< (nI P &&& 31)) - 1 = nI (2 ^ P - 1) ∧ 2 ^ P - 1 < 2 ^ 31 := by decide +kernel
theorem set_in : ∀ P, P < 8 → ∀ t, t < 128 → t < 2 ^ P → nI t &&& (nI (2 ^ P - 1) ^^^ (-1)) = 0 := by decide +kernel
theorem set_ok {P : Nat} (hP : P ≤ 7) (y : Int32) : (∃ t, t < 2 ^ P ∧ y = nI t) ∨ (¬ y &&& (nI (2 ^ P - 1) ^^^ (-1)) = 0 ∧ in3 y 0 (nI (2 ^ P - 1)) = false) := by
  obtain ⟨m1, m2, m3⟩ := mask_nI P (by omega)
  have hp := Nat.pow_pos (n := P) (show 0 < 2 by decide)
  by_cases h : y &&& (nI (2 ^ P - 1) ^^^ (-1)) = 0
  · left
    refine ⟨y.toBitVec.toNat % 2 ^ P, Nat.mod_lt _ hp, ?_⟩
    rw [← pk_and y P m1]
    refine b32_ext (fun i hi => ?_)
    rw [b32_and]
    cases hb : b32 y i with
    | false => rfl
    | true => rw [sub32 h hi hb]; rfl
  · cases hq : in3 y 0 (nI (2 ^ P - 1)) with
    | false => exact Or.inr ⟨h, rfl⟩
    | true =>
      obtain ⟨t, _, t2, t3⟩ := rng32 (a := 0) (by decide) m3 hq
      exact Or.inl ⟨t, by omega, t3⟩
theorem who_bit : ∀ n, n < 7 → ∀ p, p < 7 → b32 ((1 : Int32) <<< (nI n &&& 31)) p = decide (p = n) := by decide +kernel
theorem who_b32 (f : Nat → Int32) : ∀ n, n ≤ 7 → ∀ p, p < 7 → b32 (whoP f n) p = true → p < n ∧ ¬ f p = -1
  | 0, _, p, _, h => by
    have h2 : b32 0 p = true := h
    rw [b32_0] at h2
    cases h2
  | n + 1, hn, p, hp, h => by
    have h2 : b32 (if f n = -1 then whoP f n else whoP f n ||| ((1 : Int32) <<< (nI n &&& 31))) p = true := h
    by_cases e : f n = -1
    · rw [if_pos e] at h2
      obtain ⟨q1, q2⟩ := who_b32 f n (by omega) p hp h2
      exact ⟨by omega, q2⟩
    · rw [if_neg e, b32_or, who_bit n (by omega) p hp, Bool.or_eq_true] at h2
      rcases h2 with h3 | h3
      · obtain ⟨q1, q2⟩ := who_b32 f n (by omega) p hp h3
        exact ⟨by omega, q2⟩
      · have e2 := of_decide_eq_true h3
        subst e2
        exact ⟨by omega, e⟩
theorem srL_len (t : Nat) : ∀ n, (srL t n).length = cntB (Nat.testBit t) n
  | 0 => rfl
  | n + 1 => by
    show (srL t n ++ (bif Nat.testBit t n then [n] else [])).length = cntB (Nat.testBit t) n + (bif Nat.testBit t n then 1 else 0)
    rw [List.length_append, srL_len t n]
    cases Nat.testBit t n <;> rfl
theorem sum_le {W : Nat} {pl : Nat → Nat} (hpl : ∀ p, pl p < 49) : ∀ (L : List Nat) (a : Nat), a < 49 → sumL (dist W) pl a L ≤ 96 * L.length
  | [], _, _ => Nat.zero_le _
  | p :: r, a, ha => by
    have h1 := dist_le W ha (hpl p)
    have h2 := sum_le (W := W) hpl r (pl p) (hpl p)
    show dist W a (pl p) + sumL (dist W) pl (pl p) r ≤ 96 * (r.length + 1)
    omega
section RDS
variable {sc : Scr} {d : Nat} {w : Bool} {s : Nat → Int32} {l : Nat → Int64} {A : Nat → Nat → Int32} {B : Nat → Nat → Int64} {W H P : Nat} {rk : Int64}
theorem e_mhas (h : AHp) {t p : Nat} (ht : t < 128) (hp : p < 7) : Ev sc d m_M_has 0 (iniL 2 [.int (nI t), .int (nI p)]) [] h (some (.int (b01 (Nat.testBit t p)))) h := by
  refine ev_gos 99 rfl ?_
  have e := set_bit t ht p hp
  cases hb : Nat.testBit t p with
  | true =>
    rw [hb] at e
    refine ev_iff rfl rfl rfl (d_ne e) ?_
    refine ev_gos 99 rfl ?_
    exact ev_rz rfl (Or.inr rfl) rfl rfl
  | false =>
    rw [hb] at e
    refine ev_ift rfl rfl rfl (c_ne (fun z => absurd (e.symm.trans z) (by decide))) ?_
    refine ev_gos 99 rfl ?_
    exact ev_rz rfl (Or.inl rfl) rfl rfl
theorem e_fill7 (hM : MN (A 27) rk W H P) {t : Nat} (ht : t < 128) (y1 y3 : Int32) : ∀ (n i : Nat) (R : Nat → Int32), i + n = P → RW R (srL t i) → ∃ R', RW R' (srL t P) ∧ ∀ (r : Option Value) (h' : AHp), Ev sc (d + 1) m_M_round 88 [some (.ref 26), some (.int y1), some (.int (nI t)), some (.int y3), some (.int (nI (cntB (Nat.testBit t) P))), none, none, none, none, none, none, none] [] (HH w s l (upA A 38 R') B) r h' → Ev sc (d + 1) m_M_round 57 [some (.ref 26), some (.int y1), some (.int (nI t)), some (.int y3), some (.int (nI (cntB (Nat.testBit t) i))), some (.int (nI i)), none, none, none, none, none, none] [.int 2, .ref 27, .int (nI i)] (HH w s l (upA A 38 R) B) r h' := by
  have hP7 : P ≤ 7 := hM.2.2.2.2.2.1
  intro n
  induction n with
  | zero =>
    intro i R hi hR
    have e : i = P := by omega
    subst e
    refine ⟨R, hR, fun r h' h0 => ?_⟩
    refine ev_ix 2 rfl rfl rfl (by decide) (by decide) ?_
    refine (?_ : Ek sc _ m_M_round 58 _ (.int (A 27 2) :: _) _ _ _ _ _)
    rw [hM.2.2.1]
    refine ev_ift rfl rfl rfl (c_ge ((nI_leI (by omega) (by omega)).mpr (by omega))) ?_
    exact ev_wk2 h0 rfl (by repeat' (first | exact trivial | refine ⟨rfl, ?_⟩))
  | succ n ih =>
    intro i R hi hR
    have hle := cntB_le (Nat.testBit t) i
    cases hb : Nat.testBit t i with
    | false =>
      have e1 : srL t (i + 1) = srL t i := by
        show srL t i ++ (bif Nat.testBit t i then [i] else []) = _
        rw [hb]
        exact List.append_nil _
      have e2 : cntB (Nat.testBit t) (i + 1) = cntB (Nat.testBit t) i := by
        show cntB (Nat.testBit t) i + (bif Nat.testBit t i then 1 else 0) = _
        rw [hb]
        rfl
      obtain ⟨R', r1, r2⟩ := ih (i + 1) R (by omega) (by rw [e1]; exact hR)
      refine ⟨R', r1, fun r h' h0 => ?_⟩
      have h3 := r2 r h' h0
      rw [e2, ← nI_1 i] at h3
      refine ev_ix 2 rfl rfl rfl (by decide) (by decide) ?_
      refine (?_ : Ek sc _ m_M_round 58 _ (.int (A 27 2) :: _) _ _ _ _ _)
      rw [hM.2.2.1]
      refine ev_iff rfl rfl rfl (d_ge (nI_lt3 (by omega) (by omega) (by omega))) ?_
      repeat (first | refine ev_gos 99 rfl ?_ | refine ev_gf2 rfl rfl rfl rfl ?_ | refine ev_gf2 rfl rfl HH_land rfl ?_ | refine ev_gf2 rfl rfl HH_draft rfl ?_ | refine ev_gf2 rfl rfl (by with_reducible assumption) rfl ?_)
      refine ev_cs rfl rfl rfl (e_mhas _ ht (p := i) (by omega)) ?_
      rw [hb]
      (first | refine ev_ift rfl rfl rfl rfl ?_ | refine ev_iff rfl rfl rfl rfl ?_)
      repeat (first | refine ev_gos 99 rfl ?_ | refine ev_gf2 rfl rfl rfl rfl ?_ | refine ev_gf2 rfl rfl HH_land rfl ?_ | refine ev_gf2 rfl rfl HH_draft rfl ?_ | refine ev_gf2 rfl rfl (by with_reducible assumption) rfl ?_)
      exact h3
    | true =>
      have e1 : srL t (i + 1) = srL t i ++ [i] := by
        show srL t i ++ (bif Nat.testBit t i then [i] else []) = _
        rw [hb]
        rfl
      have e2 : cntB (Nat.testBit t) (i + 1) = cntB (Nat.testBit t) i + 1 := by
        show cntB (Nat.testBit t) i + (bif Nat.testBit t i then 1 else 0) = _
        rw [hb]
        rfl
      have hR2 : RW (upd R (cntB (Nat.testBit t) i) (nI i)) (srL t (i + 1)) := by
        intro k hk
        rw [e1, List.length_append, srL_len] at hk
        rw [e1, gAt_app, srL_len]
        by_cases q : k < cntB (Nat.testBit t) i
        · rw [if_pos q, pk_un (by omega)]
          exact hR k (by rw [srL_len]; exact q)
        · have e3 : k = cntB (Nat.testBit t) i := by
            have : [i].length = 1 := rfl
            omega
          rw [if_neg q, e3, Nat.sub_self, pk_us]
          rfl
      obtain ⟨R', r1, r2⟩ := ih (i + 1) (upd R (cntB (Nat.testBit t) i) (nI i)) (by omega) hR2
      refine ⟨R', r1, fun r h' h0 => ?_⟩
      have h3 := r2 r h' h0
      rw [e2, ← nI_1 i, ← nI_1 (cntB (Nat.testBit t) i)] at h3
      refine ev_ix 2 rfl rfl rfl (by decide) (by decide) ?_
      refine (?_ : Ek sc _ m_M_round 58 _ (.int (A 27 2) :: _) _ _ _ _ _)
      rw [hM.2.2.1]
      refine ev_iff rfl rfl rfl (d_ge (nI_lt3 (by omega) (by omega) (by omega))) ?_
      repeat (first | refine ev_gos 99 rfl ?_ | refine ev_gf2 rfl rfl rfl rfl ?_ | refine ev_gf2 rfl rfl HH_land rfl ?_ | refine ev_gf2 rfl rfl HH_draft rfl ?_ | refine ev_gf2 rfl rfl (by with_reducible assumption) rfl ?_)
      refine ev_cs rfl rfl rfl (e_mhas _ ht (p := i) (by omega)) ?_
      rw [hb]
      (first | refine ev_ift rfl rfl rfl rfl ?_ | refine ev_iff rfl rfl rfl rfl ?_)
      repeat (first | refine ev_gos 99 rfl ?_ | refine ev_gf2 rfl rfl rfl rfl ?_ | refine ev_gf2 rfl rfl HH_land rfl ?_ | refine ev_gf2 rfl rfl HH_draft rfl ?_ | refine ev_gf2 rfl rfl (by with_reducible assumption) rfl ?_)
      refine iw_38 (cntB (Nat.testBit t) i) rfl rfl (by omega) ?_
      repeat (first | refine ev_gos 99 rfl ?_ | refine ev_gf2 rfl rfl rfl rfl ?_ | refine ev_gf2 rfl rfl HH_land rfl ?_ | refine ev_gf2 rfl rfl HH_draft rfl ?_ | refine ev_gf2 rfl rfl (by with_reducible assumption) rfl ?_)
      exact h3
theorem e_rd_in (hM : MN (A 27) rk W H P) (hW1 : 1 ≤ W) {R : Nat → Int32} {L : List Nat} (hR : RW R L) (hL : L.length ≤ 5) {pl : Nat → Nat} (hpl : ∀ p, pl p < 49) (hp : ∀ p, p ∈ L → p < 7 ∧ A 29 (49 + p) = nI (pl p)) (y1 y2 y3 y5 y6 y7 : Int32) : ∀ (rs pre : List Nat) (sm fg a : Nat), L = pre ++ rs → a < 49 → ∀ (r : Option Value) (h' : AHp), Ev sc (d + 1) m_M_round 215 [some (.ref 26), some (.int y1), some (.int y2), some (.int y3), some (.int (nI L.length)), some (.int y5), some (.int y6), some (.int y7), some (.int (nI (sm + sumL (dist W) pl a rs))), some (.int (nI (figL fg rs))), none, none] [] (HH w s l (upA A 38 R) B) r h' → Ev sc (d + 1) m_M_round 146 [some (.ref 26), some (.int y1), some (.int y2), some (.int y3), some (.int (nI L.length)), some (.int y5), some (.int y6), some (.int y7), some (.int (nI sm)), some (.int (nI fg)), some (.int (nI a)), some (.int (nI pre.length))] [.int (nI L.length), .int (nI pre.length)] (HH w s l (upA A 38 R) B) r h' := by
  intro rs
  induction rs with
  | nil =>
    intro pre sm fg a hL2 ha r h' h0
    rw [List.append_nil] at hL2
    rw [← hL2]
    refine ev_ift rfl rfl rfl (c_ge ((nI_leI (by omega) (by omega)).mpr (by omega))) ?_
    exact ev_wk2 h0 rfl (by repeat' (first | exact trivial | refine ⟨rfl, ?_⟩))
  | cons p rs ih =>
    intro pre sm fg a hL2 ha r h' h0
    have hlen : L.length = pre.length + (rs.length + 1) := by rw [hL2, List.length_append]; rfl
    have hk : R pre.length = nI p := by
      rw [hR pre.length (by omega), hL2, gAt_app, if_neg (Nat.lt_irrefl _), Nat.sub_self]
      rfl
    obtain ⟨p7, hpp⟩ := hp p (by rw [hL2]; exact List.mem_append.mpr (Or.inr List.mem_cons_self))
    have h3 := ih (pre ++ [p]) (sm + dist W a (pl p)) (10 * fg + p + 1) (pl p) (by rw [hL2, List.append_assoc]; rfl) (hpl p) r h' (by
      have e : sm + dist W a (pl p) + sumL (dist W) pl (pl p) rs = sm + sumL (dist W) pl a (p :: rs) := by
        show _ = sm + (dist W a (pl p) + sumL (dist W) pl (pl p) rs)
        omega
      rw [e]
      exact h0)
    rw [List.length_append, show [p].length = 1 from rfl, ← nI_1 pre.length, ← nI_add sm, ← nI_1 (10 * fg + p), ← nI_add (10 * fg) p, ← pk_mul 10 fg] at h3
    refine ev_iff rfl rfl rfl (d_ge (nI_lt3 (by omega) (by omega) (by omega))) ?_
    repeat (first | refine ev_gos 99 rfl ?_ | refine ev_gf2 rfl rfl rfl rfl ?_ | refine ev_gf2 rfl rfl HH_land rfl ?_ | refine ev_gf2 rfl rfl HH_draft rfl ?_ | refine ev_gf2 rfl rfl (by with_reducible assumption) rfl ?_)
    refine ev_ix pre.length rfl rfl rfl (by omega) (by decide) ?_
    rw [upA_at, hk]
    repeat (first | refine ev_gos 99 rfl ?_ | refine ev_gf2 rfl rfl rfl rfl ?_ | refine ev_gf2 rfl rfl HH_land rfl ?_ | refine ev_gf2 rfl rfl HH_draft rfl ?_ | refine ev_gf2 rfl rfl (by with_reducible assumption) rfl ?_)
    refine ev_ix (49 + p) rfl rfl (nI_add 49 p) (by omega) (by decide) ?_
    refine (?_ : Ek sc _ m_M_round 169 _ (.int (A 29 (49 + p)) :: _) _ _ _ _ _)
    rw [hpp]
    refine ev_cv rfl rfl rfl (e_msteps (A := upA A 38 R) hM hW1 ha (hpl p)) ?_
    repeat (first | refine ev_gos 99 rfl ?_ | refine ev_gf2 rfl rfl rfl rfl ?_ | refine ev_gf2 rfl rfl HH_land rfl ?_ | refine ev_gf2 rfl rfl HH_draft rfl ?_ | refine ev_gf2 rfl rfl (by with_reducible assumption) rfl ?_)
    refine ev_ix pre.length rfl rfl rfl (by omega) (by decide) ?_
    rw [upA_at, hk]
    repeat (first | refine ev_gos 99 rfl ?_ | refine ev_gf2 rfl rfl rfl rfl ?_ | refine ev_gf2 rfl rfl HH_land rfl ?_ | refine ev_gf2 rfl rfl HH_draft rfl ?_ | refine ev_gf2 rfl rfl (by with_reducible assumption) rfl ?_)
    refine ev_ix (49 + p) rfl rfl (nI_add 49 p) (by omega) (by decide) ?_
    refine (?_ : Ek sc _ m_M_round 190 _ (.int (A 29 (49 + p)) :: _) _ _ _ _ _)
    rw [hpp]
    repeat (first | refine ev_gos 99 rfl ?_ | refine ev_gf2 rfl rfl rfl rfl ?_ | refine ev_gf2 rfl rfl HH_land rfl ?_ | refine ev_gf2 rfl rfl HH_draft rfl ?_ | refine ev_gf2 rfl rfl (by with_reducible assumption) rfl ?_)
    refine ev_ix pre.length rfl rfl rfl (by omega) (by decide) ?_
    rw [upA_at, hk]
    repeat (first | refine ev_gos 99 rfl ?_ | refine ev_gf2 rfl rfl rfl rfl ?_ | refine ev_gf2 rfl rfl HH_land rfl ?_ | refine ev_gf2 rfl rfl HH_draft rfl ?_ | refine ev_gf2 rfl rfl (by with_reducible assumption) rfl ?_)
    exact h3
theorem gAt_lt {b : Nat} (hb : 0 < b) : ∀ (L : List Nat), (∀ p, p ∈ L → p < b) → ∀ q, gAt L q < b
  | [], _, q => by
    show 0 < b
    exact hb
  | x :: L, h, 0 => h x List.mem_cons_self
  | x :: L, h, q + 1 => gAt_lt hb L (fun p hp => h p (List.mem_cons_of_mem _ hp)) q
theorem e_rd_out (hM : MN (A 27) rk W H P) (hW1 : 1 ≤ W) {m : Nat} (hm1 : 1 ≤ m) (hm5 : m ≤ 5) {pl : Nat → Nat} (hpl : ∀ p, pl p < 49) {c0 : Nat} (hc0 : c0 < 49) (y2 z : Int32) : ∀ (rs : List (List Nat)) (L : List Nat) (R : Nat → Int32) (b : Nat × Nat), RW R L → chn L rs = true → (∀ M, M ∈ L :: rs → M.length = m ∧ ∀ p, p ∈ M → p < 7 ∧ A 29 (49 + p) = nI (pl p)) → b.1 ≤ 100000000 → ∃ R', Ev sc (d + 1) m_M_round 127 [some (.ref 26), some (.int (nI c0)), some (.int y2), some (.int z), some (.int (nI m)), some (.int (nI b.1)), some (.int (nI b.2)), some (.int 1), none, none, none, none] [.int 1] (HH w s l (upA A 38 R) B) (some (.int (if z = 0 then nI ((L :: rs).foldl (mdF (dist W) pl c0) b).1 else nI ((L :: rs).foldl (mdF (dist W) pl c0) b).2))) (HH w s l (upA A 38 R') B) := by
  intro rs
  induction rs with
  | nil =>
    intro L R b hR hch hall hb
    obtain ⟨hLm, hLp⟩ := hall L List.mem_cons_self
    have hno := ono_t hch
    have z1 := (e_nextL (sc := sc) (d := d) (w := w) (s := s) (l := l) (A := A) (B := B) hLm hm1 hm5 hR (gAt_lt (by decide) L (fun p hp => by have := (hLp p hp).1; omega))).1 hno
    have hs := sum_le (W := W) hpl L c0 hc0
    refine ⟨R, ?_⟩
    show Ek sc (d + 1) m_M_round 127 _ _ _ (some (.int (if z = 0 then nI (mdF (dist W) pl c0 b L).1 else nI (mdF (dist W) pl c0 b L).2))) _ 0 0
    (first | refine ev_ift rfl rfl rfl rfl ?_ | refine ev_iff rfl rfl rfl rfl ?_)
    repeat (first | refine ev_gos 99 rfl ?_ | refine ev_gf2 rfl rfl rfl rfl ?_ | refine ev_gf2 rfl rfl HH_land rfl ?_ | refine ev_gf2 rfl rfl HH_draft rfl ?_ | refine ev_gf2 rfl rfl (by with_reducible assumption) rfl ?_)
    rw [← hLm]
    refine e_rd_in hM hW1 hR (by omega) hpl hLp (nI c0) y2 z (nI b.1) (nI b.2) 1 L [] 0 0 c0 rfl hc0 _ _ ?_
    rw [hLm, Nat.zero_add]
    have fin : ∀ b5 b6 : Nat, mdF (dist W) pl c0 b L = (b5, b6) → Ev sc (d + 1) m_M_round 240 [some (.ref 26), some (.int (nI c0)), some (.int y2), some (.int z), some (.int (nI m)), some (.int (nI b5)), some (.int (nI b6)), some (.int 1), none, none, none, none] [] (HH w s l (upA A 38 R) B) (some (.int (if z = 0 then nI (mdF (dist W) pl c0 b L).1 else nI (mdF (dist W) pl c0 b L).2))) (HH w s l (upA A 38 R) B) := by
      intro b5 b6 e
      rw [e]
      repeat (first | refine ev_gos 99 rfl ?_ | refine ev_gf2 rfl rfl rfl rfl ?_ | refine ev_gf2 rfl rfl HH_land rfl ?_ | refine ev_gf2 rfl rfl HH_draft rfl ?_ | refine ev_gf2 rfl rfl (by with_reducible assumption) rfl ?_)
      refine ev_cv rfl rfl rfl z1 ?_
      repeat (first | refine ev_gos 99 rfl ?_ | refine ev_gf2 rfl rfl rfl rfl ?_ | refine ev_gf2 rfl rfl HH_land rfl ?_ | refine ev_gf2 rfl rfl HH_draft rfl ?_ | refine ev_gf2 rfl rfl (by with_reducible assumption) rfl ?_)
      (first | refine ev_ift rfl rfl rfl rfl ?_ | refine ev_iff rfl rfl rfl rfl ?_)
      repeat (first | refine ev_gos 99 rfl ?_ | refine ev_gf2 rfl rfl rfl rfl ?_ | refine ev_gf2 rfl rfl HH_land rfl ?_ | refine ev_gf2 rfl rfl HH_draft rfl ?_ | refine ev_gf2 rfl rfl (by with_reducible assumption) rfl ?_)
      by_cases hz : z = 0
      · refine ev_iff rfl rfl rfl (j_ne hz) ?_
        repeat (first | refine ev_gos 99 rfl ?_ | refine ev_gf2 rfl rfl rfl rfl ?_ | refine ev_gf2 rfl rfl HH_land rfl ?_ | refine ev_gf2 rfl rfl HH_draft rfl ?_ | refine ev_gf2 rfl rfl (by with_reducible assumption) rfl ?_)
        exact ev_ri rfl (by rw [if_pos hz]) rfl
      · refine ev_ift rfl rfl rfl (i_ne hz) ?_
        repeat (first | refine ev_gos 99 rfl ?_ | refine ev_gf2 rfl rfl rfl rfl ?_ | refine ev_gf2 rfl rfl HH_land rfl ?_ | refine ev_gf2 rfl rfl HH_draft rfl ?_ | refine ev_gf2 rfl rfl (by with_reducible assumption) rfl ?_)
        exact ev_ri rfl (by rw [if_neg hz]) rfl
    repeat (first | refine ev_gos 99 rfl ?_ | refine ev_gf2 rfl rfl rfl rfl ?_ | refine ev_gf2 rfl rfl HH_land rfl ?_ | refine ev_gf2 rfl rfl HH_draft rfl ?_ | refine ev_gf2 rfl rfl (by with_reducible assumption) rfl ?_)
    by_cases q : sumL (dist W) pl c0 L < b.1
    · refine ev_iff rfl rfl rfl (d_ge (nI_lt3 (by omega) (by omega) (by omega))) ?_
      repeat (first | refine ev_gos 99 rfl ?_ | refine ev_gf2 rfl rfl rfl rfl ?_ | refine ev_gf2 rfl rfl HH_land rfl ?_ | refine ev_gf2 rfl rfl HH_draft rfl ?_ | refine ev_gf2 rfl rfl (by with_reducible assumption) rfl ?_)
      refine ev_cs rfl rfl rfl (e_lesser sc _ _ _ _) ?_
      rw [if_pos ((nI_ltI (by omega) (by omega)).mpr q)]
      refine ev_gos 1 rfl ?_
      exact ev_wk2 (fin _ _ (if_pos q)) rfl (by repeat' (first | exact trivial | refine ⟨rfl, ?_⟩))
    · refine ev_ift rfl rfl rfl (c_ge ((nI_leI (by omega) (by omega)).mpr (by omega))) ?_
      repeat (first | refine ev_gos 99 rfl ?_ | refine ev_gf2 rfl rfl rfl rfl ?_ | refine ev_gf2 rfl rfl HH_land rfl ?_ | refine ev_gf2 rfl rfl HH_draft rfl ?_ | refine ev_gf2 rfl rfl (by with_reducible assumption) rfl ?_)
      refine ev_cs rfl rfl rfl (e_lesser sc _ _ _ _) ?_
      rw [if_neg (fun u => q ((nI_ltI (by omega) (by omega)).mp u))]
      refine ev_gos 1 rfl ?_
      exact ev_wk2 (fin b.1 b.2 (if_neg q)) rfl (by repeat' (first | exact trivial | refine ⟨rfl, ?_⟩))
  | cons M rs ih =>
    intro L R b hR hch hall hb
    obtain ⟨hLm, hLp⟩ := hall L List.mem_cons_self
    obtain ⟨h1, h2⟩ := andE hch
    obtain ⟨R2, r1, r2, r3⟩ := (e_nextL (sc := sc) (d := d) (w := w) (s := s) (l := l) (A := A) (B := B) hLm hm1 hm5 hR (gAt_lt (by decide) L (fun p hp => by have := (hLp p hp).1; omega))).2 M (oeq_t h1)
    have hs := sum_le (W := W) hpl L c0 hc0
    have hb2 : (mdF (dist W) pl c0 b L).1 ≤ 100000000 := by
      unfold mdF
      split
      · rename_i q
        exact Nat.le_trans (Nat.le_of_lt q) hb
      · exact hb
    obtain ⟨R', hih⟩ := ih M R2 (mdF (dist W) pl c0 b L) r1 h2 (fun N hN => hall N (List.mem_cons_of_mem _ hN)) hb2
    refine ⟨R', ?_⟩
    show Ek sc (d + 1) m_M_round 127 _ _ _ (some (.int (if z = 0 then nI ((M :: rs).foldl (mdF (dist W) pl c0) (mdF (dist W) pl c0 b L)).1 else nI ((M :: rs).foldl (mdF (dist W) pl c0) (mdF (dist W) pl c0 b L)).2))) _ 0 0
    generalize (if z = 0 then nI ((M :: rs).foldl (mdF (dist W) pl c0) (mdF (dist W) pl c0 b L)).1 else nI ((M :: rs).foldl (mdF (dist W) pl c0) (mdF (dist W) pl c0 b L)).2) = vv at hih ⊢
    (first | refine ev_ift rfl rfl rfl rfl ?_ | refine ev_iff rfl rfl rfl rfl ?_)
    repeat (first | refine ev_gos 99 rfl ?_ | refine ev_gf2 rfl rfl rfl rfl ?_ | refine ev_gf2 rfl rfl HH_land rfl ?_ | refine ev_gf2 rfl rfl HH_draft rfl ?_ | refine ev_gf2 rfl rfl (by with_reducible assumption) rfl ?_)
    rw [← hLm]
    refine e_rd_in hM hW1 hR (by omega) hpl hLp (nI c0) y2 z (nI b.1) (nI b.2) 1 L [] 0 0 c0 rfl hc0 _ _ ?_
    rw [hLm, Nat.zero_add]
    have fin : ∀ b5 b6 : Nat, mdF (dist W) pl c0 b L = (b5, b6) → Ev sc (d + 1) m_M_round 240 [some (.ref 26), some (.int (nI c0)), some (.int y2), some (.int z), some (.int (nI m)), some (.int (nI b5)), some (.int (nI b6)), some (.int 1), none, none, none, none] [] (HH w s l (upA A 38 R) B) (some (.int vv)) (HH w s l (upA A 38 R') B) := by
      intro b5 b6 e
      rw [e] at hih
      repeat (first | refine ev_gos 99 rfl ?_ | refine ev_gf2 rfl rfl rfl rfl ?_ | refine ev_gf2 rfl rfl HH_land rfl ?_ | refine ev_gf2 rfl rfl HH_draft rfl ?_ | refine ev_gf2 rfl rfl (by with_reducible assumption) rfl ?_)
      refine ev_cv rfl rfl rfl r3 ?_
      repeat (first | refine ev_gos 99 rfl ?_ | refine ev_gf2 rfl rfl rfl rfl ?_ | refine ev_gf2 rfl rfl HH_land rfl ?_ | refine ev_gf2 rfl rfl HH_draft rfl ?_ | refine ev_gf2 rfl rfl (by with_reducible assumption) rfl ?_)
      exact hih
    repeat (first | refine ev_gos 99 rfl ?_ | refine ev_gf2 rfl rfl rfl rfl ?_ | refine ev_gf2 rfl rfl HH_land rfl ?_ | refine ev_gf2 rfl rfl HH_draft rfl ?_ | refine ev_gf2 rfl rfl (by with_reducible assumption) rfl ?_)
    by_cases q : sumL (dist W) pl c0 L < b.1
    · refine ev_iff rfl rfl rfl (d_ge (nI_lt3 (by omega) (by omega) (by omega))) ?_
      repeat (first | refine ev_gos 99 rfl ?_ | refine ev_gf2 rfl rfl rfl rfl ?_ | refine ev_gf2 rfl rfl HH_land rfl ?_ | refine ev_gf2 rfl rfl HH_draft rfl ?_ | refine ev_gf2 rfl rfl (by with_reducible assumption) rfl ?_)
      refine ev_cs rfl rfl rfl (e_lesser sc _ _ _ _) ?_
      rw [if_pos ((nI_ltI (by omega) (by omega)).mpr q)]
      refine ev_gos 1 rfl ?_
      exact ev_wk2 (fin _ _ (if_pos q)) rfl (by repeat' (first | exact trivial | refine ⟨rfl, ?_⟩))
    · refine ev_ift rfl rfl rfl (c_ge ((nI_leI (by omega) (by omega)).mpr (by omega))) ?_
      repeat (first | refine ev_gos 99 rfl ?_ | refine ev_gf2 rfl rfl rfl rfl ?_ | refine ev_gf2 rfl rfl HH_land rfl ?_ | refine ev_gf2 rfl rfl HH_draft rfl ?_ | refine ev_gf2 rfl rfl (by with_reducible assumption) rfl ?_)
      refine ev_cs rfl rfl rfl (e_lesser sc _ _ _ _) ?_
      rw [if_neg (fun u => q ((nI_ltI (by omega) (by omega)).mp u))]
      refine ev_gos 1 rfl ?_
      exact ev_wk2 (fin b.1 b.2 (if_neg q)) rfl (by repeat' (first | exact trivial | refine ⟨rfl, ?_⟩))
end RDS
