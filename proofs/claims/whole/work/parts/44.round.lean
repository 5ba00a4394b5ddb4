/-! the class: the shortest round -/
def mnO (b : Option Nat) (v : Nat) : Option Nat := match b with
  | none => some v
  | some u => some (if v < u then v else u)
/-- the least of all rounds from a over the people of t: their steps times K and their order -/
def srG (dst : Nat → Nat → Nat) (pl : Nat → Nat) (K : Nat) (m : Nat) (sub : Nat → Nat → Option Nat) (a t : Nat) (p : Nat) (b : Option Nat) : Option Nat :=
  bif Nat.testBit t p then mnO b (dst a (pl p) * K + (p + 1) * 10 ^ m + (sub (pl p) (t - 2 ^ p)).getD 0) else b
def srN (dst : Nat → Nat → Nat) (pl : Nat → Nat) (K P : Nat) : Nat → Nat → Nat → Option Nat
  | 0, _, _ => some 0
  | m + 1, a, t => fo (srG dst pl K m (srN dst pl K P m) a t) P none
def encO (b : Option Nat) : Int64 := match b with
  | none => -1
  | some v => lN v
theorem srG_le {dst : Nat → Nat → Nat} {pl : Nat → Nat} {K m E Q R : Nat} {sub : Nat → Nat → Option Nat} {a t : Nat} (hd : ∀ p, dst a (pl p) * K ≤ E) (hs : ∀ p, (sub (pl p) (t - 2 ^ p)).getD 0 ≤ R) (h4 : ∀ p, p < 7 → (p + 1) * 10 ^ m ≤ Q) : ∀ n, n ≤ 7 → (fo (srG dst pl K m sub a t) n none).getD 0 ≤ E + Q + R := by
  intro n
  induction n with
  | zero => intro _; exact Nat.zero_le _
  | succ n ihn =>
    intro hn
    have h1 := ihn (by omega)
    show (srG dst pl K m sub a t n _).getD 0 ≤ _
    generalize fo (srG dst pl K m sub a t) n none = b at h1 ⊢
    have h5 : dst a (pl n) * K + (n + 1) * 10 ^ m + (sub (pl n) (t - 2 ^ n)).getD 0 ≤ E + Q + R := Nat.add_le_add (Nat.add_le_add (hd n) (h4 n (by omega))) (hs n)
    unfold srG
    generalize dst a (pl n) * K + (n + 1) * 10 ^ m + (sub (pl n) (t - 2 ^ n)).getD 0 = v at h5 ⊢
    cases Nat.testBit t n with
    | false => exact h1
    | true =>
      cases b with
      | none => exact h5
      | some u =>
        show (if v < u then v else u) ≤ _
        split
        · exact h5
        · exact h1
theorem srN_le {dst : Nat → Nat → Nat} {pl : Nat → Nat} {K P E Q : Nat} (hpl : ∀ p, pl p < 49) (hd : ∀ a p, a < 49 → dst a (pl p) * K ≤ E) (hP : P ≤ 7) (hQ : ∀ m p, m < 5 → p < 7 → (p + 1) * 10 ^ m ≤ Q) : ∀ (m a t : Nat), m ≤ 5 → a < 49 → (srN dst pl K P m a t).getD 0 ≤ m * (E + Q) := by
  intro m
  induction m with
  | zero => intro a t _ _; exact Nat.zero_le _
  | succ m ih =>
    intro a t hm ha
    have h := srG_le (dst := dst) (pl := pl) (K := K) (m := m) (E := E) (Q := Q) (R := m * (E + Q)) (sub := srN dst pl K P m) (a := a) (t := t) (fun p => hd a p ha) (fun p => ih _ _ (by omega) (hpl p)) (fun p hp => hQ m p (by omega) hp) P hP
    have e : (m + 1) * (E + Q) = E + Q + m * (E + Q) := by rw [Nat.succ_mul, Nat.add_comm]
    rw [e]
    exact h
theorem absd_le {a b m : Nat} (ha : a ≤ m) (hb : b ≤ m) : absd a b ≤ m := by
  unfold absd
  split <;> omega
theorem dist_le (W : Nat) {a b : Nat} (ha : a < 49) (hb : b < 49) : dist W a b ≤ 96 := by
  have h1 := absd_le (m := 48) (Nat.le_trans (Nat.mod_le a W) (by omega)) (Nat.le_trans (Nat.mod_le b W) (by omega))
  have h2 := absd_le (m := 48) (Nat.le_trans (Nat.div_le_self a W) (by omega)) (Nat.le_trans (Nat.div_le_self b W) (by omega))
  unfold dist
  omega
theorem srG_some {dst : Nat → Nat → Nat} {pl : Nat → Nat} {K m : Nat} {sub : Nat → Nat → Option Nat} {a t p : Nat} (ht : Nat.testBit t p = true) : ∀ n, p < n → ∃ v, fo (srG dst pl K m sub a t) n none = some v := by
  intro n
  induction n with
  | zero => intro h; omega
  | succ n ih =>
    intro h
    show ∃ v, srG dst pl K m sub a t n (fo (srG dst pl K m sub a t) n none) = some v
    by_cases e : p = n
    · subst e
      generalize fo (srG dst pl K m sub a t) p none = b
      unfold srG
      rw [ht]
      cases b with
      | none => exact ⟨_, rfl⟩
      | some u => exact ⟨_, rfl⟩
    · obtain ⟨v, hv⟩ := ih (by omega)
      rw [hv]
      unfold srG
      cases Nat.testBit t n with
      | true => exact ⟨_, rfl⟩
      | false => exact ⟨_, rfl⟩
theorem cn_ne {t : Nat} : ∀ {P : Nat}, 0 < cntB (Nat.testBit t) P → ∃ p, p < P ∧ Nat.testBit t p = true
  | 0, h => absurd h (Nat.lt_irrefl 0)
  | n + 1, h => by
    cases hb : Nat.testBit t n with
    | true => exact ⟨n, by omega, hb⟩
    | false =>
      have h2 : 0 < cntB (Nat.testBit t) n := by
        have : cntB (Nat.testBit t) (n + 1) = cntB (Nat.testBit t) n + (bif Nat.testBit t n then 1 else 0) := rfl
        rw [this, hb] at h
        exact h
      obtain ⟨p, p1, p2⟩ := cn_ne h2
      exact ⟨p, by omega, p2⟩
theorem cn_drop : ∀ t, t < 128 → ∀ p, p < 7 → Nat.testBit t p = true → ∀ P, P < 8 → p < P → cntB (Nat.testBit (t - 2 ^ p)) P + 1 = cntB (Nat.testBit t) P := by decide +kernel
theorem tb_drop : ∀ t, t < 128 → ∀ p, p < 7 → Nat.testBit t p = true → ∀ q, q < 7 → Nat.testBit (t - 2 ^ p) q = true → Nat.testBit t q = true := by decide +kernel
theorem set_drop : ∀ t, t < 128 → ∀ p, p < 7 → Nat.testBit t p = true → nI t &&& (((1 : Int32) <<< (nI p &&& 31)) ^^^ (-1)) = nI (t - 2 ^ p) := by decide +kernel
theorem set_bit : ∀ t, t < 128 → ∀ p, p < 7 → ((nI t >>> (nI p &&& 31)) &&& 1) = b01 (Nat.testBit t p) := by decide +kernel
theorem m1_ne {v : Nat} (h : v < 2 ^ 31) : ¬ lN v = -1 := by
  intro z
  rw [fa_eq64, lN_toInt h] at z
  have : (-1 : Int64).toInt = -1 := by decide
  omega
theorem e_bitCountI (sc : Scr) (d : Nat) (h : AHp) : ∀ t, t < 128 → Ev sc d m_JI_bitCount 0 (iniL 1 [.int (nI t)]) [] h (some (.int (nI (cntB (Nat.testBit t) 7)))) h := by
  intro t ht
  refine ev_gos 99 rfl ?_
  refine ev_ri rfl ?_ rfl
  revert t
  decide +kernel
section RND
variable {sc : Scr} {d : Nat} {w : Bool} {s : Nat → Int32} {l : Nat → Int64} {A : Nat → Nat → Int32} {B : Nat → Nat → Int64} {W H P : Nat}
def plA (A : Nat → Nat → Int32) (p : Nat) : Nat := (A 11 p).toNatClampNeg % 49
theorem e_round_loop (hN : CN s l A B W H P) (hW1 : 1 ≤ W) (hA : LF (A 11) (W * H)) {K m a t : Nat} (hK : K = 1000000) (hm : m ≤ 4) (ha : a < 49) (ht : t < 128) (hc : cntB (Nat.testBit t) P = m + 1) (hal : ∀ p, p < P → Nat.testBit t p = true → ¬ A 11 p = -1) (hle : ∀ a t n, a < 49 → n ≤ 7 → (fo (srG (dist W) (plA A) K m (srN (dist W) (plA A) K P m) a t) n none).getD 0 < 2 ^ 31) (hve : ∀ q p t', q < 49 → p < 7 → dist W a q * K + (p + 1) * 10 ^ m + (srN (dist W) (plA A) K P m q t').getD 0 < 2 ^ 31) (ih0 : ∀ a' t', a' < 49 → t' < 128 → cntB (Nat.testBit t') P = m → (∀ p, p < P → Nat.testBit t' p = true → ¬ A 11 p = -1) → Ev sc (d + m + 1) m_C_shortestRound 0 (iniL 16 [.ref (wL w), .ref 11, .int (nI a'), .int (nI t'), .int (nI m)]) [] (HH w s l A B) (some (.long (lN ((srN (dist W) (plA A) K P m a' t').getD 0)))) (HH w s l A B)) : ∀ (n i : Nat), i + n = P → Ev sc (d + m + 2) m_C_shortestRound 37 [some (.ref (wL w)), some (.ref 11), some (.int (nI a)), some (.int (nI t)), some (.int (nI (m + 1))), some (.long (lN (10 ^ m))), none, some (.long (encO (fo (srG (dist W) (plA A) K m (srN (dist W) (plA A) K P m) a t) i none))), none, some (.int (nI i)), none, none, none, none, none, none] [.int (s 17), .int (nI i)] (HH w s l A B) (some (.long (encO (srN (dist W) (plA A) K P (m + 1) a t)))) (HH w s l A B) := by
  have h49 := hN.n49
  have hP7 : P ≤ 7 := hN.2.2.2.2.2.1
  have hW7 : W ≤ 7 := hN.2.2.2.1
  intro n
  induction n with
  | zero =>
    intro i hi
    have e : i = P := by omega
    subst e
    refine ev_ift rfl rfl rfl (c_ge (by rw [hN.2.2.1]; exact (nI_leI (by omega) (by omega)).mpr (by omega))) ?_
    repeat (first | refine ev_gos 99 rfl ?_ | refine ev_gf2 rfl rfl rfl rfl ?_ | refine ev_gf2 rfl rfl HH_land rfl ?_ | refine ev_gf2 rfl rfl HH_draft rfl ?_ | refine ev_gf2 rfl rfl (by with_reducible assumption) rfl ?_)
    exact ev_rl rfl rfl rfl
  | succ n ih =>
    intro i hi
    refine ev_iff rfl rfl rfl (d_ge (by rw [hN.2.2.1]; exact nI_lt3 (by omega) (by omega) (by omega))) ?_
    repeat (first | refine ev_gos 99 rfl ?_ | refine ev_gf2 rfl rfl rfl rfl ?_ | refine ev_gf2 rfl rfl HH_land rfl ?_ | refine ev_gf2 rfl rfl HH_draft rfl ?_ | refine ev_gf2 rfl rfl (by with_reducible assumption) rfl ?_)
    refine ev_len rfl (Or.inl (rd_of rfl)) ?_
    refine ev_iff rfl rfl rfl (d_ge (nI_lt3 (by omega) (by omega) (by omega))) ?_
    repeat (first | refine ev_gos 99 rfl ?_ | refine ev_gf2 rfl rfl rfl rfl ?_ | refine ev_gf2 rfl rfl HH_land rfl ?_ | refine ev_gf2 rfl rfl HH_draft rfl ?_ | refine ev_gf2 rfl rfl (by with_reducible assumption) rfl ?_)
    have h3 := ih (i + 1) (by omega)
    rw [← nI_1 i] at h3
    have hst : fo (srG (dist W) (plA A) K m (srN (dist W) (plA A) K P m) a t) (i + 1) none = srG (dist W) (plA A) K m (srN (dist W) (plA A) K P m) a t i (fo (srG (dist W) (plA A) K m (srN (dist W) (plA A) K P m) a t) i none) := rfl
    have hb1 := hle a t i ha (by omega)
    rw [hst] at h3
    generalize fo (srG (dist W) (plA A) K m (srN (dist W) (plA A) K P m) a t) i none = b at h3 hb1 ⊢
    unfold srG at h3
    cases hb : Nat.testBit t i with
    | false =>
      rw [hb] at h3
      refine ev_ift rfl rfl rfl (i_eq (by show ((nI t >>> (nI i &&& 31)) &&& 1) = 0; rw [set_bit t ht i (by omega), hb]; rfl)) ?_
      repeat (first | refine ev_gos 99 rfl ?_ | refine ev_gf2 rfl rfl rfl rfl ?_ | refine ev_gf2 rfl rfl HH_land rfl ?_ | refine ev_gf2 rfl rfl HH_draft rfl ?_ | refine ev_gf2 rfl rfl (by with_reducible assumption) rfl ?_)
      exact ev_wk2 h3 rfl (by repeat' (first | exact trivial | refine ⟨rfl, ?_⟩))
    | true =>
      rw [hb] at h3
      refine ev_iff rfl rfl rfl (j_eq (by show ¬ ((nI t >>> (nI i &&& 31)) &&& 1) = 0; rw [set_bit t ht i (by omega), hb]; decide)) ?_
      repeat (first | refine ev_gos 99 rfl ?_ | refine ev_gf2 rfl rfl rfl rfl ?_ | refine ev_gf2 rfl rfl HH_land rfl ?_ | refine ev_gf2 rfl rfl HH_draft rfl ?_ | refine ev_gf2 rfl rfl (by with_reducible assumption) rfl ?_)
      (refine ev_ia rfl rfl (inI (by omega) (by decide)) ?_; rw [nI_clamp (by omega)])
      rcases hA i (by omega) with e | ⟨q, q1, q2⟩
      · exact absurd e (hal i (by omega) hb)
      have hpl : plA A i = q := by unfold plA; rw [q2, nI_clamp (by omega), Nat.mod_eq_of_lt (by omega)]
      rw [hpl] at h3
      rw [q2]
      refine ev_cv rfl rfl HH_land (e_steps HH_land hN.1 hW1 hW7 ha (by omega)) ?_
      repeat (first | refine ev_gos 99 rfl ?_ | refine ev_gf2 rfl rfl rfl rfl ?_ | refine ev_gf2 rfl rfl HH_land rfl ?_ | refine ev_gf2 rfl rfl HH_draft rfl ?_ | refine ev_gf2 rfl rfl (by with_reducible assumption) rfl ?_)
      (refine ev_ia rfl rfl (inI (by omega) (by decide)) ?_; rw [nI_clamp (by omega)])
      rw [q2]
      repeat (first | refine ev_gos 99 rfl ?_ | refine ev_gf2 rfl rfl rfl rfl ?_ | refine ev_gf2 rfl rfl HH_land rfl ?_ | refine ev_gf2 rfl rfl HH_draft rfl ?_ | refine ev_gf2 rfl rfl (by with_reducible assumption) rfl ?_)
      have hdr := set_drop t ht i (by omega) hb
      have hcd := cn_drop t ht i (by omega) hb P (by omega) (by omega)
      have h7 := ih0 q (t - 2 ^ i) (by omega) (Nat.lt_of_le_of_lt (Nat.sub_le _ _) ht) (by omega) (fun p hp hp2 => hal p hp (tb_drop t ht i (by omega) hb p (by omega) hp2))
      refine ev_cs rfl rfl rfl (by
        rw [← hdr] at h7
        have e := nI_pred m
        rw [← e] at h7
        exact h7) ?_
      repeat (first | refine ev_gos 99 rfl ?_ | refine ev_gf2 rfl rfl rfl rfl ?_ | refine ev_gf2 rfl rfl HH_land rfl ?_ | refine ev_gf2 rfl rfl HH_draft rfl ?_ | refine ev_gf2 rfl rfl (by with_reducible assumption) rfl ?_)
      have hv := hve q i (t - 2 ^ i) (by omega) (by omega)
      have ev : (nI (dist W a q)).toInt64 * 1000000 + (nI i + 1).toInt64 * lN (10 ^ m) + lN ((srN (dist W) (plA A) K P m q (t - 2 ^ i)).getD 0) = lN (dist W a q * K + (i + 1) * 10 ^ m + (srN (dist W) (plA A) K P m q (t - 2 ^ i)).getD 0) := by
        have hd := dist_le W ha (show q < 49 by omega)
        rw [nI_1, nI_l (by omega), nI_l (by omega), show (1000000 : Int64) = lN K by rw [hK]; rfl, lN_mul, lN_mul, lN_add, lN_add]
      dsimp only [cond_true] at h3
      generalize dist W a q * K + (i + 1) * 10 ^ m + (srN (dist W) (plA A) K P m q (t - 2 ^ i)).getD 0 = v at h3 hv ev
      cases b with
      | none =>
        refine ev_iff rfl rfl rfl (j_ne (lc_eq.mpr rfl)) ?_
        repeat (first | refine ev_gos 99 rfl ?_ | refine ev_gf2 rfl rfl rfl rfl ?_ | refine ev_gf2 rfl rfl HH_land rfl ?_ | refine ev_gf2 rfl rfl HH_draft rfl ?_ | refine ev_gf2 rfl rfl (by with_reducible assumption) rfl ?_)
        rw [show encO (mnO none v) = lN v from rfl, ← ev] at h3
        exact ev_wk2 h3 rfl (by repeat' (first | exact trivial | refine ⟨rfl, ?_⟩))
      | some u =>
        refine ev_ift rfl rfl rfl (i_ne (fun z => m1_ne hb1 (lc_eq.mp z))) ?_
        repeat (first | refine ev_gos 99 rfl ?_ | refine ev_gf2 rfl rfl rfl rfl ?_ | refine ev_gf2 rfl rfl HH_land rfl ?_ | refine ev_gf2 rfl rfl HH_draft rfl ?_ | refine ev_gf2 rfl rfl (by with_reducible assumption) rfl ?_)
        refine ev_hw rfl rfl rfl ?_
        repeat (first | refine ev_gos 99 rfl ?_ | refine ev_gf2 rfl rfl rfl rfl ?_ | refine ev_gf2 rfl rfl HH_land rfl ?_ | refine ev_gf2 rfl rfl HH_draft rfl ?_ | refine ev_gf2 rfl rfl (by with_reducible assumption) rfl ?_)
        have hb1 : u < 2 ^ 31 := hb1
        have e2 : encO (mnO (some u) v) = if lN v < lN u then lN v else lN u := by
          show lN (if v < u then v else u) = _
          by_cases hq : v < u
          · rw [if_pos hq, if_pos ((lN_lt hv hb1).mpr hq)]
          · rw [if_neg hq, if_neg (fun z => hq ((lN_lt hv hb1).mp z))]
        rw [e2, ← ev] at h3
        exact ev_wk2 h3 rfl (by repeat' (first | exact trivial | refine ⟨rfl, ?_⟩))
theorem e_round (hN : CN s l A B W H P) (hW1 : 1 ≤ W) (hA : LF (A 11) (W * H)) {K : Nat} (hK : K = 1000000) : ∀ (m a t : Nat), m ≤ 5 → a < 49 → t < 128 → cntB (Nat.testBit t) P = m → (∀ p, p < P → Nat.testBit t p = true → ¬ A 11 p = -1) → Ev sc (d + m + 1) m_C_shortestRound 0 (iniL 16 [.ref (wL w), .ref 11, .int (nI a), .int (nI t), .int (nI m)]) [] (HH w s l A B) (some (.long (lN ((srN (dist W) (plA A) K P m a t).getD 0)))) (HH w s l A B) := by
  have hP7 : P ≤ 7 := hN.2.2.2.2.2.1
  have hpl : ∀ p, plA A p < 49 := fun p => Nat.mod_lt _ (by decide)
  intro m
  induction m with
  | zero =>
    intro a t _ ha ht hc hal
    repeat (first | refine ev_gos 99 rfl ?_ | refine ev_gf2 rfl rfl rfl rfl ?_ | refine ev_gf2 rfl rfl HH_land rfl ?_ | refine ev_gf2 rfl rfl HH_draft rfl ?_ | refine ev_gf2 rfl rfl (by with_reducible assumption) rfl ?_)
    refine ev_ift rfl rfl rfl (c_lt (by decide)) ?_
    repeat (first | refine ev_gos 99 rfl ?_ | refine ev_gf2 rfl rfl rfl rfl ?_ | refine ev_gf2 rfl rfl HH_land rfl ?_ | refine ev_gf2 rfl rfl HH_draft rfl ?_ | refine ev_gf2 rfl rfl (by with_reducible assumption) rfl ?_)
    exact ev_rl rfl rfl rfl
  | succ m ih =>
    intro a t hm ha ht hc hal
    have hQ : ∀ m p, m < 5 → p < 7 → (p + 1) * 10 ^ m ≤ 70000 := fun m p hm hp => Nat.le_trans (Nat.mul_le_mul (show p + 1 ≤ 7 by omega) (Nat.pow_le_pow_right (by decide) (show m ≤ 4 by omega))) (by decide)
    have hE : ∀ a q, a < 49 → q < 49 → dist W a q * K ≤ 96 * K := fun a q ha hq => Nat.mul_le_mul_right K (dist_le W ha hq)
    have hR : ∀ a t, a < 49 → (srN (dist W) (plA A) K P m a t).getD 0 ≤ m * (96 * K + 70000) := fun a t ha => srN_le hpl (fun a p ha => hE a _ ha (hpl p)) hP7 hQ m a t (by omega) ha
    have hKb : 96 * K + 70000 + m * (96 * K + 70000) < 2 ^ 31 := by
      have : m * (96 * K + 70000) ≤ 4 * (96 * K + 70000) := Nat.mul_le_mul_right _ (by omega)
      subst hK
      omega
    repeat (first | refine ev_gos 99 rfl ?_ | refine ev_gf2 rfl rfl rfl rfl ?_ | refine ev_gf2 rfl rfl HH_land rfl ?_ | refine ev_gf2 rfl rfl HH_draft rfl ?_ | refine ev_gf2 rfl rfl (by with_reducible assumption) rfl ?_)
    refine ev_iff rfl rfl rfl (d_lt (by rw [show (1 : Int32) = nI 1 from rfl]; exact nI_nlt (by omega) (by omega))) ?_
    repeat (first | refine ev_gos 99 rfl ?_ | refine ev_gf2 rfl rfl rfl rfl ?_ | refine ev_gf2 rfl rfl HH_land rfl ?_ | refine ev_gf2 rfl rfl HH_draft rfl ?_ | refine ev_gf2 rfl rfl (by with_reducible assumption) rfl ?_)
    refine ev_ift rfl rfl rfl (c_le (by rw [show (5 : Int32) = nI 5 from rfl]; exact (nI_leI (by omega) (by omega)).mpr (by omega))) ?_
    repeat (first | refine ev_gos 99 rfl ?_ | refine ev_gf2 rfl rfl rfl rfl ?_ | refine ev_gf2 rfl rfl HH_land rfl ?_ | refine ev_gf2 rfl rfl HH_draft rfl ?_ | refine ev_gf2 rfl rfl (by with_reducible assumption) rfl ?_)
    refine ev_cs rfl rfl rfl (by
      have q := e_ten (sc := sc) (d := d + (m + 1)) (HH w s l A B) (p := m) (by omega)
      rw [← nI_pred m] at q
      exact q) ?_
    repeat (first | refine ev_gos 99 rfl ?_ | refine ev_gf2 rfl rfl rfl rfl ?_ | refine ev_gf2 rfl rfl HH_land rfl ?_ | refine ev_gf2 rfl rfl HH_draft rfl ?_ | refine ev_gf2 rfl rfl (by with_reducible assumption) rfl ?_)
    have h5 := e_round_loop (sc := sc) (d := d) (w := w) (K := K) (m := m) (a := a) (t := t) hN hW1 hA hK (by omega) ha ht hc hal (fun a t n ha hn => by
      have := srG_le (dst := dist W) (pl := plA A) (K := K) (m := m) (sub := srN (dist W) (plA A) K P m) (a := a) (t := t) (E := 96 * K) (Q := 70000) (R := m * (96 * K + 70000)) (fun p => hE a _ ha (hpl p)) (fun p => hR _ _ (hpl p)) (fun p hp => hQ m p (by omega) hp) n hn
      omega) (fun q p t' hq hp => by
      have h1 := hE a q ha hq
      have h2 := hQ m p (by omega) hp
      have h3 := hR q t' hq
      omega) (fun a' t' => ih a' t' (by omega)) P 0 (Nat.zero_add P)
    obtain ⟨p, p1, p2⟩ := cn_ne (t := t) (P := P) (by omega)
    obtain ⟨v, hv⟩ := srG_some (dst := dist W) (pl := plA A) (K := K) (m := m) (sub := srN (dist W) (plA A) K P m) (a := a) p2 P p1
    have e : srN (dist W) (plA A) K P (m + 1) a t = some v := hv
    rw [e] at h5 ⊢
    exact ev_wk2 h5 rfl (by repeat' (first | exact trivial | refine ⟨rfl, ?_⟩))
end RND
