/-! orders of a round: least values -/
theorem leq_t : ∀ {L M : List Nat}, leq L M = true → L = M
  | [], [], _ => rfl
  | x :: r, y :: q, h => by
    obtain ⟨h1, h2⟩ := andE h
    rw [Nat.eq_of_beq_eq_true h1, leq_t h2]
  | [], _ :: _, h => by cases h
  | _ :: _, [], h => by cases h
theorem oeq_t {o : Option (List Nat)} {M : List Nat} (h : oeq o M = true) : o = some M := by
  cases o with
  | none => cases h
  | some L => rw [leq_t h]
theorem ono_t {o : Option (List Nat)} (h : ono o = true) : o = none := by
  cases o with
  | none => rfl
  | some L => cases h
/-! least values -/
def omrg (o : Option Nat) : Option Nat → Option Nat
  | none => o
  | some u => mnO o u
def omin (l : List Nat) : Option Nat := l.foldl mnO none
theorem mnO_mnO (o : Option Nat) (v u : Nat) : mnO (mnO o v) u = mnO o (if u < v then u else v) := by
  cases o with
  | none => rfl
  | some x =>
    show some (if u < (if v < x then v else x) then u else (if v < x then v else x)) = some (if (if u < v then u else v) < x then (if u < v then u else v) else x)
    congr 1
    repeat' split
    all_goals omega
theorem fold_mn : ∀ (l : List Nat) (o : Option Nat), l.foldl mnO o = omrg o (omin l)
  | [], o => rfl
  | v :: l, o => by
    show l.foldl mnO (mnO o v) = omrg o (l.foldl mnO (mnO none v))
    rw [fold_mn l (mnO o v), fold_mn l (mnO none v)]
    cases omin l with
    | none => rfl
    | some u =>
      show mnO (mnO o v) u = omrg o (mnO (some v) u)
      rw [mnO_mnO]
      rfl
theorem omin_cons (v : Nat) (l : List Nat) : ∃ u, omin (v :: l) = some u ∧ u ≤ v := by
  show ∃ u, l.foldl mnO (mnO none v) = some u ∧ u ≤ v
  rw [fold_mn]
  cases omin l with
  | none => exact ⟨v, rfl, Nat.le_refl v⟩
  | some u =>
    refine ⟨if u < v then u else v, rfl, ?_⟩
    split <;> omega
theorem mn_add (c : Nat) (o : Option Nat) (v : Nat) : mnO (o.map (fun x => c + x)) (c + v) = (mnO o v).map (fun x => c + x) := by
  cases o with
  | none => rfl
  | some u =>
    show some (if c + v < c + u then c + v else c + u) = some (c + (if v < u then v else u))
    congr 1
    split <;> split <;> omega
theorem fold_add (c : Nat) : ∀ (l : List Nat) (o : Option Nat), (l.map (fun x => c + x)).foldl mnO (o.map (fun x => c + x)) = (l.foldl mnO o).map (fun x => c + x)
  | [], o => rfl
  | v :: l, o => by
    show (l.map (fun x => c + x)).foldl mnO (mnO (o.map (fun x => c + x)) (c + v)) = (l.foldl mnO (mnO o v)).map (fun x => c + x)
    rw [mn_add]
    exact fold_add c l _
theorem omin_add (c : Nat) (l : List Nat) : omin (l.map (fun x => c + x)) = (omin l).map (fun x => c + x) := fold_add c l none
def sumL (dst : Nat → Nat → Nat) (pl : Nat → Nat) : Nat → List Nat → Nat
  | _, [] => 0
  | a, p :: r => dst a (pl p) + sumL dst pl (pl p) r
def valL (dst : Nat → Nat → Nat) (pl : Nat → Nat) (K a : Nat) (L : List Nat) : Nat := sumL dst pl a L * K + figL 0 L
theorem figL_eq : ∀ (L : List Nat) (f : Nat), figL f L = f * 10 ^ L.length + figL 0 L
  | [], f => by
    show f = f * 10 ^ 0 + 0
    omega
  | p :: r, f => by
    show figL (10 * f + p + 1) r = f * 10 ^ (r.length + 1) + figL (10 * 0 + p + 1) r
    rw [figL_eq r (10 * f + p + 1), figL_eq r (10 * 0 + p + 1), Nat.pow_succ, ← Nat.add_assoc]
    congr 1
    rw [show 10 * f + p + 1 = f * 10 + (10 * 0 + p + 1) by omega, Nat.add_mul]
    congr 1
    rw [Nat.mul_assoc, Nat.mul_comm 10]
theorem val_cons (dst : Nat → Nat → Nat) (pl : Nat → Nat) (K a p : Nat) {L : List Nat} {m : Nat} (hL : L.length = m) : valL dst pl K a (p :: L) = (dst a (pl p) * K + (p + 1) * 10 ^ m) + valL dst pl K (pl p) L := by
  unfold valL
  show (dst a (pl p) + sumL dst pl (pl p) L) * K + figL (10 * 0 + p + 1) L = _
  rw [figL_eq L (10 * 0 + p + 1), hL, Nat.add_mul, show 10 * 0 + p + 1 = p + 1 by omega]
  omega
theorem sb_lt {t x : Nat} (h : t < 128) : t - x < 128 := Nat.lt_of_le_of_lt (Nat.sub_le _ _) h
theorem lexQ_len {sub : Nat → List (List Nat)} {t m : Nat} (hs : ∀ t' L, L ∈ sub t' → L.length = m) : ∀ n L, L ∈ lexQ sub t n → L.length = m + 1
  | 0, L, h => absurd h List.not_mem_nil
  | n + 1, L, h => by
    have h2 : L ∈ lexQ sub t n ++ (bif Nat.testBit t n then (sub (t - 2 ^ n)).map (List.cons n) else []) := h
    rcases List.mem_append.mp h2 with h3 | h3
    · exact lexQ_len hs n L h3
    · cases hb : Nat.testBit t n with
      | false =>
        rw [hb] at h3
        exact absurd h3 List.not_mem_nil
      | true =>
        rw [hb] at h3
        obtain ⟨M, hM, rfl⟩ := List.mem_map.mp h3
        show M.length + 1 = m + 1
        rw [hs _ M hM]
theorem lexP_len : ∀ m t L, L ∈ lexP m t → L.length = m
  | 0, t, L, h => by
    rw [List.mem_singleton.mp h]
    rfl
  | m + 1, t, L, h => lexQ_len (lexP_len m) 7 L h
theorem map_val (dst : Nat → Nat → Nat) (pl : Nat → Nat) (K a p : Nat) {m : Nat} : ∀ (l : List (List Nat)), (∀ L, L ∈ l → L.length = m) → (l.map (List.cons p)).map (valL dst pl K a) = (l.map (valL dst pl K (pl p))).map (fun x => (dst a (pl p) * K + (p + 1) * 10 ^ m) + x)
  | [], _ => rfl
  | L :: l, h => by
    show valL dst pl K a (p :: L) :: _ = (_ + valL dst pl K (pl p) L) :: _
    rw [val_cons dst pl K a p (h L List.mem_cons_self), ← map_val dst pl K a p l (fun M hM => h M (List.mem_cons_of_mem _ hM))]
theorem lexP_ne : ∀ m t, t < 128 → cntB (Nat.testBit t) 7 = m → ∃ L r, lexP m t = L :: r
  | 0, t, _, _ => ⟨[], [], rfl⟩
  | m + 1, t, ht, hc => by
    obtain ⟨p, p1, p2⟩ := cn_ne (t := t) (P := 7) (by omega)
    have hd := cn_drop t ht p p1 p2 7 (by decide) p1
    obtain ⟨L, r, e⟩ := lexP_ne m (t - 2 ^ p) (sb_lt ht) (by omega)
    have hmem : ∀ n, p < n → (p :: L) ∈ lexQ (lexP m) t n := by
      intro n
      induction n with
      | zero => intro h; omega
      | succ n ih =>
        intro h
        show (p :: L) ∈ lexQ (lexP m) t n ++ (bif Nat.testBit t n then (lexP m (t - 2 ^ n)).map (List.cons n) else [])
        by_cases q : p = n
        · subst q
          rw [p2]
          refine List.mem_append.mpr (Or.inr (List.mem_map.mpr ⟨L, ?_, rfl⟩))
          rw [e]
          exact List.mem_cons_self
        · exact List.mem_append.mpr (Or.inl (ih (by omega)))
    have hm := hmem 7 p1
    cases hl : lexP (m + 1) t with
    | nil =>
      have h2 : lexQ (lexP m) t 7 = [] := hl
      rw [h2] at hm
      exact absurd hm List.not_mem_nil
    | cons a b => exact ⟨a, b, rfl⟩
theorem srN_min (dst : Nat → Nat → Nat) (pl : Nat → Nat) (K : Nat) : ∀ m a t, t < 128 → cntB (Nat.testBit t) 7 = m → srN dst pl K 7 m a t = omin ((lexP m t).map (valL dst pl K a))
  | 0, a, t, _, _ => by
    show some 0 = omin [valL dst pl K a []]
    show some 0 = some (0 * K + 0)
    congr 1
    omega
  | m + 1, a, t, ht, hc => by
    have key : ∀ n, n ≤ 7 → fo (srG dst pl K m (srN dst pl K 7 m) a t) n none = omin ((lexQ (lexP m) t n).map (valL dst pl K a)) := by
      intro n
      induction n with
      | zero => intro _; rfl
      | succ n ih =>
        intro hn
        have ih := ih (by omega)
        show srG dst pl K m (srN dst pl K 7 m) a t n (fo (srG dst pl K m (srN dst pl K 7 m) a t) n none) = omin ((lexQ (lexP m) t n ++ (bif Nat.testBit t n then (lexP m (t - 2 ^ n)).map (List.cons n) else [])).map (valL dst pl K a))
        rw [ih]
        unfold srG
        cases hb : Nat.testBit t n with
        | false =>
          show _ = omin ((lexQ (lexP m) t n ++ []).map (valL dst pl K a))
          rw [List.append_nil]
          rfl
        | true =>
          show mnO _ (dst a (pl n) * K + (n + 1) * 10 ^ m + (srN dst pl K 7 m (pl n) (t - 2 ^ n)).getD 0) = omin ((lexQ (lexP m) t n ++ (lexP m (t - 2 ^ n)).map (List.cons n)).map (valL dst pl K a))
          have hd := cn_drop t ht n (by omega) hb 7 (by decide) (by omega)
          rw [srN_min dst pl K m (pl n) (t - 2 ^ n) (sb_lt ht) (by omega), List.map_append, map_val dst pl K a n (lexP m (t - 2 ^ n)) (lexP_len m _)]
          show _ = ((lexQ (lexP m) t n).map (valL dst pl K a) ++ _).foldl mnO none
          rw [List.foldl_append, fold_mn _ ((lexQ (lexP m) t n).map (valL dst pl K a) |>.foldl mnO none), omin_add]
          obtain ⟨L, r, e⟩ := lexP_ne m (t - 2 ^ n) (sb_lt ht) (by omega)
          rw [e]
          obtain ⟨u, hu, _⟩ := omin_cons (valL dst pl K (pl n) L) (r.map (valL dst pl K (pl n)))
          rw [List.map_cons, hu]
          rfl
    exact key 7 (Nat.le_refl 7)
theorem srG_skip {dst : Nat → Nat → Nat} {pl : Nat → Nat} {K m P : Nat} {sub : Nat → Nat → Option Nat} {a t : Nat} (h : ∀ p, P ≤ p → Nat.testBit t p = false) (b : Option Nat) : ∀ n, fo (srG dst pl K m sub a t) (P + n) b = fo (srG dst pl K m sub a t) P b
  | 0 => rfl
  | n + 1 => by
    show srG dst pl K m sub a t (P + n) (fo (srG dst pl K m sub a t) (P + n) b) = _
    rw [srG_skip h b n]
    unfold srG
    rw [h (P + n) (by omega)]
    rfl
theorem srG_cong {dst : Nat → Nat → Nat} {pl : Nat → Nat} {K m : Nat} {sub sub2 : Nat → Nat → Option Nat} {a t : Nat} (h : ∀ p, Nat.testBit t p = true → p < 7 → sub (pl p) (t - 2 ^ p) = sub2 (pl p) (t - 2 ^ p)) (b : Option Nat) : ∀ n, n ≤ 7 → fo (srG dst pl K m sub a t) n b = fo (srG dst pl K m sub2 a t) n b
  | 0, _ => rfl
  | n + 1, hn => by
    show srG dst pl K m sub a t n (fo (srG dst pl K m sub a t) n b) = srG dst pl K m sub2 a t n (fo (srG dst pl K m sub2 a t) n b)
    rw [srG_cong h b n (by omega)]
    unfold srG
    cases hb : Nat.testBit t n with
    | false => rfl
    | true => rw [h n hb (by omega)]
theorem tb_hi {t p : Nat} (h : t < 128) (hp : 7 ≤ p) : Nat.testBit t p = false := Nat.testBit_lt_two_pow (Nat.lt_of_lt_of_le (show t < 2 ^ 7 from h) (Nat.pow_le_pow_right (show 0 < 2 by decide) hp))
theorem srN_7 {dst : Nat → Nat → Nat} {pl : Nat → Nat} {K P : Nat} (hP : P ≤ 7) : ∀ m a t, t < 128 → (∀ p, P ≤ p → Nat.testBit t p = false) → srN dst pl K P m a t = srN dst pl K 7 m a t
  | 0, _, _, _, _ => rfl
  | m + 1, a, t, ht, h => by
    show fo (srG dst pl K m (srN dst pl K P m) a t) P none = fo (srG dst pl K m (srN dst pl K 7 m) a t) 7 none
    have e := srG_skip (dst := dst) (pl := pl) (K := K) (m := m) (sub := srN dst pl K P m) (a := a) h none (7 - P)
    rw [show P + (7 - P) = 7 by omega] at e
    rw [← e]
    refine srG_cong (fun p hb h7 => ?_) none 7 (Nat.le_refl 7)
    refine srN_7 hP m (pl p) (t - 2 ^ p) (sb_lt ht) (fun q hq => ?_)
    cases z : Nat.testBit (t - 2 ^ p) q with
    | false => rfl
    | true =>
      by_cases q7 : q < 7
      · rw [← h q hq]
        exact (tb_drop t ht p h7 hb q q7 z).symm
      · rw [tb_hi (sb_lt ht) (by omega)] at z
        cases z
/-! the model's choice -/
def mdF (dst : Nat → Nat → Nat) (pl : Nat → Nat) (a : Nat) (b : Nat × Nat) (L : List Nat) : Nat × Nat := if sumL dst pl a L < b.1 then (sumL dst pl a L, figL 0 L) else b
theorem md_min (dst : Nat → Nat → Nat) (pl : Nat → Nat) (a : Nat) : ∀ (l : List (List Nat)) (b : Nat × Nat), b.2 < 1000000 → ascB b.2 l = true → (l.foldl (mdF dst pl a) b).2 < 1000000 ∧ (l.foldl (mdF dst pl a) b).1 * 1000000 + (l.foldl (mdF dst pl a) b).2 = (omrg (some (b.1 * 1000000 + b.2)) (omin (l.map (valL dst pl 1000000 a)))).getD 0
  | [], b, h, _ => ⟨h, rfl⟩
  | L :: l, b, h, ha => by
    obtain ⟨a1, a2⟩ := andE ha
    obtain ⟨a2, a3⟩ := andE a2
    have a1 : b.2 < figL 0 L := Nat.le_of_ble_eq_true a1
    have a2 : figL 0 L < 1000000 := Nat.le_of_ble_eq_true a2
    have hasc : ∀ (l : List (List Nat)) (f g : Nat), f ≤ g → ascB g l = true → ascB f l = true := by
      intro l f g hfg h
      cases l with
      | nil => rfl
      | cons M r =>
        obtain ⟨b1, b2⟩ := andE h
        have b1 : g < figL 0 M := Nat.le_of_ble_eq_true b1
        show (Nat.blt f (figL 0 M) && (Nat.blt (figL 0 M) 1000000 && ascB (figL 0 M) r)) = true
        rw [b2, show Nat.blt f (figL 0 M) = true from Nat.ble_eq_true_of_le (show f + 1 ≤ figL 0 M by omega)]
        rfl
    have hstep : (mdF dst pl a b L).2 < 1000000 ∧ ascB (mdF dst pl a b L).2 l = true ∧ (mdF dst pl a b L).1 * 1000000 + (mdF dst pl a b L).2 = (if valL dst pl 1000000 a L < b.1 * 1000000 + b.2 then valL dst pl 1000000 a L else b.1 * 1000000 + b.2) := by
      unfold mdF valL
      by_cases q : sumL dst pl a L < b.1
      · rw [if_pos q, if_pos (by omega)]
        exact ⟨a2, a3, rfl⟩
      · rw [if_neg q, if_neg (by omega)]
        exact ⟨h, hasc l _ _ (by omega) a3, rfl⟩
    obtain ⟨s1, s2, s3⟩ := hstep
    obtain ⟨t1, t2⟩ := md_min dst pl a l (mdF dst pl a b L) s1 s2
    refine ⟨t1, t2.trans ?_⟩
    rw [s3]
    show _ = (omrg (some (b.1 * 1000000 + b.2)) ((l.map (valL dst pl 1000000 a)).foldl mnO (mnO none (valL dst pl 1000000 a L)))).getD 0
    rw [fold_mn]
    cases omin (l.map (valL dst pl 1000000 a)) with
    | none => rfl
    | some u =>
      show (mnO (mnO (some (b.1 * 1000000 + b.2)) (valL dst pl 1000000 a L)) u).getD 0 = (omrg (some (b.1 * 1000000 + b.2)) (mnO (some (valL dst pl 1000000 a L)) u)).getD 0
      rw [mnO_mnO]
      rfl
