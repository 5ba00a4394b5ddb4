/-! the reader: its state, and reading on -/
abbrev RS : Type := (Nat → Int32) × (Nat → Int64) × (Nat → Int32) × (Nat → Int64)
/-- ints of the reader and of the draft: fault 1, its place 2, place 3, place of the number 4, wind told 5; across 19, down 20, people 21, wind 22 -/
def isR (q : Nat) : Bool := (Nat.ble 1 q && Nat.ble q 5) || (Nat.ble 19 q && Nat.ble q 22)
def isRl (q : Nat) : Bool := Nat.ble 4 q && Nat.ble q 7
def rsS (s : Nat → Int32) (r : RS) : Nat → Int32 := fun q => bif isR q then r.1 q else s q
def rsL (l : Nat → Int64) (r : RS) : Nat → Int64 := fun q => bif isRl q then r.2.1 q else l q
def sR (r : RS) (p : Nat) (x : Int32) : RS := (upA r.1 p x, r.2)
def sRl (r : RS) (p : Nat) (x : Int64) : RS := (r.1, upA r.2.1 p x, r.2.2)
def sRk (r : RS) (f : Nat → Int32) : RS := (r.1, r.2.1, f, r.2.2.2)
def sRb (r : RS) (f : Nat → Int64) : RS := (r.1, r.2.1, r.2.2.1, f)
abbrev DR (w : Bool) (s : Nat → Int32) (l : Nat → Int64) (A : Nat → Nat → Int32) (B : Nat → Nat → Int64) (r : RS) : AHp := HH w (rsS s r) (rsL l r) (upA A 7 r.2.2.1) (upA B 8 r.2.2.2)
theorem bq_f {q p : Nat} (h : ¬ q = p) : Nat.beq q p = false := by
  cases hb : Nat.beq q p with
  | false => rfl
  | true => exact absurd (Nat.eq_of_beq_eq_true hb) h
theorem upA_ne {α : Type} (A : Nat → α) {p q : Nat} (f : α) (h : ¬ q = p) : upA A p f q = A q := by
  show (bif Nat.beq q p then f else A q) = A q
  rw [bq_f h]
  rfl
theorem rs_in (s : Nat → Int32) (r : RS) {p : Nat} (hp : isR p = true) (x : Int32) : upA (rsS s r) p x = rsS s (sR r p x) := by
  funext q
  by_cases h : q = p
  · subst h
    rw [upA_at]
    show x = bif isR q then upA r.1 q x q else s q
    rw [hp, upA_at]
    rfl
  · rw [upA_ne _ _ h]
    show rsS s r q = bif isR q then upA r.1 p x q else s q
    rw [upA_ne _ _ h]
    rfl
theorem rs_out (s : Nat → Int32) (r : RS) {p : Nat} (hp : isR p = false) (x : Int32) : upA (rsS s r) p x = rsS (upA s p x) r := by
  funext q
  by_cases h : q = p
  · subst h
    rw [upA_at]
    show x = bif isR q then r.1 q else upA s q x q
    rw [hp, upA_at]
    rfl
  · rw [upA_ne _ _ h]
    show rsS s r q = bif isR q then r.1 q else upA s p x q
    rw [upA_ne _ _ h]
    rfl
theorem rl_in (l : Nat → Int64) (r : RS) {p : Nat} (hp : isRl p = true) (x : Int64) : upA (rsL l r) p x = rsL l (sRl r p x) := by
  funext q
  by_cases h : q = p
  · subst h
    rw [upA_at]
    show x = bif isRl q then upA r.2.1 q x q else l q
    rw [hp, upA_at]
    rfl
  · rw [upA_ne _ _ h]
    show rsL l r q = bif isRl q then upA r.2.1 p x q else l q
    rw [upA_ne _ _ h]
    rfl
theorem sR_up (r : RS) (p : Nat) (x y : Int32) : sR (sR r p x) p y = sR r p y := by unfold sR; dsimp only; rw [upA_up]
theorem sR_id {r : RS} {p : Nat} {x : Int32} (h : r.1 p = x) : sR r p x = r := by unfold sR; rw [← h, upA_id]
theorem sR_comm (r : RS) {p q : Nat} (h : Nat.beq p q = false) (x y : Int32) : sR (sR r p x) q y = sR (sR r q y) p x := by unfold sR; dsimp only; rw [upA_comm _ h]
section DRR
variable {sc : Scr} {d M pc nx i : Nat} {v : Value} {L : Lcs} {S : Stk} {h' : AHp} {o : Option Value} {c n : Nat}
variable {w : Bool} {s : Nat → Int32} {l : Nat → Int64} {A : Nat → Nat → Int32} {B : Nat → Nat → Int64} {r : RS}
theorem pD_1 {x : Int32} (hc : cAt M pc = some (.putfield i, nx, 3, 2, v)) (k : Ek sc d M nx L S (DR w s l A B (sR r 1 x)) o h' c n) : Ek sc d M pc L (.int x :: .ref 1 :: S) (DR w s l A B r) o h' c n := by
  refine pf_R_1 hc ?_
  rw [rs_in s r rfl]
  exact k
theorem pD_2 {x : Int32} (hc : cAt M pc = some (.putfield i, nx, 3, 3, v)) (k : Ek sc d M nx L S (DR w s l A B (sR r 2 x)) o h' c n) : Ek sc d M pc L (.int x :: .ref 1 :: S) (DR w s l A B r) o h' c n := by
  refine pf_R_2 hc ?_
  rw [rs_in s r rfl]
  exact k
theorem pD_3 {x : Int32} (hc : cAt M pc = some (.putfield i, nx, 3, 4, v)) (k : Ek sc d M nx L S (DR w s l A B (sR r 3 x)) o h' c n) : Ek sc d M pc L (.int x :: .ref 1 :: S) (DR w s l A B r) o h' c n := by
  refine pf_R_3 hc ?_
  rw [rs_in s r rfl]
  exact k
theorem pD_4 {x : Int32} (hc : cAt M pc = some (.putfield i, nx, 3, 5, v)) (k : Ek sc d M nx L S (DR w s l A B (sR r 4 x)) o h' c n) : Ek sc d M pc L (.int x :: .ref 1 :: S) (DR w s l A B r) o h' c n := by
  refine pf_R_4 hc ?_
  rw [rs_in s r rfl]
  exact k
theorem pD_5 {x : Int32} (hx : x = 0 ∨ x = 1) (hc : cAt M pc = some (.putfield i, nx, 3, 6, v)) (k : Ek sc d M nx L S (DR w s l A B (sR r 5 x)) o h' c n) : Ek sc d M pc L (.int x :: .ref 1 :: S) (DR w s l A B r) o h' c n := by
  refine pf_R_5 hx hc ?_
  rw [rs_in s r rfl]
  exact k
theorem pD_19 {x : Int32} (hc : cAt M pc = some (.putfield i, nx, 1, 0, v)) (k : Ek sc d M nx L S (DR w s l A B (sR r 19 x)) o h' c n) : Ek sc d M pc L (.int x :: .ref (wL (!w)) :: S) (DR w s l A B r) o h' c n := by
  refine pf_D_19 hc ?_
  rw [rs_in s r rfl]
  exact k
theorem pD_20 {x : Int32} (hc : cAt M pc = some (.putfield i, nx, 1, 1, v)) (k : Ek sc d M nx L S (DR w s l A B (sR r 20 x)) o h' c n) : Ek sc d M pc L (.int x :: .ref (wL (!w)) :: S) (DR w s l A B r) o h' c n := by
  refine pf_D_20 hc ?_
  rw [rs_in s r rfl]
  exact k
theorem pD_21 {x : Int32} (hc : cAt M pc = some (.putfield i, nx, 1, 2, v)) (k : Ek sc d M nx L S (DR w s l A B (sR r 21 x)) o h' c n) : Ek sc d M pc L (.int x :: .ref (wL (!w)) :: S) (DR w s l A B r) o h' c n := by
  refine pf_D_21 hc ?_
  rw [rs_in s r rfl]
  exact k
theorem pD_22 {x : Int32} (hc : cAt M pc = some (.putfield i, nx, 1, 3, v)) (k : Ek sc d M nx L S (DR w s l A B (sR r 22 x)) o h' c n) : Ek sc d M pc L (.int x :: .ref (wL (!w)) :: S) (DR w s l A B r) o h' c n := by
  refine pf_D_22 hc ?_
  rw [rs_in s r rfl]
  exact k
theorem pDl_4 {x : Int64} (hc : cAt M pc = some (.putfield i, nx, 1, 4, v)) (k : Ek sc d M nx L S (DR w s l A B (sRl r 4 x)) o h' c n) : Ek sc d M pc L (.long x :: .ref (wL (!w)) :: S) (DR w s l A B r) o h' c n := by
  refine pf_D_l4 hc ?_
  rw [rl_in l r rfl]
  exact k
theorem pDl_5 {x : Int64} (hc : cAt M pc = some (.putfield i, nx, 1, 5, v)) (k : Ek sc d M nx L S (DR w s l A B (sRl r 5 x)) o h' c n) : Ek sc d M pc L (.long x :: .ref (wL (!w)) :: S) (DR w s l A B r) o h' c n := by
  refine pf_D_l5 hc ?_
  rw [rl_in l r rfl]
  exact k
theorem pDl_6 {x : Int64} (hc : cAt M pc = some (.putfield i, nx, 1, 6, v)) (k : Ek sc d M nx L S (DR w s l A B (sRl r 6 x)) o h' c n) : Ek sc d M pc L (.long x :: .ref (wL (!w)) :: S) (DR w s l A B r) o h' c n := by
  refine pf_D_l6 hc ?_
  rw [rl_in l r rfl]
  exact k
theorem pDl_7 {x : Int64} (hc : cAt M pc = some (.putfield i, nx, 1, 7, v)) (k : Ek sc d M nx L S (DR w s l A B (sRl r 7 x)) o h' c n) : Ek sc d M pc L (.long x :: .ref (wL (!w)) :: S) (DR w s l A B r) o h' c n := by
  refine pf_D_l7 hc ?_
  rw [rl_in l r rfl]
  exact k
theorem sD_k {j x : Int32} {a b : Nat} (hc : cAt M pc = some (.iastore, nx, a, b, v)) (hi : inB j 7 = true) (k : Ek sc d M nx L S (DR w s l A B (sRk r (upd r.2.2.1 j.toNatClampNeg x))) o h' c n) : Ek sc d M pc L (.int x :: .int j :: .ref (wK (!w)) :: S) (DR w s l A B r) o h' c n := by
  refine is_dk hc hi ?_
  rw [upA_up, upA_at]
  exact k
theorem sD_b {j : Int32} {x : Int64} {a b : Nat} (hc : cAt M pc = some (.lastore, nx, a, b, v)) (hi : inB j 245 = true) (k : Ek sc d M nx L S (DR w s l A B (sRb r (vp_updL r.2.2.2 j.toNatClampNeg x))) o h' c n) : Ek sc d M pc L (.long x :: .int j :: .ref (wS (!w)) :: S) (DR w s l A B r) o h' c n := ls_ds hc hi k
end DRR
/-! the text -/
def sk (f : Nat → Bool) : Nat → Nat → Nat
  | 0, i => i
  | k + 1, i => bif f i then sk f k (i + 1) else i
theorem sk_ge (f : Nat → Bool) : ∀ k i, i ≤ sk f k i
  | 0, i => Nat.le_refl i
  | k + 1, i => by
    show i ≤ (bif f i then sk f k (i + 1) else i)
    cases f i with
    | true => exact Nat.le_trans (Nat.le_succ i) (sk_ge f k (i + 1))
    | false => exact Nat.le_refl i
theorem sk_le (f : Nat → Bool) : ∀ k i, sk f k i ≤ i + k
  | 0, i => Nat.le_refl i
  | k + 1, i => by
    show (bif f i then sk f k (i + 1) else i) ≤ i + (k + 1)
    cases f i with
    | true =>
      have := sk_le f k (i + 1)
      show sk f k (i + 1) ≤ _
      omega
    | false => exact Nat.le_add_right i _
theorem sk_stop (f : Nat → Bool) : ∀ k i, sk f k i = i + k ∨ f (sk f k i) = false
  | 0, i => Or.inl rfl
  | k + 1, i => by
    show (bif f i then sk f k (i + 1) else i) = i + (k + 1) ∨ f (bif f i then sk f k (i + 1) else i) = false
    cases hf : f i with
    | true =>
      rcases sk_stop f k (i + 1) with h | h
      · left
        show sk f k (i + 1) = _
        omega
      · right
        exact h
    | false => exact Or.inr hf
theorem sk_t {f : Nat → Bool} {k i : Nat} (h : f i = true) : sk f (k + 1) i = sk f k (i + 1) := by
  show (bif f i then _ else _) = _
  rw [h]
  rfl
theorem sk_f {f : Nat → Bool} {k i : Nat} (h : f i = false) : sk f k i = i := by
  cases k with
  | zero => rfl
  | succ k =>
    show (bif f i then _ else _) = _
    rw [h]
    rfl
def blk (t : Nat → Int32) (j : Nat) : Bool := decide (t j = 32)
def dig (t : Nat → Int32) (j : Nat) : Bool := decide (48 ≤ t j) && decide (t j ≤ 57)
/-- behind the blanks -/
def skN (t : Nat → Int32) (n i : Nat) : Nat := sk (blk t) (n - i) i
/-- behind the figures -/
def dgN (t : Nat → Int32) (n i : Nat) : Nat := sk (dig t) (n - i) i
theorem skN_b (t : Nat → Int32) {n i : Nat} (h : i ≤ n) : i ≤ skN t n i ∧ skN t n i ≤ n := ⟨sk_ge _ _ _, by have := sk_le (blk t) (n - i) i; unfold skN; omega⟩
theorem dgN_b (t : Nat → Int32) {n i : Nat} (h : i ≤ n) : i ≤ dgN t n i ∧ dgN t n i ≤ n := ⟨sk_ge _ _ _, by have := sk_le (dig t) (n - i) i; unfold dgN; omega⟩
/-- the number whose figures begin at j, of its first three -/
def vlF (t : Nat → Int32) (j k : Nat) (v : Int32) : Int32 := if k < 3 then 10 * v + t (j + k) - 48 else v
def vlN (t : Nat → Int32) (j m : Nat) : Int32 := fo (vlF t j) m 0
def cmR (r : RS) (a b : Int32) : RS := if r.1 1 = 0 then sR (sR r 1 a) 2 b else r
/-- a number is read -/
def nmR (t : Nat → Int32) (n : Nat) (r : RS) (i : Nat) (x y : Int32) : RS :=
  let j := skN t n i
  let e := dgN t n j
  let r1 : RS := sR (sR r 4 (nI j)) 3 (nI e)
  if e = j then cmR r1 1 (nI e) else if 3 < e - j ∨ vlN t j (e - j) < x ∨ y < vlN t j (e - j) then cmR r1 2 (nI j) else r1
section RDR
variable {sc : Scr} {d : Nat} {w : Bool} {s : Nat → Int32} {l : Nat → Int64} {A : Nat → Nat → Int32} {B : Nat → Nat → Int64} {r : RS} {t : Nat → Int32} {n : Nat}
theorem e_complain (a b : Int32) : Ev sc d m_R_complain 0 (iniL 3 [.ref 1, .int a, .int b]) [] (DR w s l A B r) none (DR w s l A B (cmR r a b)) := by
  repeat (first | refine ev_gos 99 rfl ?_ | refine ev_gf2 rfl rfl rfl rfl ?_ | refine ev_gf2 rfl rfl HH_land rfl ?_ | refine ev_gf2 rfl rfl HH_draft rfl ?_ | refine ev_gf2 rfl rfl (by with_reducible assumption) rfl ?_)
  unfold cmR
  by_cases h0 : r.1 1 = 0
  · rw [if_pos h0]
    refine ev_iff rfl rfl rfl (j_ne h0) ?_
    repeat (first | refine ev_gos 99 rfl ?_ | refine ev_gf2 rfl rfl rfl rfl ?_ | refine ev_gf2 rfl rfl HH_land rfl ?_ | refine ev_gf2 rfl rfl HH_draft rfl ?_ | refine ev_gf2 rfl rfl (by with_reducible assumption) rfl ?_)
    refine pD_1 rfl ?_
    repeat (first | refine ev_gos 99 rfl ?_ | refine ev_gf2 rfl rfl rfl rfl ?_ | refine ev_gf2 rfl rfl HH_land rfl ?_ | refine ev_gf2 rfl rfl HH_draft rfl ?_ | refine ev_gf2 rfl rfl (by with_reducible assumption) rfl ?_)
    refine pD_2 rfl ?_
    exact ev_rv rfl rfl
  · rw [if_neg h0]
    refine ev_ift rfl rfl rfl (i_ne h0) ?_
    exact ev_rv rfl rfl
theorem e_skip_loop (ht : A 2 = t) (hs : s 0 = nI n) (hn : n ≤ 240) : ∀ (k i : Nat), i + k = n → Ev sc d m_R_skipBlanks 8 [some (.ref 1)] [.int (s 0), .int (nI i)] (DR w s l A B (sR r 3 (nI i))) none (DR w s l A B (sR r 3 (nI (sk (blk t) k i)))) := by
  subst ht
  intro k
  induction k with
  | zero =>
    intro i hi
    refine ev_ift rfl rfl rfl (c_ge (by rw [hs]; exact (nI_leI (by omega) (by omega)).mpr (by omega))) ?_
    exact ev_rv rfl rfl
  | succ k ih =>
    intro i hi
    refine ev_iff rfl rfl rfl (d_ge (by rw [hs]; exact nI_lt3 (by omega) (by omega) (by omega))) ?_
    repeat (first | refine ev_gos 99 rfl ?_ | refine ev_gf2 rfl rfl rfl rfl ?_ | refine ev_gf2 rfl rfl HH_land rfl ?_ | refine ev_gf2 rfl rfl HH_draft rfl ?_ | refine ev_gf2 rfl rfl (by with_reducible assumption) rfl ?_)
    refine ev_ia rfl rfl (inI (k := i) (by omega) (by decide)) ?_
    refine (?_ : Ek sc d m_R_skipBlanks 20 _ [.int (A 2 (nI i).toNatClampNeg)] _ _ _ _ _)
    rw [nI_clamp (by omega)]
    repeat (first | refine ev_gos 99 rfl ?_ | refine ev_gf2 rfl rfl rfl rfl ?_ | refine ev_gf2 rfl rfl HH_land rfl ?_ | refine ev_gf2 rfl rfl HH_draft rfl ?_ | refine ev_gf2 rfl rfl (by with_reducible assumption) rfl ?_)
    by_cases hb : A 2 i = 32
    · rw [sk_t (show blk (A 2) i = true from decide_eq_true hb)]
      refine ev_iff rfl rfl rfl (d_ne hb) ?_
      repeat (first | refine ev_gos 99 rfl ?_ | refine ev_gf2 rfl rfl rfl rfl ?_ | refine ev_gf2 rfl rfl HH_land rfl ?_ | refine ev_gf2 rfl rfl HH_draft rfl ?_ | refine ev_gf2 rfl rfl (by with_reducible assumption) rfl ?_)
      refine pD_3 rfl ?_
      refine (?_ : Ek sc d m_R_skipBlanks 35 _ _ (DR w s l A B (sR (sR r 3 (nI i)) 3 (nI i + 1))) _ _ _ _)
      rw [sR_up]
      repeat (first | refine ev_gos 99 rfl ?_ | refine ev_gf2 rfl rfl rfl rfl ?_ | refine ev_gf2 rfl rfl HH_land rfl ?_ | refine ev_gf2 rfl rfl HH_draft rfl ?_ | refine ev_gf2 rfl rfl (by with_reducible assumption) rfl ?_)
      have h3 := ih (i + 1) (by omega)
      rw [← nI_1] at h3
      exact h3
    · rw [sk_f (show blk (A 2) i = false from decide_eq_false hb)]
      refine ev_ift rfl rfl rfl (c_ne hb) ?_
      exact ev_rv rfl rfl
theorem e_skip (ht : A 2 = t) (hs : s 0 = nI n) (hn : n ≤ 240) {i : Nat} (hi : i ≤ n) (hp : r.1 3 = nI i) : Ev sc d m_R_skipBlanks 0 (iniL 1 [.ref 1]) [] (DR w s l A B r) none (DR w s l A B (sR r 3 (nI (skN t n i)))) := by
  have h3 := e_skip_loop (sc := sc) (d := d) (w := w) (s := s) (l := l) (A := A) (B := B) (r := r) ht hs hn (n - i) i (by omega)
  have e : sR r 3 (nI i) = r := by unfold sR; rw [← hp, upA_id]
  rw [e, ← hp] at h3
  repeat (first | refine ev_gos 99 rfl ?_ | refine ev_gf2 rfl rfl rfl rfl ?_ | refine ev_gf2 rfl rfl HH_land rfl ?_ | refine ev_gf2 rfl rfl HH_draft rfl ?_ | refine ev_gf2 rfl rfl (by with_reducible assumption) rfl ?_)
  exact h3
theorem e_atFigure (ht : A 2 = t) (hs : s 0 = nI n) (hn : n ≤ 240) {i : Nat} (hi : i ≤ n) (hp : r.1 3 = nI i) : Ev sc d m_R_atFigure 0 (iniL 1 [.ref 1]) [] (DR w s l A B r) (some (.int (b01 (decide (i < n) && dig t i)))) (DR w s l A B r) := by
  subst ht
  repeat (first | refine ev_gos 99 rfl ?_ | refine ev_gf2 rfl rfl rfl rfl ?_ | refine ev_gf2 rfl rfl HH_land rfl ?_ | refine ev_gf2 rfl rfl HH_draft rfl ?_ | refine ev_gf2 rfl rfl (by with_reducible assumption) rfl ?_)
  by_cases h1 : i < n
  · refine ev_iff rfl rfl rfl (d_ge (by show ¬ s 0 ≤ r.1 3; rw [hs, hp]; exact nI_lt3 (by omega) (by omega) (by omega))) ?_
    repeat (first | refine ev_gos 99 rfl ?_ | refine ev_gf2 rfl rfl rfl rfl ?_ | refine ev_gf2 rfl rfl HH_land rfl ?_ | refine ev_gf2 rfl rfl HH_draft rfl ?_ | refine ev_gf2 rfl rfl (by with_reducible assumption) rfl ?_)
    refine ev_ia rfl rfl (by show inB (r.1 3) 240 = true; rw [hp]; exact inI (by omega) (by decide)) ?_
    refine (?_ : Ek sc d m_R_atFigure 20 _ [.int (A 2 (r.1 3).toNatClampNeg)] _ _ _ _ _)
    have ec : (r.1 3).toNatClampNeg = i := by rw [hp, nI_clamp (by omega)]
    rw [ec, decide_eq_true h1]
    repeat (first | refine ev_gos 99 rfl ?_ | refine ev_gf2 rfl rfl rfl rfl ?_ | refine ev_gf2 rfl rfl HH_land rfl ?_ | refine ev_gf2 rfl rfl HH_draft rfl ?_ | refine ev_gf2 rfl rfl (by with_reducible assumption) rfl ?_)
    unfold dig
    by_cases h2 : A 2 i < 48
    · refine ev_ift rfl rfl rfl (c_lt h2) ?_
      repeat (first | refine ev_gos 99 rfl ?_ | refine ev_gf2 rfl rfl rfl rfl ?_ | refine ev_gf2 rfl rfl HH_land rfl ?_ | refine ev_gf2 rfl rfl HH_draft rfl ?_ | refine ev_gf2 rfl rfl (by with_reducible assumption) rfl ?_)
      exact ev_rz rfl (Or.inl rfl) (by rw [decide_eq_false (fun z => le_nlt z h2)]; rfl) rfl
    · refine ev_iff rfl rfl rfl (d_lt h2) ?_
      repeat (first | refine ev_gos 99 rfl ?_ | refine ev_gf2 rfl rfl rfl rfl ?_ | refine ev_gf2 rfl rfl HH_land rfl ?_ | refine ev_gf2 rfl rfl HH_draft rfl ?_ | refine ev_gf2 rfl rfl (by with_reducible assumption) rfl ?_)
      refine ev_ia rfl rfl (by show inB (r.1 3) 240 = true; rw [hp]; exact inI (by omega) (by decide)) ?_
      refine (?_ : Ek sc d m_R_atFigure 34 _ [.int (A 2 (r.1 3).toNatClampNeg)] _ _ _ _ _)
      rw [ec, decide_eq_true (nlt_le3 h2)]
      repeat (first | refine ev_gos 99 rfl ?_ | refine ev_gf2 rfl rfl rfl rfl ?_ | refine ev_gf2 rfl rfl HH_land rfl ?_ | refine ev_gf2 rfl rfl HH_draft rfl ?_ | refine ev_gf2 rfl rfl (by with_reducible assumption) rfl ?_)
      by_cases h3 : 57 < A 2 i
      · refine ev_ift rfl rfl rfl (c_gt h3) ?_
        repeat (first | refine ev_gos 99 rfl ?_ | refine ev_gf2 rfl rfl rfl rfl ?_ | refine ev_gf2 rfl rfl HH_land rfl ?_ | refine ev_gf2 rfl rfl HH_draft rfl ?_ | refine ev_gf2 rfl rfl (by with_reducible assumption) rfl ?_)
        exact ev_rz rfl (Or.inl rfl) (by rw [decide_eq_false (fun z => le_nlt z h3)]; rfl) rfl
      · refine ev_iff rfl rfl rfl (d_gt h3) ?_
        repeat (first | refine ev_gos 99 rfl ?_ | refine ev_gf2 rfl rfl rfl rfl ?_ | refine ev_gf2 rfl rfl HH_land rfl ?_ | refine ev_gf2 rfl rfl HH_draft rfl ?_ | refine ev_gf2 rfl rfl (by with_reducible assumption) rfl ?_)
        exact ev_rz rfl (Or.inr rfl) (by rw [decide_eq_true (nlt_le3 h3)]; rfl) rfl
  · refine ev_ift rfl rfl rfl (c_ge (by show s 0 ≤ r.1 3; rw [hs, hp]; exact (nI_leI (by omega) (by omega)).mpr (by omega))) ?_
    repeat (first | refine ev_gos 99 rfl ?_ | refine ev_gf2 rfl rfl rfl rfl ?_ | refine ev_gf2 rfl rfl HH_land rfl ?_ | refine ev_gf2 rfl rfl HH_draft rfl ?_ | refine ev_gf2 rfl rfl (by with_reducible assumption) rfl ?_)
    exact ev_rz rfl (Or.inl rfl) (by rw [decide_eq_false h1]; rfl) rfl
end RDR
