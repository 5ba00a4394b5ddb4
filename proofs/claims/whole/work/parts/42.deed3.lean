/-! the class: draws, nights tried, the best room, what fits -/
theorem upA_comm {α : Type} (A : Nat → α) {p q : Nat} (h : Nat.beq p q = false) (f g : α) : upA (upA A p f) q g = upA (upA A q g) p f := by
  funext i
  unfold upA
  cases h1 : Nat.beq i q with
  | false => rfl
  | true =>
    have e1 := Nat.eq_of_beq_eq_true h1
    subst e1
    cases h2 : Nat.beq i p with
    | false => rfl
    | true =>
      have e2 := Nat.eq_of_beq_eq_true h2
      subst e2
      rw [Nat.beq_refl] at h
      cases h
theorem drN_lt (x : Int32) {m : Nat} (h : 0 < m) : drN x m < m := Nat.mod_lt _ h
/-- nights on end, with the wind k -/
def ngI (W N : Nat) (rk : Int64) (k : Nat) (f : Nat → Int32) : Nat → Nat → Int32
  | 0 => f
  | n + 1 => mapP (ngF (shlS W N rk (ngI W N rk k f n) k)) (ngI W N rk k f n) 49
def barS (g : Nat → Nat → Int32) : Nat → Nat → Nat
  | 0, i => i
  | k + 1, i => if dnS (g i) 1 49 = 0 then i else barS g k (i + 1)
def brF (W N : Nat) (room seen : Int64) (sh : Nat → Int64) (k : Nat) (sg : Int32) (c : Nat) (a : Int32 × Int32) : Int32 × Int32 :=
  bif bs room c then (if a.1 = -1 ∨ a.2 < sg * nI (cntS W N (seen ||| sh (k * 49 + c))) then (nI c, sg * nI (cntS W N (seen ||| sh (k * 49 + c)))) else a) else a
/-- the kind k at c fits what was found -/
def fitB (sh : Nat → Int64) (fc fd : Nat → Int32) (m k c : Nat) : Bool := decide (¬ sh (k * 49 + c) = 0) && agS fc fd (sh (k * 49 + c)) m
def cntB (f : Nat → Bool) : Nat → Nat
  | 0 => 0
  | n + 1 => cntB f n + (bif f n then 1 else 0)
theorem cntB_le (f : Nat → Bool) : ∀ n, cntB f n ≤ n
  | 0 => Nat.le_refl 0
  | n + 1 => by
    have h := cntB_le f n
    show cntB f n + (bif f n then 1 else 0) ≤ n + 1
    cases f n <;> simp <;> omega
def sumB (f : Nat → Nat → Bool) (N : Nat) : Nat → Nat
  | 0 => 0
  | k + 1 => sumB f N k + cntB (f k) N
def knd (f : Nat → Nat → Bool) (N : Nat) (k : Nat) (a : Int32) : Int32 := if 0 < cntB (f k) N then a ||| ((1 : Int32) <<< (nI k &&& 31)) else a
def lfC (f : Nat → Nat → Bool) (k c : Nat) (a : Int32) : Int32 := if a = -1 then (bif f k c then nI (100 * k + c) else a) else a
def lfK (f : Nat → Nat → Bool) (N k : Nat) (a : Int32) : Int32 := fo (lfC f k) N a
theorem fo_lfC {f : Nat → Nat → Bool} {k : Nat} {a : Int32} (h : ¬ a = -1) : ∀ n, fo (lfC f k) n a = a
  | 0 => rfl
  | n + 1 => by
    show lfC f k n (fo (lfC f k) n a) = a
    rw [fo_lfC h n]
    unfold lfC
    rw [if_neg h]
theorem fo_lfC2 {f : Nat → Nat → Bool} {k : Nat} {a b : Int32} {i : Nat} (h : fo (lfC f k) i a = b) (hb : ¬ b = -1) : ∀ n, fo (lfC f k) (i + n) a = b
  | 0 => h
  | n + 1 => by
    show lfC f k (i + n) (fo (lfC f k) (i + n) a) = b
    rw [fo_lfC2 h hb n]
    unfold lfC
    rw [if_neg hb]
theorem fo_lfK2 {f : Nat → Nat → Bool} {N : Nat} {a b : Int32} {i : Nat} (h : fo (lfK f N) i a = b) (hb : ¬ b = -1) : ∀ n, fo (lfK f N) (i + n) a = b
  | 0 => h
  | n + 1 => by
    show lfK f N (i + n) (fo (lfK f N) (i + n) a) = b
    rw [fo_lfK2 h hb n]
    exact fo_lfC hb N
def tlF (x : Int64) (c : Nat) (v : Int32) : Int32 := bif bs x c then v + 1 else v
def tlC (sh : Nat → Int64) (f : Nat → Nat → Bool) (k c : Nat) (t : Nat → Int32) : Nat → Int32 := bif f k c then mapP (tlF (sh (k * 49 + c))) t 49 else t
def tlK (sh : Nat → Int64) (f : Nat → Nat → Bool) (N k : Nat) (t : Nat → Int32) : Nat → Int32 := fo (tlC sh f k) N t
section DE3
variable {sc : Scr} {d : Nat} {w : Bool} {s : Nat → Int32} {l : Nat → Int64} {A : Nat → Nat → Int32} {B : Nat → Nat → Int64} {W H P : Nat}
theorem e_happen (hN : CN s l A B W H P) (hW : 2 ≤ W) (hH : 2 ≤ H) : Ev sc (d + 4) m_C_happenByDraw 0 (iniL 1 [.ref 0]) [] (HH w s l A B) none (HH w (upA (upA s 8 (hapD W H P (l 3) (A 4) (B 5) (s 8) (A 10) (A 11) (s 9)).1) 9 (hapD W H P (l 3) (A 4) (B 5) (s 8) (A 10) (A 11) (s 9)).2.2.2) l (upA (upA A 11 (hapD W H P (l 3) (A 4) (B 5) (s 8) (A 10) (A 11) (s 9)).2.2.1) 10 (hapD W H P (l 3) (A 4) (B 5) (s 8) (A 10) (A 11) (s 9)).2.1) B) := by
  have i9 : ∀ x, upA (upA s 8 x) 9 (s 9) = upA s 8 x := fun x => upS_same rfl
  have i1011 : upA (upA A 11 (A 11)) 10 (A 10) = A := by rw [upA_id, upA_id]
  have i11 : ∀ f, upA (upA A 11 (A 11)) 10 f = upA A 10 f := fun f => by rw [upA_id]
  repeat (first | refine ev_gos 99 rfl ?_ | refine ev_gf2 rfl rfl rfl rfl ?_ | refine ev_gf2 rfl rfl HH_land rfl ?_ | refine ev_gf2 rfl rfl HH_draft rfl ?_ | refine ev_gf2 rfl rfl (by with_reducible assumption) rfl ?_)
  refine ev_cv rfl rfl rfl (e_draw (m := 8) (by decide) (by decide)) ?_
  have hd := drN_lt (s 8) (m := 8) (by decide)
  refine (?_ : Ek sc (d + 4) m_C_happenByDraw 6 _ [.int (nI (drN (s 8) 8))] _ _ _ _ _)
  unfold hapD
  rcases (show drN (s 8) 8 = 0 ∨ drN (s 8) 8 = 1 ∨ drN (s 8) 8 = 2 ∨ drN (s 8) 8 = 3 ∨ drN (s 8) 8 = 4 ∨ drN (s 8) 8 = 5 ∨ drN (s 8) 8 = 6 ∨ drN (s 8) 8 = 7 by omega) with e | e | e | e | e | e | e | e
  · rw [e, if_pos rfl]
    refine ev_sw rfl rfl (rfl : _ = some 36) ?_
    repeat (first | refine ev_gos 99 rfl ?_ | refine ev_gf2 rfl rfl rfl rfl ?_ | refine ev_gf2 rfl rfl HH_land rfl ?_ | refine ev_gf2 rfl rfl HH_draft rfl ?_ | refine ev_gf2 rfl rfl (by with_reducible assumption) rfl ?_)
    refine ev_cv rfl rfl rfl (e_lieByDraw (s := upA s 8 (dS (s 8))) hN hW hH) ?_
    repeat (first | refine ev_gos 99 rfl ?_ | refine ev_gf2 rfl rfl rfl rfl ?_ | refine ev_gf2 rfl rfl HH_land rfl ?_ | refine ev_gf2 rfl rfl HH_draft rfl ?_ | refine ev_gf2 rfl rfl (by with_reducible assumption) rfl ?_)
    refine ev_rv rfl ?_
    by_cases h0 : P = 0
    · rw [if_pos h0, if_pos h0]
      dsimp only
      rw [i9, i1011]
    · rw [if_neg h0, if_neg h0]
      show (bif bs (rmS (B 5) (A 10) (A 4 (drN (dS (s 8)) P)).toNatClampNeg (W * H)) (drN (dS (dS (s 8))) (W * H)) then _ else _) = _
      cases hb : bs (rmS (B 5) (A 10) (A 4 (drN (dS (s 8)) P)).toNatClampNeg (W * H)) (drN (dS (dS (s 8))) (W * H)) with
      | true =>
        dsimp only [cond_true]
        rw [upA_up, i9]
        rfl
      | false =>
        dsimp only [cond_false]
        rw [upA_up, i9, i1011]
        rfl
  · rw [e, if_neg (by decide), if_pos rfl]
    refine ev_sw rfl rfl (rfl : _ = some 43) ?_
    repeat (first | refine ev_gos 99 rfl ?_ | refine ev_gf2 rfl rfl rfl rfl ?_ | refine ev_gf2 rfl rfl HH_land rfl ?_ | refine ev_gf2 rfl rfl HH_draft rfl ?_ | refine ev_gf2 rfl rfl (by with_reducible assumption) rfl ?_)
    refine ev_cv rfl rfl rfl (e_hareByDraw (s := upA s 8 (dS (s 8))) hN hW hH) ?_
    repeat (first | refine ev_gos 99 rfl ?_ | refine ev_gf2 rfl rfl rfl rfl ?_ | refine ev_gf2 rfl rfl HH_land rfl ?_ | refine ev_gf2 rfl rfl HH_draft rfl ?_ | refine ev_gf2 rfl rfl (by with_reducible assumption) rfl ?_)
    refine ev_rv rfl ?_
    show (bif bs (l 3) (drN (dS (s 8)) (W * H)) then _ else _) = _
    cases hb : bs (l 3) (drN (dS (s 8)) (W * H)) with
    | true =>
      dsimp only [cond_true]
      rw [upA_up, i9, i1011]
      rfl
    | false =>
      dsimp only [cond_false]
      rw [upA_up, i9, i11]
      rfl
  · rw [e, if_neg (by decide), if_neg (by decide), if_pos rfl]
    refine ev_sw rfl rfl (rfl : _ = some 50) ?_
    repeat (first | refine ev_gos 99 rfl ?_ | refine ev_gf2 rfl rfl rfl rfl ?_ | refine ev_gf2 rfl rfl HH_land rfl ?_ | refine ev_gf2 rfl rfl HH_draft rfl ?_ | refine ev_gf2 rfl rfl (by with_reducible assumption) rfl ?_)
    refine ev_cv rfl rfl rfl e_snowOver ?_
    repeat (first | refine ev_gos 99 rfl ?_ | refine ev_gf2 rfl rfl rfl rfl ?_ | refine ev_gf2 rfl rfl HH_land rfl ?_ | refine ev_gf2 rfl rfl HH_draft rfl ?_ | refine ev_gf2 rfl rfl (by with_reducible assumption) rfl ?_)
    refine ev_rv rfl ?_
    dsimp only
    rw [i9, i11]
  · rw [e, if_neg (by decide), if_neg (by decide), if_neg (by decide), if_pos rfl]
    refine ev_sw rfl rfl (rfl : _ = some 60) ?_
    repeat (first | refine ev_gos 99 rfl ?_ | refine ev_gf2 rfl rfl rfl rfl ?_ | refine ev_gf2 rfl rfl HH_land rfl ?_ | refine ev_gf2 rfl rfl HH_draft rfl ?_ | refine ev_gf2 rfl rfl (by with_reducible assumption) rfl ?_)
    refine ev_cv rfl rfl rfl (e_draw (m := 5) (by decide) (by decide)) ?_
    refine pf_F_9 rfl ?_
    repeat (first | refine ev_gos 99 rfl ?_ | refine ev_gf2 rfl rfl rfl rfl ?_ | refine ev_gf2 rfl rfl HH_land rfl ?_ | refine ev_gf2 rfl rfl HH_draft rfl ?_ | refine ev_gf2 rfl rfl (by with_reducible assumption) rfl ?_)
    refine ev_rv rfl ?_
    rw [upA_up, i1011]
    rfl
  all_goals
    rw [e, if_neg (by decide), if_neg (by decide), if_neg (by decide), if_neg (by decide)]
    refine ev_sw rfl rfl (rfl : _ = some 75) ?_
    refine ev_rv rfl ?_
    dsimp only
    rw [i9, i1011]
theorem e_tryN_loop (hN : CN s l A B W H P) {k n0 : Nat} (hk : k ≤ 4) (hs : s 11 = nI k) (hn : n0 ≤ 20) (f : Nat → Int32) (x : Int32) : ∀ (n i : Nat), i + n = n0 → Ev sc (d + 3) m_C_tryNights 15 [some (.ref 0), some (.int (nI n0)), some (.int (nI i))] [.int (nI n0), .int (nI i)] (HH w (upA s 12 (x + nI i)) l (upA A 13 (ngI W (W * H) (l 3) k f i)) B) none (HH w (upA s 12 (x + nI n0)) l (upA A 13 (ngI W (W * H) (l 3) k f n0)) B) := by
  intro n
  induction n with
  | zero =>
    intro i hi
    have e : i = n0 := by omega
    subst e
    refine ev_ift rfl rfl rfl (c_ge ((nI_leI (by omega) (by omega)).mpr (by omega))) ?_
    exact ev_rv rfl rfl
  | succ n ih =>
    intro i hi
    refine ev_iff rfl rfl rfl (d_ge (nI_lt3 (by omega) (by omega) (by omega))) ?_
    repeat (first | refine ev_gos 99 rfl ?_ | refine ev_gf2 rfl rfl rfl rfl ?_ | refine ev_gf2 rfl rfl HH_land rfl ?_ | refine ev_gf2 rfl rfl HH_draft rfl ?_ | refine ev_gf2 rfl rfl (by with_reducible assumption) rfl ?_)
    refine ev_cv rfl rfl rfl (e_passT (s := upA s 12 (x + nI i)) (W := W) (N := W * H) hN.1 hN.2.2.2.2.2.2.2.1 hN.2.2.2.2.2.2.2.2.1 hN.2.2.2.2.2.2.2.2.2.1 hk hs) ?_
    rw [upA_up, upA_up]
    repeat (first | refine ev_gos 99 rfl ?_ | refine ev_gf2 rfl rfl rfl rfl ?_ | refine ev_gf2 rfl rfl HH_land rfl ?_ | refine ev_gf2 rfl rfl HH_draft rfl ?_ | refine ev_gf2 rfl rfl (by with_reducible assumption) rfl ?_)
    have h3 := ih (i + 1) (by omega)
    rw [← nI_1, ← Int32.add_assoc] at h3
    exact h3
theorem e_tryN (hN : CN s l A B W H P) {k n : Nat} (hk : k ≤ 4) (hs : s 9 = nI k) (hn : n ≤ 20) : Ev sc (d + 4) m_C_tryNights 0 (iniL 3 [.ref 0, .int (nI n)]) [] (HH w s l A B) none (HH w (upA (upA s 11 (s 9)) 12 (s 10 + nI n)) l (upA (upA A 14 (va_cpy (A 11) (A 14) 0 0 7)) 13 (ngI W (W * H) (l 3) k (va_cpy (A 10) (A 13) 0 0 49) n)) B) := by
  repeat (first | refine ev_gos 99 rfl ?_ | refine ev_gf2 rfl rfl rfl rfl ?_ | refine ev_gf2 rfl rfl HH_land rfl ?_ | refine ev_gf2 rfl rfl HH_draft rfl ?_ | refine ev_gf2 rfl rfl (by with_reducible assumption) rfl ?_)
  refine ev_cv rfl rfl rfl e_become ?_
  rw [upA_comm A (p := 13) (q := 14) rfl]
  repeat (first | refine ev_gos 99 rfl ?_ | refine ev_gf2 rfl rfl rfl rfl ?_ | refine ev_gf2 rfl rfl HH_land rfl ?_ | refine ev_gf2 rfl rfl HH_draft rfl ?_ | refine ev_gf2 rfl rfl (by with_reducible assumption) rfl ?_)
  have h3 := e_tryN_loop (sc := sc) (d := d + 1) (w := w) (s := upA s 11 (s 9)) (A := upA A 14 (va_cpy (A 11) (A 14) 0 0 7)) (B := B) (W := W) (H := H) (P := P) hN hk hs hn (va_cpy (A 10) (A 13) 0 0 49) (s 10) n 0 (Nat.zero_add n)
  have e : s 10 + nI 0 = s 10 := Int32.add_zero _
  rw [e] at h3
  exact h3
theorem e_bare_loop (hN : CN s l A B W H P) {k : Nat} (hk : k ≤ 4) (hs : s 11 = nI k) (f : Nat → Int32) (x : Int32) : ∀ (n i : Nat), i + n = 9 → Ev sc (d + 3) m_C_bare 16 [some (.ref 0), some (.int (nI i))] [.int 9, .int (nI i)] (HH w (upA s 12 (x + nI i)) l (upA A 13 (ngI W (W * H) (l 3) k f i)) B) (some (.int (nI (barS (ngI W (W * H) (l 3) k f) n i)))) (HH w (upA s 12 (x + nI (barS (ngI W (W * H) (l 3) k f) n i))) l (upA A 13 (ngI W (W * H) (l 3) k f (barS (ngI W (W * H) (l 3) k f) n i))) B) := by
  intro n
  induction n with
  | zero =>
    intro i hi
    have e : i = 9 := by omega
    subst e
    refine ev_ift rfl rfl rfl (c_ge (by decide : (9 : Int32) ≤ nI 9)) ?_
    repeat (first | refine ev_gos 99 rfl ?_ | refine ev_gf2 rfl rfl rfl rfl ?_ | refine ev_gf2 rfl rfl HH_land rfl ?_ | refine ev_gf2 rfl rfl HH_draft rfl ?_ | refine ev_gf2 rfl rfl (by with_reducible assumption) rfl ?_)
    exact ev_ri rfl rfl rfl
  | succ n ih =>
    intro i hi
    refine ev_iff rfl rfl rfl (d_ge (nI_lt3 (b := 9) (by omega) (by omega) (by omega))) ?_
    repeat (first | refine ev_gos 99 rfl ?_ | refine ev_gf2 rfl rfl rfl rfl ?_ | refine ev_gf2 rfl rfl HH_land rfl ?_ | refine ev_gf2 rfl rfl HH_draft rfl ?_ | refine ev_gf2 rfl rfl (by with_reducible assumption) rfl ?_)
    refine ev_cv rfl rfl rfl (e_dented (p := 12) (pd := 13) (pa := 14) (wd := s 11) (nt := x + nI i) (f := ngI W (W * H) (l 3) k f i) rfl rfl) ?_
    repeat (first | refine ev_gos 99 rfl ?_ | refine ev_gf2 rfl rfl rfl rfl ?_ | refine ev_gf2 rfl rfl HH_land rfl ?_ | refine ev_gf2 rfl rfl HH_draft rfl ?_ | refine ev_gf2 rfl rfl (by with_reducible assumption) rfl ?_)
    by_cases h0 : dnS (ngI W (W * H) (l 3) k f i) 1 49 = 0
    · have e : barS (ngI W (W * H) (l 3) k f) (n + 1) i = i := by
        show (if dnS (ngI W (W * H) (l 3) k f i) 1 49 = 0 then _ else _) = _
        rw [if_pos h0]
      rw [e]
      refine ev_ift rfl rfl rfl (i_eq (lc_eq.mpr h0)) ?_
      repeat (first | refine ev_gos 99 rfl ?_ | refine ev_gf2 rfl rfl rfl rfl ?_ | refine ev_gf2 rfl rfl HH_land rfl ?_ | refine ev_gf2 rfl rfl HH_draft rfl ?_ | refine ev_gf2 rfl rfl (by with_reducible assumption) rfl ?_)
      exact ev_ri rfl rfl rfl
    · have e : barS (ngI W (W * H) (l 3) k f) (n + 1) i = barS (ngI W (W * H) (l 3) k f) n (i + 1) := by
        show (if dnS (ngI W (W * H) (l 3) k f i) 1 49 = 0 then _ else _) = _
        rw [if_neg h0]
      rw [e]
      refine ev_iff rfl rfl rfl (j_eq (fun z => h0 (lc_eq.mp z))) ?_
      repeat (first | refine ev_gos 99 rfl ?_ | refine ev_gf2 rfl rfl rfl rfl ?_ | refine ev_gf2 rfl rfl HH_land rfl ?_ | refine ev_gf2 rfl rfl HH_draft rfl ?_ | refine ev_gf2 rfl rfl (by with_reducible assumption) rfl ?_)
      refine ev_cv rfl rfl rfl (e_passT (s := upA s 12 (x + nI i)) (W := W) (N := W * H) hN.1 hN.2.2.2.2.2.2.2.1 hN.2.2.2.2.2.2.2.2.1 hN.2.2.2.2.2.2.2.2.2.1 hk hs) ?_
      rw [upA_up, upA_up]
      repeat (first | refine ev_gos 99 rfl ?_ | refine ev_gf2 rfl rfl rfl rfl ?_ | refine ev_gf2 rfl rfl HH_land rfl ?_ | refine ev_gf2 rfl rfl HH_draft rfl ?_ | refine ev_gf2 rfl rfl (by with_reducible assumption) rfl ?_)
      have h3 := ih (i + 1) (by omega)
      rw [← nI_1, ← Int32.add_assoc] at h3
      exact h3
theorem e_bare (hN : CN s l A B W H P) {k : Nat} (hk : k ≤ 4) (hs : s 9 = nI k) : Ev sc (d + 4) m_C_bare 0 (iniL 2 [.ref 0]) [] (HH w s l A B) (some (.int (nI (barS (ngI W (W * H) (l 3) k (va_cpy (A 10) (A 13) 0 0 49)) 9 0)))) (HH w (upA (upA s 11 (s 9)) 12 (s 10 + nI (barS (ngI W (W * H) (l 3) k (va_cpy (A 10) (A 13) 0 0 49)) 9 0))) l (upA (upA A 14 (va_cpy (A 11) (A 14) 0 0 7)) 13 (ngI W (W * H) (l 3) k (va_cpy (A 10) (A 13) 0 0 49) (barS (ngI W (W * H) (l 3) k (va_cpy (A 10) (A 13) 0 0 49)) 9 0))) B) := by
  repeat (first | refine ev_gos 99 rfl ?_ | refine ev_gf2 rfl rfl rfl rfl ?_ | refine ev_gf2 rfl rfl HH_land rfl ?_ | refine ev_gf2 rfl rfl HH_draft rfl ?_ | refine ev_gf2 rfl rfl (by with_reducible assumption) rfl ?_)
  refine ev_cv rfl rfl rfl e_become ?_
  rw [upA_comm A (p := 13) (q := 14) rfl]
  repeat (first | refine ev_gos 99 rfl ?_ | refine ev_gf2 rfl rfl rfl rfl ?_ | refine ev_gf2 rfl rfl HH_land rfl ?_ | refine ev_gf2 rfl rfl HH_draft rfl ?_ | refine ev_gf2 rfl rfl (by with_reducible assumption) rfl ?_)
  have h3 := e_bare_loop (sc := sc) (d := d + 1) (w := w) (s := upA s 11 (s 9)) (A := upA A 14 (va_cpy (A 11) (A 14) 0 0 7)) (B := B) (W := W) (H := H) (P := P) hN hk hs (va_cpy (A 10) (A 13) 0 0 49) (s 10) 9 0 rfl
  have e : s 10 + nI 0 = s 10 := Int32.add_zero _
  rw [e] at h3
  exact h3
theorem e_bestRoom_loop (hN : CN s l A B W H P) {p k : Nat} (hp : p < 7) (hk : k < 5) (ek : A 4 p = nI k) (sg : Int32) (room seen : Int64) : ∀ (n i : Nat), i + n = W * H → Ev sc (d + 5) m_C_bestRoomFor 30 [some (.ref 0), some (.int (nI p)), some (.int sg), some (.long room), none, some (.long seen), none, some (.int (fo (brF W (W * H) room seen (B 5) k sg) i (-1, 0)).1), some (.int (fo (brF W (W * H) room seen (B 5) k sg) i (-1, 0)).2), some (.int (nI i)), none] [.ref (wL w), .int (nI i)] (HH w s l A B) (some (.int (fo (brF W (W * H) room seen (B 5) k sg) (W * H) (-1, 0)).1)) (HH w s l A B) := by
  have h49 := hN.n49
  intro n
  induction n with
  | zero =>
    intro i hi
    have e : i = W * H := by omega
    subst e
    refine ev_cv rfl rfl HH_land (e_cells HH_land) ?_
    rw [hN.cells]
    refine ev_ift rfl rfl rfl (c_ge ((nI_leI (by omega) (by omega)).mpr (by omega))) ?_
    repeat (first | refine ev_gos 99 rfl ?_ | refine ev_gf2 rfl rfl rfl rfl ?_ | refine ev_gf2 rfl rfl HH_land rfl ?_ | refine ev_gf2 rfl rfl HH_draft rfl ?_ | refine ev_gf2 rfl rfl (by with_reducible assumption) rfl ?_)
    exact ev_ri rfl rfl rfl
  | succ n ih =>
    intro i hi
    refine ev_cv rfl rfl HH_land (e_cells HH_land) ?_
    rw [hN.cells]
    refine ev_iff rfl rfl rfl (d_ge (nI_lt3 (by omega) (by omega) (by omega))) ?_
    repeat (first | refine ev_gos 99 rfl ?_ | refine ev_gf2 rfl rfl rfl rfl ?_ | refine ev_gf2 rfl rfl HH_land rfl ?_ | refine ev_gf2 rfl rfl HH_draft rfl ?_ | refine ev_gf2 rfl rfl (by with_reducible assumption) rfl ?_)
    refine ev_cs rfl rfl rfl (e_has sc _ _ room (k := i) (by omega)) ?_
    have h3 := ih (i + 1) (by omega)
    rw [← nI_1] at h3
    have hst : fo (brF W (W * H) room seen (B 5) k sg) (i + 1) (-1, 0) = brF W (W * H) room seen (B 5) k sg i (fo (brF W (W * H) room seen (B 5) k sg) i (-1, 0)) := rfl
    rw [hst] at h3
    generalize fo (brF W (W * H) room seen (B 5) k sg) i (-1, 0) = a at h3 ⊢
    unfold brF at h3
    cases hb : bs room i with
    | false =>
      rw [hb] at h3
      refine ev_ift rfl rfl rfl rfl ?_
      repeat (first | refine ev_gos 99 rfl ?_ | refine ev_gf2 rfl rfl rfl rfl ?_ | refine ev_gf2 rfl rfl HH_land rfl ?_ | refine ev_gf2 rfl rfl HH_draft rfl ?_ | refine ev_gf2 rfl rfl (by with_reducible assumption) rfl ?_)
      exact ev_wk2 h3 rfl (by repeat' (first | exact trivial | refine ⟨rfl, ?_⟩))
    | true =>
      rw [hb] at h3
      refine ev_iff rfl rfl rfl rfl ?_
      repeat (first | refine ev_gos 99 rfl ?_ | refine ev_gf2 rfl rfl rfl rfl ?_ | refine ev_gf2 rfl rfl HH_land rfl ?_ | refine ev_gf2 rfl rfl HH_draft rfl ?_ | refine ev_gf2 rfl rfl (by with_reducible assumption) rfl ?_)
      (refine ev_ia rfl HH_kinds (inI (by omega) (by decide)) ?_; rw [nI_clamp (by omega)])
      rw [ek]
      repeat (first | refine ev_gos 99 rfl ?_ | refine ev_gf2 rfl rfl rfl rfl ?_ | refine ev_gf2 rfl rfl HH_land rfl ?_ | refine ev_gf2 rfl rfl HH_draft rfl ?_ | refine ev_gf2 rfl rfl (by with_reducible assumption) rfl ?_)
      refine ev_cv rfl rfl HH_land (e_shape HH_land HH_shapes hk (by omega)) ?_
      repeat (first | refine ev_gos 99 rfl ?_ | refine ev_gf2 rfl rfl rfl rfl ?_ | refine ev_gf2 rfl rfl HH_land rfl ?_ | refine ev_gf2 rfl rfl HH_draft rfl ?_ | refine ev_gf2 rfl rfl (by with_reducible assumption) rfl ?_)
      refine ev_cv rfl rfl HH_land (e_countOf HH_land hN.1 hN.2.2.2.2.2.2.2.1 hN.2.2.2.2.2.2.2.2.1 hN.2.2.2.2.2.2.2.2.2.1 _) ?_
      repeat (first | refine ev_gos 99 rfl ?_ | refine ev_gf2 rfl rfl rfl rfl ?_ | refine ev_gf2 rfl rfl HH_land rfl ?_ | refine ev_gf2 rfl rfl HH_draft rfl ?_ | refine ev_gf2 rfl rfl (by with_reducible assumption) rfl ?_)
      dsimp only [cond_true] at h3
      by_cases h1 : a.1 = -1
      · rw [if_pos (Or.inl h1)] at h3
        refine ev_ift rfl rfl rfl (c_eq h1) ?_
        repeat (first | refine ev_gos 99 rfl ?_ | refine ev_gf2 rfl rfl rfl rfl ?_ | refine ev_gf2 rfl rfl HH_land rfl ?_ | refine ev_gf2 rfl rfl HH_draft rfl ?_ | refine ev_gf2 rfl rfl (by with_reducible assumption) rfl ?_)
        exact ev_wk2 h3 rfl (by repeat' (first | exact trivial | refine ⟨rfl, ?_⟩))
      · refine ev_iff rfl rfl rfl (d_eq h1) ?_
        repeat (first | refine ev_gos 99 rfl ?_ | refine ev_gf2 rfl rfl rfl rfl ?_ | refine ev_gf2 rfl rfl HH_land rfl ?_ | refine ev_gf2 rfl rfl HH_draft rfl ?_ | refine ev_gf2 rfl rfl (by with_reducible assumption) rfl ?_)
        by_cases h2 : a.2 < sg * nI (cntS W (W * H) (seen ||| B 5 (k * 49 + i)))
        · rw [if_pos (Or.inr h2)] at h3
          refine ev_iff rfl rfl rfl (d_le (fun z => le_nlt z h2)) ?_
          repeat (first | refine ev_gos 99 rfl ?_ | refine ev_gf2 rfl rfl rfl rfl ?_ | refine ev_gf2 rfl rfl HH_land rfl ?_ | refine ev_gf2 rfl rfl HH_draft rfl ?_ | refine ev_gf2 rfl rfl (by with_reducible assumption) rfl ?_)
          exact ev_wk2 h3 rfl (by repeat' (first | exact trivial | refine ⟨rfl, ?_⟩))
        · rw [if_neg (fun z => z.elim h1 h2)] at h3
          refine ev_ift rfl rfl rfl (c_le (nlt_le3 h2)) ?_
          repeat (first | refine ev_gos 99 rfl ?_ | refine ev_gf2 rfl rfl rfl rfl ?_ | refine ev_gf2 rfl rfl HH_land rfl ?_ | refine ev_gf2 rfl rfl HH_draft rfl ?_ | refine ev_gf2 rfl rfl (by with_reducible assumption) rfl ?_)
          exact ev_wk2 h3 rfl (by repeat' (first | exact trivial | refine ⟨rfl, ?_⟩))
theorem e_bestRoom (hN : CN s l A B W H P) {p k : Nat} (hp : p < 7) (hk : k < 5) (ek : A 4 p = nI k) (sg : Int32) : Ev sc (d + 5) m_C_bestRoomFor 0 (iniL 11 [.ref 0, .int (nI p), .int sg]) [] (HH w s l A B) (some (.int (fo (brF W (W * H) (rmS (B 5) (A 10) k (W * H)) (dnS (A 10) 3 49) (B 5) k sg) (W * H) (-1, 0)).1)) (HH w s l A B) := by
  repeat (first | refine ev_gos 99 rfl ?_ | refine ev_gf2 rfl rfl rfl rfl ?_ | refine ev_gf2 rfl rfl HH_land rfl ?_ | refine ev_gf2 rfl rfl HH_draft rfl ?_ | refine ev_gf2 rfl rfl (by with_reducible assumption) rfl ?_)
  refine ev_cv rfl rfl rfl (e_roomFor hN hp hk ek) ?_
  repeat (first | refine ev_gos 99 rfl ?_ | refine ev_gf2 rfl rfl rfl rfl ?_ | refine ev_gf2 rfl rfl HH_land rfl ?_ | refine ev_gf2 rfl rfl HH_draft rfl ?_ | refine ev_gf2 rfl rfl (by with_reducible assumption) rfl ?_)
  refine ev_cv rfl rfl rfl (e_seen (p := 9) (pd := 10) (pa := 11) (wd := s 9) (nt := s 10) (f := A 10) rfl rfl) ?_
  repeat (first | refine ev_gos 99 rfl ?_ | refine ev_gf2 rfl rfl rfl rfl ?_ | refine ev_gf2 rfl rfl HH_land rfl ?_ | refine ev_gf2 rfl rfl HH_draft rfl ?_ | refine ev_gf2 rfl rfl (by with_reducible assumption) rfl ?_)
  exact e_bestRoom_loop hN hp hk ek sg _ _ (W * H) 0 (Nat.zero_add _)
/-- what was found so far -/
def FD (s : Nat → Int32) (A : Nat → Nat → Int32) (N m : Nat) : Prop := m ≤ 6 ∧ s 13 = nI m ∧ ∀ i, i < m → ∃ c, c < N ∧ A 22 i = nI c
theorem e_fitsFound {N m : Nat} (h49 : N ≤ 49) (hF : FD s A N m) {k c : Nat} (hk : k < 5) (hc : c < 49) : Ev sc (d + 2) m_C_fitsFound 0 (iniL 5 [.ref 0, .int (nI k), .int (nI c)]) [] (HH w s l A B) (some (.int (b01 (fitB (B 5) (A 22) (A 23) m k c)))) (HH w s l A B) := by
  repeat (first | refine ev_gos 99 rfl ?_ | refine ev_gf2 rfl rfl rfl rfl ?_ | refine ev_gf2 rfl rfl HH_land rfl ?_ | refine ev_gf2 rfl rfl HH_draft rfl ?_ | refine ev_gf2 rfl rfl (by with_reducible assumption) rfl ?_)
  refine ev_cv rfl rfl HH_land (e_shape HH_land HH_shapes hk hc) ?_
  repeat (first | refine ev_gos 99 rfl ?_ | refine ev_gf2 rfl rfl rfl rfl ?_ | refine ev_gf2 rfl rfl HH_land rfl ?_ | refine ev_gf2 rfl rfl HH_draft rfl ?_ | refine ev_gf2 rfl rfl (by with_reducible assumption) rfl ?_)
  unfold fitB
  by_cases h1 : B 5 (k * 49 + c) = 0
  · refine ev_ift rfl rfl rfl (i_eq (lc_eq.mpr h1)) ?_
    repeat (first | refine ev_gos 99 rfl ?_ | refine ev_gf2 rfl rfl rfl rfl ?_ | refine ev_gf2 rfl rfl HH_land rfl ?_ | refine ev_gf2 rfl rfl HH_draft rfl ?_ | refine ev_gf2 rfl rfl (by with_reducible assumption) rfl ?_)
    exact ev_rz rfl (Or.inl rfl) (by rw [decide_eq_false (fun z => z h1)]; rfl) rfl
  · refine ev_iff rfl rfl rfl (j_eq (fun z => h1 (lc_eq.mp z))) ?_
    repeat (first | refine ev_gos 99 rfl ?_ | refine ev_gf2 rfl rfl rfl rfl ?_ | refine ev_gf2 rfl rfl HH_land rfl ?_ | refine ev_gf2 rfl rfl HH_draft rfl ?_ | refine ev_gf2 rfl rfl (by with_reducible assumption) rfl ?_)
    refine ev_cv rfl rfl rfl (e_agrees hF.1 hF.2.1 (fun i hi => by obtain ⟨c, c1, c2⟩ := hF.2.2 i hi; exact ⟨c, by omega, c2⟩) _) ?_
    rw [decide_eq_true h1]
    cases hb : agS (A 22) (A 23) (B 5 (k * 49 + c)) m with
    | true =>
      refine ev_iff rfl rfl rfl rfl ?_
      repeat (first | refine ev_gos 99 rfl ?_ | refine ev_gf2 rfl rfl rfl rfl ?_ | refine ev_gf2 rfl rfl HH_land rfl ?_ | refine ev_gf2 rfl rfl HH_draft rfl ?_ | refine ev_gf2 rfl rfl (by with_reducible assumption) rfl ?_)
      exact ev_rz rfl (Or.inr rfl) rfl rfl
    | false =>
      refine ev_ift rfl rfl rfl rfl ?_
      repeat (first | refine ev_gos 99 rfl ?_ | refine ev_gf2 rfl rfl rfl rfl ?_ | refine ev_gf2 rfl rfl HH_land rfl ?_ | refine ev_gf2 rfl rfl HH_draft rfl ?_ | refine ev_gf2 rfl rfl (by with_reducible assumption) rfl ?_)
      exact ev_rz rfl (Or.inl rfl) rfl rfl
theorem e_howOfKind_loop (hN : CN s l A B W H P) {m : Nat} (hF : FD s A (W * H) m) {k : Nat} (hk : k < 5) : ∀ (n i : Nat), i + n = W * H → Ev sc (d + 3) m_C_howManyOfKindFit 9 [some (.ref 0), some (.int (nI k)), some (.int (nI (cntB (fitB (B 5) (A 22) (A 23) m k) i))), some (.int (nI i))] [.ref (wL w), .int (nI i)] (HH w s l A B) (some (.int (nI (cntB (fitB (B 5) (A 22) (A 23) m k) (W * H))))) (HH w s l A B) := by
  have h49 := hN.n49
  intro n
  induction n with
  | zero =>
    intro i hi
    have e : i = W * H := by omega
    subst e
    refine ev_cv rfl rfl HH_land (e_cells HH_land) ?_
    rw [hN.cells]
    refine ev_ift rfl rfl rfl (c_ge ((nI_leI (by omega) (by omega)).mpr (by omega))) ?_
    repeat (first | refine ev_gos 99 rfl ?_ | refine ev_gf2 rfl rfl rfl rfl ?_ | refine ev_gf2 rfl rfl HH_land rfl ?_ | refine ev_gf2 rfl rfl HH_draft rfl ?_ | refine ev_gf2 rfl rfl (by with_reducible assumption) rfl ?_)
    exact ev_ri rfl rfl rfl
  | succ n ih =>
    intro i hi
    refine ev_cv rfl rfl HH_land (e_cells HH_land) ?_
    rw [hN.cells]
    refine ev_iff rfl rfl rfl (d_ge (nI_lt3 (by omega) (by omega) (by omega))) ?_
    repeat (first | refine ev_gos 99 rfl ?_ | refine ev_gf2 rfl rfl rfl rfl ?_ | refine ev_gf2 rfl rfl HH_land rfl ?_ | refine ev_gf2 rfl rfl HH_draft rfl ?_ | refine ev_gf2 rfl rfl (by with_reducible assumption) rfl ?_)
    refine ev_cv rfl rfl rfl (e_fitsFound h49 hF hk (c := i) (by omega)) ?_
    have h3 := ih (i + 1) (by omega)
    rw [← nI_1, show cntB (fitB (B 5) (A 22) (A 23) m k) (i + 1) = cntB (fitB (B 5) (A 22) (A 23) m k) i + (bif fitB (B 5) (A 22) (A 23) m k i then 1 else 0) from rfl] at h3
    cases hb : fitB (B 5) (A 22) (A 23) m k i with
    | true =>
      rw [hb] at h3
      dsimp only [cond_true] at h3
      rw [← nI_1] at h3
      refine ev_iff rfl rfl rfl rfl ?_
      repeat (first | refine ev_gos 99 rfl ?_ | refine ev_gf2 rfl rfl rfl rfl ?_ | refine ev_gf2 rfl rfl HH_land rfl ?_ | refine ev_gf2 rfl rfl HH_draft rfl ?_ | refine ev_gf2 rfl rfl (by with_reducible assumption) rfl ?_)
      exact h3
    | false =>
      rw [hb] at h3
      refine ev_ift rfl rfl rfl rfl ?_
      repeat (first | refine ev_gos 99 rfl ?_ | refine ev_gf2 rfl rfl rfl rfl ?_ | refine ev_gf2 rfl rfl HH_land rfl ?_ | refine ev_gf2 rfl rfl HH_draft rfl ?_ | refine ev_gf2 rfl rfl (by with_reducible assumption) rfl ?_)
      exact h3
theorem e_howOfKind (hN : CN s l A B W H P) {m : Nat} (hF : FD s A (W * H) m) {k : Nat} (hk : k < 5) : Ev sc (d + 3) m_C_howManyOfKindFit 0 (iniL 4 [.ref 0, .int (nI k)]) [] (HH w s l A B) (some (.int (nI (cntB (fitB (B 5) (A 22) (A 23) m k) (W * H))))) (HH w s l A B) := by
  repeat (first | refine ev_gos 99 rfl ?_ | refine ev_gf2 rfl rfl rfl rfl ?_ | refine ev_gf2 rfl rfl HH_land rfl ?_ | refine ev_gf2 rfl rfl HH_draft rfl ?_ | refine ev_gf2 rfl rfl (by with_reducible assumption) rfl ?_)
  exact e_howOfKind_loop hN hF hk (W * H) 0 (Nat.zero_add _)
theorem e_howMany_loop (hN : CN s l A B W H P) {m : Nat} (hF : FD s A (W * H) m) : ∀ (n i : Nat), i + n = 5 → Ev sc (d + 4) m_C_howManyFit 6 [some (.ref 0), some (.int (nI (sumB (fitB (B 5) (A 22) (A 23) m) (W * H) i))), some (.int (nI i))] [.int 5, .int (nI i)] (HH w s l A B) (some (.int (nI (sumB (fitB (B 5) (A 22) (A 23) m) (W * H) 5)))) (HH w s l A B) := by
  intro n
  induction n with
  | zero =>
    intro i hi
    have e : i = 5 := by omega
    subst e
    refine ev_ift rfl rfl rfl (c_ge (by decide : (5 : Int32) ≤ nI 5)) ?_
    repeat (first | refine ev_gos 99 rfl ?_ | refine ev_gf2 rfl rfl rfl rfl ?_ | refine ev_gf2 rfl rfl HH_land rfl ?_ | refine ev_gf2 rfl rfl HH_draft rfl ?_ | refine ev_gf2 rfl rfl (by with_reducible assumption) rfl ?_)
    exact ev_ri rfl rfl rfl
  | succ n ih =>
    intro i hi
    refine ev_iff rfl rfl rfl (d_ge (nI_lt3 (b := 5) (by omega) (by omega) (by omega))) ?_
    repeat (first | refine ev_gos 99 rfl ?_ | refine ev_gf2 rfl rfl rfl rfl ?_ | refine ev_gf2 rfl rfl HH_land rfl ?_ | refine ev_gf2 rfl rfl HH_draft rfl ?_ | refine ev_gf2 rfl rfl (by with_reducible assumption) rfl ?_)
    refine ev_cv rfl rfl rfl (e_howOfKind hN hF (k := i) (by omega)) ?_
    have h3 := ih (i + 1) (by omega)
    rw [← nI_1, show sumB (fitB (B 5) (A 22) (A 23) m) (W * H) (i + 1) = sumB (fitB (B 5) (A 22) (A 23) m) (W * H) i + cntB (fitB (B 5) (A 22) (A 23) m i) (W * H) from rfl, ← nI_add] at h3
    repeat (first | refine ev_gos 99 rfl ?_ | refine ev_gf2 rfl rfl rfl rfl ?_ | refine ev_gf2 rfl rfl HH_land rfl ?_ | refine ev_gf2 rfl rfl HH_draft rfl ?_ | refine ev_gf2 rfl rfl (by with_reducible assumption) rfl ?_)
    exact h3
theorem e_howMany (hN : CN s l A B W H P) {m : Nat} (hF : FD s A (W * H) m) : Ev sc (d + 4) m_C_howManyFit 0 (iniL 3 [.ref 0]) [] (HH w s l A B) (some (.int (nI (sumB (fitB (B 5) (A 22) (A 23) m) (W * H) 5)))) (HH w s l A B) := by
  repeat (first | refine ev_gos 99 rfl ?_ | refine ev_gf2 rfl rfl rfl rfl ?_ | refine ev_gf2 rfl rfl HH_land rfl ?_ | refine ev_gf2 rfl rfl HH_draft rfl ?_ | refine ev_gf2 rfl rfl (by with_reducible assumption) rfl ?_)
  exact e_howMany_loop hN hF 5 0 rfl
theorem e_kinds_loop (hN : CN s l A B W H P) {m : Nat} (hF : FD s A (W * H) m) : ∀ (n i : Nat), i + n = 5 → Ev sc (d + 4) m_C_kindsThatFit 6 [some (.ref 0), some (.int (fo (knd (fitB (B 5) (A 22) (A 23) m) (W * H)) i 0)), some (.int (nI i))] [.int 5, .int (nI i)] (HH w s l A B) (some (.int (fo (knd (fitB (B 5) (A 22) (A 23) m) (W * H)) 5 0))) (HH w s l A B) := by
  have h49 := hN.n49
  intro n
  induction n with
  | zero =>
    intro i hi
    have e : i = 5 := by omega
    subst e
    refine ev_ift rfl rfl rfl (c_ge (by decide : (5 : Int32) ≤ nI 5)) ?_
    repeat (first | refine ev_gos 99 rfl ?_ | refine ev_gf2 rfl rfl rfl rfl ?_ | refine ev_gf2 rfl rfl HH_land rfl ?_ | refine ev_gf2 rfl rfl HH_draft rfl ?_ | refine ev_gf2 rfl rfl (by with_reducible assumption) rfl ?_)
    exact ev_ri rfl rfl rfl
  | succ n ih =>
    intro i hi
    refine ev_iff rfl rfl rfl (d_ge (nI_lt3 (b := 5) (by omega) (by omega) (by omega))) ?_
    repeat (first | refine ev_gos 99 rfl ?_ | refine ev_gf2 rfl rfl rfl rfl ?_ | refine ev_gf2 rfl rfl HH_land rfl ?_ | refine ev_gf2 rfl rfl HH_draft rfl ?_ | refine ev_gf2 rfl rfl (by with_reducible assumption) rfl ?_)
    refine ev_cv rfl rfl rfl (e_howOfKind hN hF (k := i) (by omega)) ?_
    have h3 := ih (i + 1) (by omega)
    have hst : fo (knd (fitB (B 5) (A 22) (A 23) m) (W * H)) (i + 1) 0 = knd (fitB (B 5) (A 22) (A 23) m) (W * H) i (fo (knd (fitB (B 5) (A 22) (A 23) m) (W * H)) i 0) := rfl
    rw [← nI_1, hst] at h3
    unfold knd at h3
    have hle := cntB_le (fitB (B 5) (A 22) (A 23) m i) (W * H)
    by_cases h0 : 0 < cntB (fitB (B 5) (A 22) (A 23) m i) (W * H)
    · rw [if_pos h0] at h3
      refine ev_iff rfl rfl rfl (j_le (nI_nle h0 (by omega))) ?_
      repeat (first | refine ev_gos 99 rfl ?_ | refine ev_gf2 rfl rfl rfl rfl ?_ | refine ev_gf2 rfl rfl HH_land rfl ?_ | refine ev_gf2 rfl rfl HH_draft rfl ?_ | refine ev_gf2 rfl rfl (by with_reducible assumption) rfl ?_)
      exact h3
    · rw [if_neg h0] at h3
      refine ev_ift rfl rfl rfl (i_le (by rw [show cntB (fitB (B 5) (A 22) (A 23) m i) (W * H) = 0 by omega]; decide)) ?_
      repeat (first | refine ev_gos 99 rfl ?_ | refine ev_gf2 rfl rfl rfl rfl ?_ | refine ev_gf2 rfl rfl HH_land rfl ?_ | refine ev_gf2 rfl rfl HH_draft rfl ?_ | refine ev_gf2 rfl rfl (by with_reducible assumption) rfl ?_)
      exact h3
theorem e_kinds (hN : CN s l A B W H P) {m : Nat} (hF : FD s A (W * H) m) : Ev sc (d + 4) m_C_kindsThatFit 0 (iniL 3 [.ref 0]) [] (HH w s l A B) (some (.int (fo (knd (fitB (B 5) (A 22) (A 23) m) (W * H)) 5 0))) (HH w s l A B) := by
  repeat (first | refine ev_gos 99 rfl ?_ | refine ev_gf2 rfl rfl rfl rfl ?_ | refine ev_gf2 rfl rfl HH_land rfl ?_ | refine ev_gf2 rfl rfl HH_draft rfl ?_ | refine ev_gf2 rfl rfl (by with_reducible assumption) rfl ?_)
  exact e_kinds_loop hN hF 5 0 rfl
end DE3
