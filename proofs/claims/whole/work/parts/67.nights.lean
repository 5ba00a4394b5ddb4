/-! both sides: nights, nights by draws -/
def qS (s : Nat → Int32) (a b e f g : Int32) : Nat → Int32 := upA (upA (upA (upA (upA s 6 a) 7 b) 8 e) 9 f) 10 g
def qA (A : Nat → Nat → Int32) (r t u : Nat → Int32) : Nat → Nat → Int32 := upA (upA (upA A 16 r) 11 t) 10 u
def qM (A : Nat → Nat → Int32) (g R f : Nat → Int32) : Nat → Nat → Int32 := upA (upA (upA A 31 g) 32 R) 29 f
section CSA
variable {s : Nat → Int32} {a b e f g x : Int32} {A : Nat → Nat → Int32} {r t u y : Nat → Int32}
theorem qS6 : upA (qS s a b e f g) 6 x = qS s x b e f g := by
  unfold qS
  rw [upA_comm _ (p := 10) (q := 6) rfl, upA_comm _ (p := 9) (q := 6) rfl, upA_comm _ (p := 8) (q := 6) rfl, upA_comm _ (p := 7) (q := 6) rfl, upA_up]
theorem qS7 : upA (qS s a b e f g) 7 x = qS s a x e f g := by
  unfold qS
  rw [upA_comm _ (p := 10) (q := 7) rfl, upA_comm _ (p := 9) (q := 7) rfl, upA_comm _ (p := 8) (q := 7) rfl, upA_up]
theorem qS8 : upA (qS s a b e f g) 8 x = qS s a b x f g := by
  unfold qS
  rw [upA_comm _ (p := 10) (q := 8) rfl, upA_comm _ (p := 9) (q := 8) rfl, upA_up]
theorem qS9 : upA (qS s a b e f g) 9 x = qS s a b e x g := by
  unfold qS
  rw [upA_comm _ (p := 10) (q := 9) rfl, upA_up]
theorem qS10 : upA (qS s a b e f g) 10 x = qS s a b e f x := by
  unfold qS
  rw [upA_up]
theorem qA16 : upA (qA A r t u) 16 y = qA A y t u := by
  unfold qA
  rw [upA_comm _ (p := 10) (q := 16) rfl, upA_comm _ (p := 11) (q := 16) rfl, upA_up]
theorem qA11 : upA (qA A r t u) 11 y = qA A r y u := by
  unfold qA
  rw [upA_comm _ (p := 10) (q := 11) rfl, upA_up]
theorem qA10 : upA (qA A r t u) 10 y = qA A r t y := by
  unfold qA
  rw [upA_up]
theorem qM31 : upA (qM A r t u) 31 y = qM A y t u := by
  unfold qM
  rw [upA_comm _ (p := 29) (q := 31) rfl, upA_comm _ (p := 32) (q := 31) rfl, upA_up]
theorem qM32 : upA (qM A r t u) 32 y = qM A r y u := by
  unfold qM
  rw [upA_comm _ (p := 29) (q := 32) rfl, upA_up]
theorem qM29 : upA (qM A r t u) 29 y = qM A r t y := by
  unfold qM
  rw [upA_up]
theorem qS_id (s : Nat → Int32) : qS s (s 6) (s 7) (s 8) (s 9) (s 10) = s := by
  unfold qS
  rw [upA_id, upA_id, upA_id, upA_id, upA_id]
theorem qA_id (A : Nat → Nat → Int32) : qA A (A 16) (A 11) (A 10) = A := by
  unfold qA
  rw [upA_id, upA_id, upA_id]
theorem qM_id (A : Nat → Nat → Int32) : qM A (A 31) (A 32) (A 29) = A := by
  unfold qM
  rw [upA_id, upA_id, upA_id]
end CSA
section NGT
variable {sc : Scr} {d : Nat} {w : Bool} {s : Nat → Int32} {l : Nat → Int64} {A : Nat → Nat → Int32} {B : Nat → Nat → Int64} {W H P fi c : Nat}
variable {a b e f g : Int32} {r t u : Nat → Int32}
theorem e_pN (hN : CN s l A B W H P) {k : Nat} (hk : k ≤ 4) : Ev sc (d + 2) m_F_passNight 0 (iniL 8 [.ref 9, .ref (wL w)]) [] (HH w (qS s a b e (nI k) g) l (qA A r t u) B) none (HH w (qS s a b e (nI k) (g + 1)) l (qA A r t (mapP (ngF (shlS W (W * H) (l 3) u k)) u 49)) B) := by
  have q := e_passN (sc := sc) (d := d) (w := w) (s := qS s a b e (nI k) g) (l := l) (A := qA A r t u) (B := B) (W := W) (N := W * H) hN.1 hN.2.2.2.2.2.2.2.1 hN.2.2.2.2.2.2.2.2.1 hN.2.2.2.2.2.2.2.2.2.1 hk rfl
  rw [qS10, qA10] at q
  exact q
theorem e_rem (h1 : fi < 30) (h2 : c ≤ 30) : Ev sc (d + 1) m_C_remember 0 (iniL 1 [.ref 0]) [] (HH w (qS s (nI fi) (nI c) e f g) l (qA A r t u) B) none (HH w (qS s (nI (rmF fi c)) (nI (rmC c + 1)) e f g) l (qA A (putS r ((rmF fi c + rmC c) % 30) u t f g) t u) B) := by
  have q := e_remember (sc := sc) (d := d) (w := w) (s := qS s (nI fi) (nI c) e f g) (l := l) (A := qA A r t u) (B := B) (f := fi) (c := c) rfl h1 rfl h2
  unfold remS remA at q
  rw [qS6, qS7, qA16] at q
  exact q
theorem e_hap (hN : CN s l A B W H P) (hW : 2 ≤ W) (hH : 2 ≤ H) : Ev sc (d + 4) m_C_happenByDraw 0 (iniL 1 [.ref 0]) [] (HH w (qS s a b e f g) l (qA A r t u) B) none (HH w (qS s a b (hapD W H P (l 3) (A 4) (B 5) e u t f).1 (hapD W H P (l 3) (A 4) (B 5) e u t f).2.2.2 g) l (qA A r (hapD W H P (l 3) (A 4) (B 5) e u t f).2.2.1 (hapD W H P (l 3) (A 4) (B 5) e u t f).2.1) B) := by
  have q := e_happen (sc := sc) (d := d) (w := w) (s := qS s a b e f g) (l := l) (A := qA A r t u) (B := B) (W := W) (H := H) (P := P) hN hW hH
  rw [qS8, qS9, qA11, qA10] at q
  exact q
theorem e_mrem (h2 : c ≤ 30) : Ev sc (d + 1) m_M_remember 0 (iniL 2 [.ref 26]) [] (HH w (upA s 23 (nI c)) l (qM A r t u) B) none (HH w (upA s 23 (nI (rmC c + 1))) l (qM A r (pstM t u c) u) B) := by
  have q := e_mremember (sc := sc) (d := d) (w := w) (s := upA s 23 (nI c)) (l := l) (A := qM A r t u) (B := B) (c := c) rfl h2
  rw [upA_up, qM32] at q
  exact q
theorem e_mnN {rk : Int64} (hM : MN (A 27) rk W H P) (hrk : WI rk (W * H)) {k : Nat} (hk : k ≤ 4) (ek : u 57 = nI k) : Ev sc (d + 2) m_M_nightGoes 0 (iniL 7 [.ref 26, .ref 29]) [] (HH w s l (qM A r t u) B) none (HH w s l (qM A (va_cpy u r 0 0 49) t (nmI W H rk u k)) B) := by
  have q := e_mnightN (sc := sc) (d := d) (w := w) (s := s) (l := l) (A := qM A r t u) (B := B) hM hrk hk ek
  rw [qM31, qM29] at q
  exact q
theorem e_mdr {rk : Int64} (hM : MN (A 27) rk W H P) (h0 : 0 < W * H) {x : Int32} (hx : SD x) : Ev sc (d + 4) m_M_draws 0 (iniL 4 [.ref 26]) [] (HH w s (upA l 8 x.toInt64) (qM A r t u) B) none (HH w s (upA l 8 (hapM W H P rk (A 27) x u).1.toInt64) (qM A r t (hapM W H P rk (A 27) x u).2) B) := by
  have q := e_mdraws (sc := sc) (d := d) (w := w) (s := s) (l := upA l 8 x.toInt64) (A := qM A r t u) (B := B) hM h0 hx rfl
  rw [upA_up, qM29] at q
  exact q
/-- class and model side by side, from a night on -/
def PI (l : Nat → Int64) (A : Nat → Nat → Int32) (W H P fi c : Nat) (x8 x9 x10 : Int32) (a16 a11 a10 R F : Nat → Int32) : Prop := SP W H P (l 3) (A 4) a10 a11 x9 x10 F ∧ fi < 30 ∧ c ≤ 30 ∧ DD W H P (l 3) (A 4) fi c a16 R ∧ SD x8
theorem PI_night (hN : CN s l A B W H P) (hR : WI (l 3) (W * H)) (h2 : W * H = 0 ∨ (2 ≤ W ∧ 2 ≤ H)) {x8 x10 : Int32} {k : Nat} (hk : k ≤ 4) {a16 a11 a10 R F : Nat → Int32} (h : PI l A W H P fi c x8 (nI k) x10 a16 a11 a10 R F) : PI l A W H P fi c x8 (nI k) (x10 + 1) a16 a11 (mapP (ngF (shlS W (W * H) (l 3) a10 k)) a10 49) R (nmI W H (l 3) F k) := ⟨SP_night h.1 hN.2.2.2.1 hN.2.2.2.2.1 h2 hR hk, h.2⟩
theorem PI_rem {x8 x9 x10 : Int32} {a16 a11 a10 R F : Nat → Int32} (h : PI l A W H P fi c x8 x9 x10 a16 a11 a10 R F) : PI l A W H P (rmF fi c) (rmC c + 1) x8 x9 x10 (putS a16 ((rmF fi c + rmC c) % 30) a10 a11 x9 x10) a11 a10 (pstM R F c) F := ⟨h.1, rmF_lt h.2.1, rmC_le h.2.2.1, DD_rem h.1 h.2.1 h.2.2.1 h.2.2.2.1, h.2.2.2.2⟩
theorem e_night_loop (hN : CN s l A B W H P) (hM : MN (A 27) (l 3) W H P) (hR : WI (l 3) (W * H)) (h2 : W * H = 0 ∨ (2 ≤ W ∧ 2 ≤ H)) {n : Nat} (hn : n ≤ 20) {x8 : Int32} {k : Nat} (hk : k ≤ 4) {a11 : Nat → Int32} : ∀ (m i fi c : Nat) (x10 : Int32) (a16 a10 G R F : Nat → Int32), i + m = n → PI l A W H P fi c x8 (nI k) x10 a16 a11 a10 R F → ∃ (fi' c' : Nat) (x10' : Int32) (a16' a10' G' R' F' : Nat → Int32), PI l A W H P fi' c' x8 (nI k) x10' a16' a11 a10' R' F' ∧ Ev sc (d + 6) m_C_night 16 [some (.ref 0), some (.int (nI n)), some (.int 0), some (.int (nI i))] [.int (nI n), .int (nI i)] (HH w (qS s (nI fi) (nI c) x8 (nI k) x10) l (qA A a16 a11 a10) B) (some (.int (nI (cntS W (W * H) (dnS a10' 3 49))))) (HH w (qS s (nI fi') (nI c') x8 (nI k) x10') l (qA A a16' a11 a10') B) ∧ ∀ (S : Nat → Int32) (L : Nat → Int64) (X : Nat → Nat → Int32), X 27 = A 27 → Ev sc (d + 6) m_M_night 16 [some (.ref 26), some (.int (nI n)), some (.int 0), some (.int (nI i))] [.int (nI n), .int (nI i)] (HH w (upA S 23 (nI c)) L (qM X G R F) B) (some (.int (nI (cntS W (W * H) (dnS a10' 3 49))))) (HH w (upA S 23 (nI c')) L (qM X G' R' F') B) := by
  intro m
  induction m with
  | zero =>
    intro i fi c x10 a16 a10 G R F hi hp
    have e : i = n := by omega
    subst e
    refine ⟨fi, c, x10, a16, a10, G, R, F, hp, ?_, fun S L X hX => ?_⟩
    · refine ev_ift rfl rfl rfl (c_ge ((nI_leI (by omega) (by omega)).mpr (by omega))) ?_
      repeat (first | refine ev_gos 99 rfl ?_ | refine ev_gf2 rfl rfl rfl rfl ?_ | refine ev_gf2 rfl rfl HH_land rfl ?_ | refine ev_gf2 rfl rfl HH_draft rfl ?_ | refine ev_gf2 rfl rfl (by with_reducible assumption) rfl ?_)
      refine ev_cv rfl rfl rfl (e_countNow (W := W) (N := W * H) hN.1 hN.2.2.2.2.2.2.2.1 hN.2.2.2.2.2.2.2.2.1 hN.2.2.2.2.2.2.2.2.2.1) ?_
      exact ev_ri rfl rfl rfl
    · refine ev_ift rfl rfl rfl (c_ge ((nI_leI (by omega) (by omega)).mpr (by omega))) ?_
      repeat (first | refine ev_gos 99 rfl ?_ | refine ev_gf2 rfl rfl rfl rfl ?_ | refine ev_gf2 rfl rfl HH_land rfl ?_ | refine ev_gf2 rfl rfl HH_draft rfl ?_ | refine ev_gf2 rfl rfl (by with_reducible assumption) rfl ?_)
      refine ev_cv rfl rfl rfl (e_mcountN (A := qM X G R F) (rk := l 3) (W := W) (H := H) (P := P) (by rw [← hX] at hM; exact hM)) ?_
      refine (?_ : Ek sc _ m_M_night 45 _ [.int (nI (cntS W (W * H) (dnS F 3 (W * H))))] _ _ _ _ _)
      exact ev_ri rfl (by rw [cnt_eq hN hp.1]) rfl
  | succ m ih =>
    intro i fi c x10 a16 a10 G R F hi hp
    obtain ⟨fi', c', x10', a16', a10', G', R', F', q1, q2, q3⟩ := ih (i + 1) (rmF fi c) (rmC c + 1) (x10 + 1) (putS a16 ((rmF fi c + rmC c) % 30) a10 a11 (nI k) x10) (mapP (ngF (shlS W (W * H) (l 3) a10 k)) a10 49) (va_cpy F G 0 0 49) (pstM R F c) (nmI W H (l 3) F k) (by omega) (PI_night (s := s) (B := B) hN hR h2 hk (PI_rem hp))
    rw [← nI_1] at q2
    refine ⟨fi', c', x10', a16', a10', G', R', F', q1, ?_, fun S L X hX => ?_⟩
    · refine ev_iff rfl rfl rfl (d_ge (nI_lt3 (by omega) (by omega) (by omega))) ?_
      repeat (first | refine ev_gos 99 rfl ?_ | refine ev_gf2 rfl rfl rfl rfl ?_ | refine ev_gf2 rfl rfl HH_land rfl ?_ | refine ev_gf2 rfl rfl HH_draft rfl ?_ | refine ev_gf2 rfl rfl (by with_reducible assumption) rfl ?_)
      refine ev_cv rfl rfl rfl (e_rem hp.2.1 hp.2.2.1) ?_
      repeat (first | refine ev_gos 99 rfl ?_ | refine ev_gf2 rfl rfl rfl rfl ?_ | refine ev_gf2 rfl rfl HH_land rfl ?_ | refine ev_gf2 rfl rfl HH_draft rfl ?_ | refine ev_gf2 rfl rfl (by with_reducible assumption) rfl ?_)
      refine ev_cv rfl rfl rfl (e_pN hN hk) ?_
      repeat (first | refine ev_gos 99 rfl ?_ | refine ev_gf2 rfl rfl rfl rfl ?_ | refine ev_gf2 rfl rfl HH_land rfl ?_ | refine ev_gf2 rfl rfl HH_draft rfl ?_ | refine ev_gf2 rfl rfl (by with_reducible assumption) rfl ?_)
      exact q2
    · have q4 := q3 S L X hX
      rw [← nI_1] at q4
      refine ev_iff rfl rfl rfl (d_ge (nI_lt3 (by omega) (by omega) (by omega))) ?_
      repeat (first | refine ev_gos 99 rfl ?_ | refine ev_gf2 rfl rfl rfl rfl ?_ | refine ev_gf2 rfl rfl HH_land rfl ?_ | refine ev_gf2 rfl rfl HH_draft rfl ?_ | refine ev_gf2 rfl rfl (by with_reducible assumption) rfl ?_)
      refine ev_cv rfl rfl rfl (e_mrem hp.2.2.1) ?_
      repeat (first | refine ev_gos 99 rfl ?_ | refine ev_gf2 rfl rfl rfl rfl ?_ | refine ev_gf2 rfl rfl HH_land rfl ?_ | refine ev_gf2 rfl rfl HH_draft rfl ?_ | refine ev_gf2 rfl rfl (by with_reducible assumption) rfl ?_)
      refine ev_cv rfl rfl rfl (e_mnN (rk := l 3) (W := W) (H := H) (P := P) (by rw [← hX] at hM; exact hM) hR hk (hp.1.2.2.2.2.2.2.2)) ?_
      repeat (first | refine ev_gos 99 rfl ?_ | refine ev_gf2 rfl rfl rfl rfl ?_ | refine ev_gf2 rfl rfl HH_land rfl ?_ | refine ev_gf2 rfl rfl HH_draft rfl ?_ | refine ev_gf2 rfl rfl (by with_reducible assumption) rfl ?_)
      exact q4
theorem INV.pi (h : INV s l A B W H P fi c) : PI l A W H P fi c (s 8) (s 9) (s 10) (A 16) (A 11) (A 10) (A 32) (A 29) := ⟨h.2.2.2.2.1, h.2.2.2.2.2.1.2.1, h.2.2.2.2.2.1.2.2.2.1, h.2.2.2.2.2.1.2.2.2.2.2, h.2.2.2.2.2.2.1.1⟩
theorem PI_INV (h : INV s l A B W H P fi c) {fi' c' : Nat} {x8 x9 x10 : Int32} {a16 a11 a10 R F G : Nat → Int32} (hp : PI l A W H P fi' c' x8 x9 x10 a16 a11 a10 R F) : Jn (upA (qS s (nI fi') (nI c') x8 x9 x10) 23 (nI c')) (upA l 8 x8.toInt64) (qM (qA A a16 a11 a10) G R F) B := by
  obtain ⟨hN, hM, hR, hK, hS, hD, hX, hI, hT, hF, hO, hB⟩ := id h
  exact ⟨W, H, P, fi', c', hN, hM, hR, hK, hp.1, ⟨rfl, hp.2.1, rfl, hp.2.2.1, rfl, hp.2.2.2.1⟩, ⟨hp.2.2.2.2, rfl⟩, hI, hT, hF, hO, hB⟩
theorem rfs_ok {n : Int32} {W : Nat} {x : Int32} (h : rfs n W x = 0) : ∃ k, 1 ≤ k ∧ k ≤ 20 ∧ n = nI k ∧ ¬ W = 0 := by
  unfold rfs at h
  by_cases h1 : n < 1
  · rw [if_pos h1] at h
    exact absurd h (by decide)
  · rw [if_neg h1] at h
    by_cases h2 : 20 < n
    · rw [if_pos h2] at h
      exact absurd h (by decide)
    · rw [if_neg h2] at h
      by_cases h3 : W = 0
      · rw [if_pos h3] at h
        exact absurd h (by decide)
      · obtain ⟨k, k1, k2, k3⟩ := rngN (v := n) (a := 1) (b := 20) (by decide) (by decide) h1 h2
        exact ⟨k, k1, k2, k3, h3⟩
theorem b_night (h : INV s l A B W H P fi c) (x : Int32) : Both sc (d + 12) m_C_night 4 m_M_night 4 [.int x] w s l A B := by
  obtain ⟨hN, hM, hR, hK, hS, hD, hX, hI, hT, hF, hO, hB⟩ := id h
  have e56 : A 29 56 = s 10 := hS.2.2.2.2.2.2.1
  by_cases hr : rfs x W (s 10) = 0
  · obtain ⟨n, n1, n2, n3, n4⟩ := rfs_ok hr
    subst n3
    obtain ⟨k, k1, k2⟩ := hS.2.2.2.1
    have hpi := h.pi
    rw [k2] at hpi
    obtain ⟨fi', c', x10', a16', a10', G', R', F', q1, q2, q3⟩ := e_night_loop (sc := sc) (d := d + 6) (w := w) (s := s) (l := l) (A := A) (B := B) (W := W) (H := H) (P := P) hN hM hR h.two n2 (x8 := s 8) k1 (a11 := A 11) n 0 fi c (s 10) (A 16) (A 10) (A 31) (A 32) (A 29) (Nat.zero_add n) hpi
    rw [← k2, ← hD.1, ← hD.2.2.1, qS_id, qA_id] at q2
    have q4 := q3 (qS s (nI fi') (nI c') (s 8) (nI k) x10') l (qA A a16' (A 11) a10') rfl
    rw [← k2] at q4
    refine ⟨nI (cntS W (W * H) (dnS a10' 3 49)), HH w (qS s (nI fi') (nI c') (s 8) (s 9) x10') l (qA A a16' (A 11) a10') B, w, upA (qS s (nI fi') (nI c') (s 8) (s 9) x10') 23 (nI c'), upA l 8 (s 8).toInt64, qM (qA A a16' (A 11) a10') G' R' F', B, ?_, ?_, PI_INV h (by rw [← k2] at q1; exact q1)⟩
    · repeat (first | refine ev_gos 99 rfl ?_ | refine ev_gf2 rfl rfl rfl rfl ?_ | refine ev_gf2 rfl rfl HH_land rfl ?_ | refine ev_gf2 rfl rfl HH_draft rfl ?_ | refine ev_gf2 rfl rfl (by with_reducible assumption) rfl ?_)
      refine ev_cv rfl rfl rfl (e_refusal hN.1 hN.2.2.2.1 _) ?_
      rw [hr]
      repeat (first | refine ev_gos 99 rfl ?_ | refine ev_gf2 rfl rfl rfl rfl ?_ | refine ev_gf2 rfl rfl HH_land rfl ?_ | refine ev_gf2 rfl rfl HH_draft rfl ?_ | refine ev_gf2 rfl rfl (by with_reducible assumption) rfl ?_)
      (first | refine ev_ift rfl rfl rfl rfl ?_ | refine ev_iff rfl rfl rfl rfl ?_)
      repeat (first | refine ev_gos 99 rfl ?_ | refine ev_gf2 rfl rfl rfl rfl ?_ | refine ev_gf2 rfl rfl HH_land rfl ?_ | refine ev_gf2 rfl rfl HH_draft rfl ?_ | refine ev_gf2 rfl rfl (by with_reducible assumption) rfl ?_)
      exact q2
    · repeat (first | refine ev_gos 99 rfl ?_ | refine ev_gf2 rfl rfl rfl rfl ?_ | refine ev_gf2 rfl rfl HH_land rfl ?_ | refine ev_gf2 rfl rfl HH_draft rfl ?_ | refine ev_gf2 rfl rfl (by with_reducible assumption) rfl ?_)
      refine ev_cv rfl rfl rfl (e_mrefuses (A := qA A a16' (A 11) a10') hM _) ?_
      refine (?_ : Ek sc _ m_M_night 5 _ [.int (rfs (nI n) W (A 29 56))] _ _ _ _ _)
      rw [e56, hr]
      repeat (first | refine ev_gos 99 rfl ?_ | refine ev_gf2 rfl rfl rfl rfl ?_ | refine ev_gf2 rfl rfl HH_land rfl ?_ | refine ev_gf2 rfl rfl HH_draft rfl ?_ | refine ev_gf2 rfl rfl (by with_reducible assumption) rfl ?_)
      (first | refine ev_ift rfl rfl rfl rfl ?_ | refine ev_iff rfl rfl rfl rfl ?_)
      repeat (first | refine ev_gos 99 rfl ?_ | refine ev_gf2 rfl rfl rfl rfl ?_ | refine ev_gf2 rfl rfl HH_land rfl ?_ | refine ev_gf2 rfl rfl HH_draft rfl ?_ | refine ev_gf2 rfl rfl (by with_reducible assumption) rfl ?_)
      have e1 : upA (qS s (nI fi') (nI c') (s 8) (s 9) x10') 23 (nI c) = qS s (nI fi') (nI c') (s 8) (s 9) x10' := upS_same hD.2.2.2.2.1
      have e2 : qM (qA A a16' (A 11) a10') (A 31) (A 32) (A 29) = qA A a16' (A 11) a10' := qM_id (qA A a16' (A 11) a10')
      rw [e1, e2] at q4
      have e3 : upA l 8 (s 8).toInt64 = l := by rw [← hX.2]; exact upA_id l 8
      rw [e3]
      exact q4
  · refine ⟨rfs x W (s 10), HH w s l A B, w, s, l, A, B, ?_, ?_, ⟨W, H, P, fi, c, h⟩⟩
    · repeat (first | refine ev_gos 99 rfl ?_ | refine ev_gf2 rfl rfl rfl rfl ?_ | refine ev_gf2 rfl rfl HH_land rfl ?_ | refine ev_gf2 rfl rfl HH_draft rfl ?_ | refine ev_gf2 rfl rfl (by with_reducible assumption) rfl ?_)
      refine ev_cv rfl rfl rfl (e_refusal hN.1 hN.2.2.2.1 _) ?_
      repeat (first | refine ev_gos 99 rfl ?_ | refine ev_gf2 rfl rfl rfl rfl ?_ | refine ev_gf2 rfl rfl HH_land rfl ?_ | refine ev_gf2 rfl rfl HH_draft rfl ?_ | refine ev_gf2 rfl rfl (by with_reducible assumption) rfl ?_)
      refine ev_iff rfl rfl rfl (j_eq hr) ?_
      repeat (first | refine ev_gos 99 rfl ?_ | refine ev_gf2 rfl rfl rfl rfl ?_ | refine ev_gf2 rfl rfl HH_land rfl ?_ | refine ev_gf2 rfl rfl HH_draft rfl ?_ | refine ev_gf2 rfl rfl (by with_reducible assumption) rfl ?_)
      exact ev_ri rfl rfl rfl
    · repeat (first | refine ev_gos 99 rfl ?_ | refine ev_gf2 rfl rfl rfl rfl ?_ | refine ev_gf2 rfl rfl HH_land rfl ?_ | refine ev_gf2 rfl rfl HH_draft rfl ?_ | refine ev_gf2 rfl rfl (by with_reducible assumption) rfl ?_)
      refine ev_cv rfl rfl rfl (e_mrefuses hM _) ?_
      rw [e56]
      repeat (first | refine ev_gos 99 rfl ?_ | refine ev_gf2 rfl rfl rfl rfl ?_ | refine ev_gf2 rfl rfl HH_land rfl ?_ | refine ev_gf2 rfl rfl HH_draft rfl ?_ | refine ev_gf2 rfl rfl (by with_reducible assumption) rfl ?_)
      refine ev_iff rfl rfl rfl (j_eq hr) ?_
      repeat (first | refine ev_gos 99 rfl ?_ | refine ev_gf2 rfl rfl rfl rfl ?_ | refine ev_gf2 rfl rfl HH_land rfl ?_ | refine ev_gf2 rfl rfl HH_draft rfl ?_ | refine ev_gf2 rfl rfl (by with_reducible assumption) rfl ?_)
      exact ev_ri rfl rfl rfl
end NGT
