/-! both sides: who touch, the call -/
section TC2
variable {sc : Scr} {d : Nat} {w : Bool} {s : Nat → Int32} {l : Nat → Int64} {A : Nat → Nat → Int32} {B : Nat → Nat → Int64} {W H P fi c : Nat}
def adC (W N : Nat) (sl : Nat → Int64) (p q : Nat) : Bool := decide (¬ grnS W N (sl p) &&& sl q = 0)
theorem ten_pq (p q : Nat) : (10 : Int32) * nI p + nI q = nI (10 * p + q) := by
  rw [show (10 : Int32) * nI p = nI (10 * p) from pk_mul 10 p, nI_add]
theorem e_touch_in (h : INV s l A B W H P fi c) (x : Int32) {p : Nat} (hp : p < P) (hout : (fo (tcP (adC W (W * H) (slbS (A 4) (A 11) (B 5))) x P) (p + 1) (0, -1)).2 = -1 → Ev sc (d + 4) m_C_touch 12 [some (.ref 0), some (.int x), some (.int (nI (fo (tcP (adC W (W * H) (slbS (A 4) (A 11) (B 5))) x P) (p + 1) (0, -1)).1)), some (.int (nI (p + 1))), none, none, none] [.int (s 17), .int (nI (p + 1))] (HH w s l A B) (some (.int (tcV x (fo (tcP (adC W (W * H) (slbS (A 4) (A 11) (B 5))) x P) P (0, -1))))) (HH w s l A B)) : ∀ (n q : Nat), q + n = P → p < q → (fo (tcQ (adC W (W * H) (slbS (A 4) (A 11) (B 5))) x p) q (fo (tcP (adC W (W * H) (slbS (A 4) (A 11) (B 5))) x P) p (0, -1))).2 = -1 → Ev sc (d + 4) m_C_touch 43 [some (.ref 0), some (.int x), some (.int (nI (fo (tcQ (adC W (W * H) (slbS (A 4) (A 11) (B 5))) x p) q (fo (tcP (adC W (W * H) (slbS (A 4) (A 11) (B 5))) x P) p (0, -1))).1)), some (.int (nI p)), some (.long (grnS W (W * H) (slbS (A 4) (A 11) (B 5) p))), none, some (.int (nI q))] [.int (s 17), .int (nI q)] (HH w s l A B) (some (.int (tcV x (fo (tcP (adC W (W * H) (slbS (A 4) (A 11) (B 5))) x P) P (0, -1))))) (HH w s l A B) := by
  have hP7 := h.p7
  have hs : s 17 = nI P := h.1.2.2.1
  intro n
  induction n with
  | zero =>
    intro q hq hpq h2
    have e : q = P := by omega
    subst e
    rw [hs]
    refine ev_ift rfl rfl rfl (c_ge ((nI_leI (by omega) (by omega)).mpr (by omega))) ?_
    repeat (first | refine ev_gos 99 rfl ?_ | refine ev_gf2 rfl rfl rfl rfl ?_ | refine ev_gf2 rfl rfl HH_land rfl ?_ | refine ev_gf2 rfl rfl HH_draft rfl ?_ | refine ev_gf2 rfl rfl (by with_reducible assumption) rfl ?_)
    have z := hout h2
    rw [← nI_1 p] at z
    exact ev_wk2 z rfl (by repeat' (first | exact trivial | refine ⟨rfl, ?_⟩))
  | succ n ih =>
    intro q hq hpq h2
    have h3 := ih (q + 1) (by omega) (by omega)
    have e5 : fo (tcQ (adC W (W * H) (slbS (A 4) (A 11) (B 5))) x p) (q + 1) (fo (tcP (adC W (W * H) (slbS (A 4) (A 11) (B 5))) x P) p (0, -1)) = tcQ (adC W (W * H) (slbS (A 4) (A 11) (B 5))) x p q (fo (tcQ (adC W (W * H) (slbS (A 4) (A 11) (B 5))) x p) q (fo (tcP (adC W (W * H) (slbS (A 4) (A 11) (B 5))) x P) p (0, -1))) := rfl
    rw [e5, ← nI_1 q] at h3
    have fin := tc_fin (adj := adC W (W * H) (slbS (A 4) (A 11) (B 5))) (x := x) (P := P) (p := p) (q := q) hP7 hp (by omega) hpq
    generalize fo (tcP (adC W (W * H) (slbS (A 4) (A 11) (B 5))) x P) P (0, -1) = FF at hout h3 fin ⊢
    generalize fo (tcQ (adC W (W * H) (slbS (A 4) (A 11) (B 5))) x p) q (fo (tcP (adC W (W * H) (slbS (A 4) (A 11) (B 5))) x P) p (0, -1)) = a at h2 h3 fin ⊢
    refine ev_iff rfl rfl rfl (d_ge (by rw [hs]; exact nI_lt3 (by omega) (by omega) (by omega))) ?_
    repeat (first | refine ev_gos 99 rfl ?_ | refine ev_gf2 rfl rfl rfl rfl ?_ | refine ev_gf2 rfl rfl HH_land rfl ?_ | refine ev_gf2 rfl rfl HH_draft rfl ?_ | refine ev_gf2 rfl rfl (by with_reducible assumption) rfl ?_)
    refine ev_cv rfl rfl rfl (e_shapeLeftBy (p := q) (by omega) (h.1.2.2.2.2.2.2.2.2.2.2.1 q (by omega)) (h.lies (by omega))) ?_
    repeat (first | refine ev_gos 99 rfl ?_ | refine ev_gf2 rfl rfl rfl rfl ?_ | refine ev_gf2 rfl rfl HH_land rfl ?_ | refine ev_gf2 rfl rfl HH_draft rfl ?_ | refine ev_gf2 rfl rfl (by with_reducible assumption) rfl ?_)
    by_cases h0 : grnS W (W * H) (slbS (A 4) (A 11) (B 5) p) &&& slbS (A 4) (A 11) (B 5) q = 0
    · refine ev_ift rfl rfl rfl (i_eq (lc_eq.mpr h0)) ?_
      repeat (first | refine ev_gos 99 rfl ?_ | refine ev_gf2 rfl rfl rfl rfl ?_ | refine ev_gf2 rfl rfl HH_land rfl ?_ | refine ev_gf2 rfl rfl HH_draft rfl ?_ | refine ev_gf2 rfl rfl (by with_reducible assumption) rfl ?_)
      have ad : adC W (W * H) (slbS (A 4) (A 11) (B 5)) p q = false := decide_eq_false (fun z => z h0)
      rw [tcQ_f ad] at h3
      exact h3 h2
    · refine ev_iff rfl rfl rfl (j_eq (fun z => h0 (lc_eq.mp z))) ?_
      repeat (first | refine ev_gos 99 rfl ?_ | refine ev_gf2 rfl rfl rfl rfl ?_ | refine ev_gf2 rfl rfl HH_land rfl ?_ | refine ev_gf2 rfl rfl HH_draft rfl ?_ | refine ev_gf2 rfl rfl (by with_reducible assumption) rfl ?_)
      have ad : adC W (W * H) (slbS (A 4) (A 11) (B 5)) p q = true := decide_eq_true h0
      by_cases hx : nI a.1 = x
      · refine ev_iff rfl rfl rfl (d_ne hx) ?_
        repeat (first | refine ev_gos 99 rfl ?_ | refine ev_gf2 rfl rfl rfl rfl ?_ | refine ev_gf2 rfl rfl HH_land rfl ?_ | refine ev_gf2 rfl rfl HH_draft rfl ?_ | refine ev_gf2 rfl rfl (by with_reducible assumption) rfl ?_)
        rw [fin ad hx]
        exact ev_ri rfl (ten_pq p q) rfl
      · refine ev_ift rfl rfl rfl (c_ne hx) ?_
        repeat (first | refine ev_gos 99 rfl ?_ | refine ev_gf2 rfl rfl rfl rfl ?_ | refine ev_gf2 rfl rfl HH_land rfl ?_ | refine ev_gf2 rfl rfl HH_draft rfl ?_ | refine ev_gf2 rfl rfl (by with_reducible assumption) rfl ?_)
        rw [tcQ_t hpq ad, if_neg hx, ← nI_1 a.1] at h3
        exact h3 h2
theorem e_touch_out (h : INV s l A B W H P fi c) (x : Int32) : ∀ (n p : Nat), p + n = P → (fo (tcP (adC W (W * H) (slbS (A 4) (A 11) (B 5))) x P) p (0, -1)).2 = -1 → Ev sc (d + 4) m_C_touch 12 [some (.ref 0), some (.int x), some (.int (nI (fo (tcP (adC W (W * H) (slbS (A 4) (A 11) (B 5))) x P) p (0, -1)).1)), some (.int (nI p)), none, none, none] [.int (s 17), .int (nI p)] (HH w s l A B) (some (.int (tcV x (fo (tcP (adC W (W * H) (slbS (A 4) (A 11) (B 5))) x P) P (0, -1))))) (HH w s l A B) := by
  have hP7 := h.p7
  have hs : s 17 = nI P := h.1.2.2.1
  have hN := h.1
  intro n
  induction n with
  | zero =>
    intro p hp h2
    have e : p = P := by omega
    rw [e] at h2 ⊢
    refine ev_ift rfl rfl rfl (c_ge (by rw [hs]; exact (nI_leI (by omega) (by omega)).mpr (by omega))) ?_
    generalize fo (tcP (adC W (W * H) (slbS (A 4) (A 11) (B 5))) x P) P (0, -1) = a at h2 ⊢
    repeat (first | refine ev_gos 99 rfl ?_ | refine ev_gf2 rfl rfl rfl rfl ?_ | refine ev_gf2 rfl rfl HH_land rfl ?_ | refine ev_gf2 rfl rfl HH_draft rfl ?_ | refine ev_gf2 rfl rfl (by with_reducible assumption) rfl ?_)
    unfold tcV
    by_cases hx : x = -1
    · refine ev_iff rfl rfl rfl (d_ne hx) ?_
      repeat (first | refine ev_gos 99 rfl ?_ | refine ev_gf2 rfl rfl rfl rfl ?_ | refine ev_gf2 rfl rfl HH_land rfl ?_ | refine ev_gf2 rfl rfl HH_draft rfl ?_ | refine ev_gf2 rfl rfl (by with_reducible assumption) rfl ?_)
      exact ev_ri rfl (by rw [if_pos hx]) rfl
    · refine ev_ift rfl rfl rfl (c_ne hx) ?_
      repeat (first | refine ev_gos 99 rfl ?_ | refine ev_gf2 rfl rfl rfl rfl ?_ | refine ev_gf2 rfl rfl HH_land rfl ?_ | refine ev_gf2 rfl rfl HH_draft rfl ?_ | refine ev_gf2 rfl rfl (by with_reducible assumption) rfl ?_)
      exact ev_ri rfl (by rw [if_neg hx, h2]) rfl
  | succ n ih =>
    intro p hp h2
    refine ev_iff rfl rfl rfl (d_ge (by rw [hs]; exact nI_lt3 (by omega) (by omega) (by omega))) ?_
    repeat (first | refine ev_gos 99 rfl ?_ | refine ev_gf2 rfl rfl rfl rfl ?_ | refine ev_gf2 rfl rfl HH_land rfl ?_ | refine ev_gf2 rfl rfl HH_draft rfl ?_ | refine ev_gf2 rfl rfl (by with_reducible assumption) rfl ?_)
    refine ev_cv rfl rfl rfl (e_shapeLeftBy (p := p) (by omega) (hN.2.2.2.2.2.2.2.2.2.2.1 p (by omega)) (h.lies (by omega))) ?_
    refine ev_cv rfl rfl HH_land (e_grown HH_land hN.1 hN.2.2.2.2.2.2.2.1 hN.2.2.2.2.2.2.2.2.1 hN.2.2.2.2.2.2.2.2.2.1 _) ?_
    have z := e_touch_in (sc := sc) (d := d) (w := w) h x (p := p) (by omega) (ih (p + 1) (by omega)) (P - (p + 1)) (p + 1) (by omega) (by omega) (by rw [tc_low _ (Nat.le_refl _)]; exact h2)
    rw [tc_low _ (Nat.le_refl _), ← nI_1 p] at z
    repeat (first | refine ev_gos 99 rfl ?_ | refine ev_gf2 rfl rfl rfl rfl ?_ | refine ev_gf2 rfl rfl HH_land rfl ?_ | refine ev_gf2 rfl rfl HH_draft rfl ?_ | refine ev_gf2 rfl rfl (by with_reducible assumption) rfl ?_)
    exact z
theorem e_mtouch_in {rk : Int64} (hM : MN (A 27) rk W H P) (hL : LF (atM (A 29)) (W * H)) (x : Int32) {adj : Nat → Nat → Bool} (hadj : ∀ p q, p < P → q < P → adj p q = (decide (¬ atM (A 29) p = -1) && (decide (¬ atM (A 29) q = -1) && isB W H (slM W H (A 27) (A 29) p) (slM W H (A 27) (A 29) q)))) {p : Nat} (hp : p < P) (a0 : Nat × Int32) {r : Option Value} {h' : AHp} (hout : Ev sc (d + 5) m_M_touch 14 [some (.ref 26), some (.int x), some (.int (nI (tcP adj x P p a0).1)), some (.int (tcP adj x P p a0).2), some (.int (nI (p + 1))), none] [.int 2, .ref 27, .int (nI (p + 1))] (HH w s l A B) r h') : ∀ (n q : Nat), q + n = P → p < q → Ev sc (d + 5) m_M_touch 31 [some (.ref 26), some (.int x), some (.int (nI (fo (tcQ adj x p) q a0).1)), some (.int (fo (tcQ adj x p) q a0).2), some (.int (nI p)), some (.int (nI q))] [.int 2, .ref 27, .int (nI q)] (HH w s l A B) r h' := by
  have hP7 : P ≤ 7 := hM.2.2.2.2.2.1
  intro n
  induction n with
  | zero =>
    intro q hq hpq
    have e : q = P := by omega
    subst e
    refine ev_ix 2 rfl rfl rfl (by decide) (by decide) ?_
    rw [hM.2.2.1]
    refine ev_ift rfl rfl rfl (c_ge ((nI_leI (by omega) (by omega)).mpr (by omega))) ?_
    repeat (first | refine ev_gos 99 rfl ?_ | refine ev_gf2 rfl rfl rfl rfl ?_ | refine ev_gf2 rfl rfl HH_land rfl ?_ | refine ev_gf2 rfl rfl HH_draft rfl ?_ | refine ev_gf2 rfl rfl (by with_reducible assumption) rfl ?_)
    have z : Ev sc (d + 5) m_M_touch 14 [some (.ref 26), some (.int x), some (.int (nI (fo (tcQ adj x p) q a0).1)), some (.int (fo (tcQ adj x p) q a0).2), some (.int (nI (p + 1))), none] [.int 2, .ref 27, .int (nI (p + 1))] (HH w s l A B) r h' := hout
    rw [← nI_1 p] at z
    exact ev_wk2 z rfl (by repeat' (first | exact trivial | refine ⟨rfl, ?_⟩))
  | succ n ih =>
    intro q hq hpq
    have h3 := ih (q + 1) (by omega) (by omega)
    have e5 : fo (tcQ adj x p) (q + 1) a0 = tcQ adj x p q (fo (tcQ adj x p) q a0) := rfl
    rw [e5, ← nI_1 q] at h3
    generalize fo (tcQ adj x p) q a0 = a at h3 ⊢
    have had := hadj p q hp (by omega)
    refine ev_ix 2 rfl rfl rfl (by decide) (by decide) ?_
    rw [hM.2.2.1]
    refine ev_iff rfl rfl rfl (d_ge (nI_lt3 (by omega) (by omega) (by omega))) ?_
    repeat (first | refine ev_gos 99 rfl ?_ | refine ev_gf2 rfl rfl rfl rfl ?_ | refine ev_gf2 rfl rfl HH_land rfl ?_ | refine ev_gf2 rfl rfl HH_draft rfl ?_ | refine ev_gf2 rfl rfl (by with_reducible assumption) rfl ?_)
    refine ev_cv rfl rfl rfl (e_misLying (p := p) (by omega)) ?_
    by_cases l1 : atM (A 29) p = -1
    · rw [decide_eq_false (fun z => z l1)] at had ⊢
      rw [Bool.false_and] at had
      rw [tcQ_f had] at h3
      (first | refine ev_ift rfl rfl rfl rfl ?_ | refine ev_iff rfl rfl rfl rfl ?_)
      repeat (first | refine ev_gos 99 rfl ?_ | refine ev_gf2 rfl rfl rfl rfl ?_ | refine ev_gf2 rfl rfl HH_land rfl ?_ | refine ev_gf2 rfl rfl HH_draft rfl ?_ | refine ev_gf2 rfl rfl (by with_reducible assumption) rfl ?_)
      exact h3
    · rw [decide_eq_true l1] at had ⊢
      rw [Bool.true_and] at had
      (first | refine ev_ift rfl rfl rfl rfl ?_ | refine ev_iff rfl rfl rfl rfl ?_)
      repeat (first | refine ev_gos 99 rfl ?_ | refine ev_gf2 rfl rfl rfl rfl ?_ | refine ev_gf2 rfl rfl HH_land rfl ?_ | refine ev_gf2 rfl rfl HH_draft rfl ?_ | refine ev_gf2 rfl rfl (by with_reducible assumption) rfl ?_)
      refine ev_cv rfl rfl rfl (e_misLying (p := q) (by omega)) ?_
      by_cases l2 : atM (A 29) q = -1
      · rw [decide_eq_false (fun z => z l2)] at had ⊢
        rw [Bool.false_and] at had
        rw [tcQ_f had] at h3
        (first | refine ev_ift rfl rfl rfl rfl ?_ | refine ev_iff rfl rfl rfl rfl ?_)
        repeat (first | refine ev_gos 99 rfl ?_ | refine ev_gf2 rfl rfl rfl rfl ?_ | refine ev_gf2 rfl rfl HH_land rfl ?_ | refine ev_gf2 rfl rfl HH_draft rfl ?_ | refine ev_gf2 rfl rfl (by with_reducible assumption) rfl ?_)
        exact h3
      · rw [decide_eq_true l2] at had ⊢
        rw [Bool.true_and] at had
        (first | refine ev_ift rfl rfl rfl rfl ?_ | refine ev_iff rfl rfl rfl rfl ?_)
        repeat (first | refine ev_gos 99 rfl ?_ | refine ev_gf2 rfl rfl rfl rfl ?_ | refine ev_gf2 rfl rfl HH_land rfl ?_ | refine ev_gf2 rfl rfl HH_draft rfl ?_ | refine ev_gf2 rfl rfl (by with_reducible assumption) rfl ?_)
        refine ev_cv rfl rfl rfl (e_mshapeOf hM hL (p := p) (by omega)) ?_
        repeat (first | refine ev_gos 99 rfl ?_ | refine ev_gf2 rfl rfl rfl rfl ?_ | refine ev_gf2 rfl rfl HH_land rfl ?_ | refine ev_gf2 rfl rfl HH_draft rfl ?_ | refine ev_gf2 rfl rfl (by with_reducible assumption) rfl ?_)
        refine ev_cv rfl rfl rfl (e_mshapeOf hM hL (p := q) (by omega)) ?_
        refine ev_cv rfl rfl rfl (e_misBy hM _ _) ?_
        rw [← had]
        cases hq2 : adj p q with
        | false =>
          rw [tcQ_f hq2] at h3
          (first | refine ev_ift rfl rfl rfl rfl ?_ | refine ev_iff rfl rfl rfl rfl ?_)
          repeat (first | refine ev_gos 99 rfl ?_ | refine ev_gf2 rfl rfl rfl rfl ?_ | refine ev_gf2 rfl rfl HH_land rfl ?_ | refine ev_gf2 rfl rfl HH_draft rfl ?_ | refine ev_gf2 rfl rfl (by with_reducible assumption) rfl ?_)
          exact h3
        | true =>
          rw [tcQ_t hpq hq2, ← nI_1 a.1] at h3
          (first | refine ev_ift rfl rfl rfl rfl ?_ | refine ev_iff rfl rfl rfl rfl ?_)
          repeat (first | refine ev_gos 99 rfl ?_ | refine ev_gf2 rfl rfl rfl rfl ?_ | refine ev_gf2 rfl rfl HH_land rfl ?_ | refine ev_gf2 rfl rfl HH_draft rfl ?_ | refine ev_gf2 rfl rfl (by with_reducible assumption) rfl ?_)
          by_cases hx : nI a.1 = x
          · rw [if_pos hx, ← ten_pq] at h3
            refine ev_iff rfl rfl rfl (d_ne hx) ?_
            repeat (first | refine ev_gos 99 rfl ?_ | refine ev_gf2 rfl rfl rfl rfl ?_ | refine ev_gf2 rfl rfl HH_land rfl ?_ | refine ev_gf2 rfl rfl HH_draft rfl ?_ | refine ev_gf2 rfl rfl (by with_reducible assumption) rfl ?_)
            exact h3
          · rw [if_neg hx] at h3
            refine ev_ift rfl rfl rfl (c_ne hx) ?_
            repeat (first | refine ev_gos 99 rfl ?_ | refine ev_gf2 rfl rfl rfl rfl ?_ | refine ev_gf2 rfl rfl HH_land rfl ?_ | refine ev_gf2 rfl rfl HH_draft rfl ?_ | refine ev_gf2 rfl rfl (by with_reducible assumption) rfl ?_)
            exact h3
theorem e_mtouch_out {rk : Int64} (hM : MN (A 27) rk W H P) (hL : LF (atM (A 29)) (W * H)) (x : Int32) {adj : Nat → Nat → Bool} (hadj : ∀ p q, p < P → q < P → adj p q = (decide (¬ atM (A 29) p = -1) && (decide (¬ atM (A 29) q = -1) && isB W H (slM W H (A 27) (A 29) p) (slM W H (A 27) (A 29) q)))) (a0 : Nat × Int32) : ∀ (n p : Nat), p + n = P → Ev sc (d + 5) m_M_touch 14 [some (.ref 26), some (.int x), some (.int (nI (fo (tcP adj x P) p a0).1)), some (.int (fo (tcP adj x P) p a0).2), some (.int (nI p)), none] [.int 2, .ref 27, .int (nI p)] (HH w s l A B) (some (.int (tcV x (fo (tcP adj x P) P a0)))) (HH w s l A B) := by
  have hP7 : P ≤ 7 := hM.2.2.2.2.2.1
  intro n
  induction n with
  | zero =>
    intro p hp
    have e : p = P := by omega
    rw [e]
    refine ev_ix 2 rfl rfl rfl (by decide) (by decide) ?_
    rw [hM.2.2.1]
    refine ev_ift rfl rfl rfl (c_ge ((nI_leI (by omega) (by omega)).mpr (by omega))) ?_
    generalize fo (tcP adj x P) P a0 = a
    repeat (first | refine ev_gos 99 rfl ?_ | refine ev_gf2 rfl rfl rfl rfl ?_ | refine ev_gf2 rfl rfl HH_land rfl ?_ | refine ev_gf2 rfl rfl HH_draft rfl ?_ | refine ev_gf2 rfl rfl (by with_reducible assumption) rfl ?_)
    unfold tcV
    by_cases hx : x = -1
    · refine ev_iff rfl rfl rfl (d_ne hx) ?_
      repeat (first | refine ev_gos 99 rfl ?_ | refine ev_gf2 rfl rfl rfl rfl ?_ | refine ev_gf2 rfl rfl HH_land rfl ?_ | refine ev_gf2 rfl rfl HH_draft rfl ?_ | refine ev_gf2 rfl rfl (by with_reducible assumption) rfl ?_)
      exact ev_ri rfl (by rw [if_pos hx]) rfl
    · refine ev_ift rfl rfl rfl (c_ne hx) ?_
      repeat (first | refine ev_gos 99 rfl ?_ | refine ev_gf2 rfl rfl rfl rfl ?_ | refine ev_gf2 rfl rfl HH_land rfl ?_ | refine ev_gf2 rfl rfl HH_draft rfl ?_ | refine ev_gf2 rfl rfl (by with_reducible assumption) rfl ?_)
      exact ev_ri rfl (by rw [if_neg hx]) rfl
  | succ n ih =>
    intro p hp
    refine ev_ix 2 rfl rfl rfl (by decide) (by decide) ?_
    rw [hM.2.2.1]
    refine ev_iff rfl rfl rfl (d_ge (nI_lt3 (by omega) (by omega) (by omega))) ?_
    have z := e_mtouch_in (sc := sc) (d := d) (w := w) (s := s) (l := l) (B := B) hM hL x hadj (p := p) (by omega) (fo (tcP adj x P) p a0) (ih (p + 1) (by omega)) (P - (p + 1)) (p + 1) (by omega) (by omega)
    rw [tc_low _ (Nat.le_refl _), ← nI_1 p] at z
    repeat (first | refine ev_gos 99 rfl ?_ | refine ev_gf2 rfl rfl rfl rfl ?_ | refine ev_gf2 rfl rfl HH_land rfl ?_ | refine ev_gf2 rfl rfl HH_draft rfl ?_ | refine ev_gf2 rfl rfl (by with_reducible assumption) rfl ?_)
    exact z
theorem b_touch (h : INV s l A B W H P fi c) (x : Int32) : Both sc (d + 12) m_C_touch 7 m_M_touch 6 [.int x] w s l A B := by
  obtain ⟨hN, hM, hR, hK, hS, hD, hX, hI, hT, hF, hO, hB⟩ := id h
  have h49 := hN.n49
  have hP7 := h.p7
  have hadj : ∀ p q, p < P → q < P → adC W (W * H) (slbS (A 4) (A 11) (B 5)) p q = (decide (¬ atM (A 29) p = -1) && (decide (¬ atM (A 29) q = -1) && isB W H (slM W H (A 27) (A 29) p) (slM W H (A 27) (A 29) q))) := by
    intro p q hp hq
    unfold adC
    rw [slb_eq h hp, slb_eq h hq, h.aM (show p < 7 by omega), h.aM (show q < 7 by omega)]
    have g0 : ∀ y : Int64, grnS W (W * H) 0 &&& y = 0 := by
      intro y
      refine bs_eq0.mpr (fun i hi => ?_)
      rw [bs_and]
      have : bs (grnS W (W * H) 0) i = false := by
        have hWH : 2 ≤ W ∧ 2 ≤ H := by
          rcases hN.2.2.2.2.2.2.1 with ⟨_, _, z⟩ | z
          · omega
          · exact z
        rw [grn_bs hWH.1 hN.2.2.2.1 hWH.2 hN.2.2.2.2.1 (WI_0 _) hi, bs_0, show nbr W H 0 i = false from anyF_false (fun j _ => ohas_0 _), Bool.and_false, Bool.or_false]
      rw [this, Bool.false_and]
    have sl0 : ∀ p, p < P → A 11 p = -1 → slM W H (A 27) (A 29) p = 0 := fun p hp e => by
      unfold slM
      rw [h.aM (show p < 7 by omega), if_pos e]
    by_cases l1 : A 11 p = -1
    · rw [sl0 p hp l1, g0, decide_eq_false (fun z => z rfl), decide_eq_false (p := ¬ A 11 p = -1) (fun z => z l1), Bool.false_and]
    · rw [decide_eq_true l1, Bool.true_and]
      by_cases l2 : A 11 q = -1
      · have a0 : ∀ y : Int64, y &&& (0 : Int64) = 0 := fun y => bs_eq0.mpr (fun j hj => by rw [bs_and, bs_0, Bool.and_false])
        rw [sl0 q hq l2, a0, decide_eq_false (fun z => z rfl), decide_eq_false (p := ¬ A 11 q = -1) (fun z => z l2), Bool.false_and]
      · rw [decide_eq_true l2, Bool.true_and]
        have wi : ∀ p, p < P → ¬ A 11 p = -1 → (2 ≤ W ∧ 2 ≤ H) ∧ WI (slM W H (A 27) (A 29) p) (W * H) := fun p hp e => by
          rcases hS.2.2.1 p (by omega) with z | ⟨_, q, k', q1, k1', q2, k2', n0, r0⟩
          · exact absurd z e
          · have hWH := hN.pos (by omega)
            refine ⟨hWH, ?_⟩
            unfold slM
            rw [h.aM (show p < 7 by omega), if_neg e, q2, nI_clamp (by omega)]
            exact shp_WI hWH.1 hN.2.2.2.1 hWH.2 hN.2.2.2.2.1 q1
        obtain ⟨⟨hW, hH⟩, w1⟩ := wi p hp l1
        obtain ⟨_, w2⟩ := wi q hq l2
        rw [isB_eq hW hN.2.2.2.1 hH hN.2.2.2.2.1 w1 w2]
  refine ⟨tcV x (fo (tcP (adC W (W * H) (slbS (A 4) (A 11) (B 5))) x P) P (0, -1)), HH w s l A B, w, s, l, A, B, ?_, ?_, ⟨W, H, P, fi, c, h⟩⟩
  · have z := e_touch_out (sc := sc) (d := d + 8) (w := w) h x P 0 (Nat.zero_add _) rfl
    repeat (first | refine ev_gos 99 rfl ?_ | refine ev_gf2 rfl rfl rfl rfl ?_ | refine ev_gf2 rfl rfl HH_land rfl ?_ | refine ev_gf2 rfl rfl HH_draft rfl ?_ | refine ev_gf2 rfl rfl (by with_reducible assumption) rfl ?_)
    exact z
  · have z := e_mtouch_out (sc := sc) (d := d + 7) (w := w) (s := s) (l := l) (B := B) hM hS.lfm x hadj (0, -1) P 0 (Nat.zero_add _)
    repeat (first | refine ev_gos 99 rfl ?_ | refine ev_gf2 rfl rfl rfl rfl ?_ | refine ev_gf2 rfl rfl HH_land rfl ?_ | refine ev_gf2 rfl rfl HH_draft rfl ?_ | refine ev_gf2 rfl rfl (by with_reducible assumption) rfl ?_)
    exact z
end TC2
