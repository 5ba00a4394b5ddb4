/-! the model: shapes, dents, groups -/
section MSH
variable {sc : Scr} {d : Nat} {w : Bool} {s : Nat → Int32} {l : Nat → Int64} {A : Nat → Nat → Int32} {B : Nat → Nat → Int64} {W H P : Nat} {rk : Int64}
theorem e_part {h h' : AHp} {r : Option Value} {k i : Nat} (hk : k < 5) (h1 : 1 ≤ i) (h4 : i ≤ 4) (c : Int32) (g : Int64) (a : Int32) (kk : ∀ b, lim k i = b → Ev sc d m_M_shape 92 [some (.ref 26), some (.int (nI k)), some (.int c), some (.long g), none, some (.int a), some (.int (nI i)), some (.int (b01 b)), none] [.int (b01 b)] h r h') : Ev sc d m_M_shape 16 [some (.ref 26), some (.int (nI k)), some (.int c), some (.long g), none, some (.int a), some (.int (nI i)), none, none] [] h r h' := by
  rcases (show k = 0 ∨ k = 1 ∨ k = 2 ∨ k = 3 ∨ k = 4 by omega) with rfl | rfl | rfl | rfl | rfl <;>
  rcases (show i = 1 ∨ i = 2 ∨ i = 3 ∨ i = 4 by omega) with rfl | rfl | rfl | rfl <;>
  first
  | (have q := kk true (by decide)
     (repeat (first | exact q | refine ev_gos 99 rfl ?_ | (first | refine ev_ift rfl rfl rfl rfl ?_ | refine ev_iff rfl rfl rfl rfl ?_))); done)
  | (have q := kk false (by decide)
     (repeat (first | exact q | refine ev_gos 99 rfl ?_ | (first | refine ev_ift rfl rfl rfl rfl ?_ | refine ev_iff rfl rfl rfl rfl ?_))); done)
theorem e_shape_loop (hM : MN (A 27) rk W H P) {k c : Nat} (hk : k < 5) (hc : c < W * H) : ∀ (n i : Nat) (g : Int64) (a : Bool), i + n = 5 → 1 ≤ i → Ev sc (d + 2) m_M_shape 13 [some (.ref 26), some (.int (nI k)), some (.int (nI c)), some (.long g), none, some (.int (b01 a)), some (.int (nI i)), none, none] [.int 5, .int (nI i)] (HH w s l A B) (some (.long (shM W H k c n i g a))) (HH w s l A B) := by
  have h49 := hM.n49
  obtain ⟨hW, hH⟩ := hM.pos (by omega)
  have hW7 : W ≤ 7 := hM.2.2.2.1
  have hH7 : H ≤ 7 := hM.2.2.2.2.1
  intro n
  induction n with
  | zero =>
    intro i g a hi h1
    have e : i = 5 := by omega
    subst e
    refine ev_ift rfl rfl rfl (c_ge (by decide : (5 : Int32) ≤ nI 5)) ?_
    repeat (first | refine ev_gos 99 rfl ?_ | refine ev_gf2 rfl rfl rfl rfl ?_ | refine ev_gf2 rfl rfl HH_land rfl ?_ | refine ev_gf2 rfl rfl HH_draft rfl ?_ | refine ev_gf2 rfl rfl (by with_reducible assumption) rfl ?_)
    cases a with
    | true =>
      (first | refine ev_ift rfl rfl rfl rfl ?_ | refine ev_iff rfl rfl rfl rfl ?_)
      repeat (first | refine ev_gos 99 rfl ?_ | refine ev_gf2 rfl rfl rfl rfl ?_ | refine ev_gf2 rfl rfl HH_land rfl ?_ | refine ev_gf2 rfl rfl HH_draft rfl ?_ | refine ev_gf2 rfl rfl (by with_reducible assumption) rfl ?_)
      exact ev_rl rfl rfl rfl
    | false =>
      (first | refine ev_ift rfl rfl rfl rfl ?_ | refine ev_iff rfl rfl rfl rfl ?_)
      repeat (first | refine ev_gos 99 rfl ?_ | refine ev_gf2 rfl rfl rfl rfl ?_ | refine ev_gf2 rfl rfl HH_land rfl ?_ | refine ev_gf2 rfl rfl HH_draft rfl ?_ | refine ev_gf2 rfl rfl (by with_reducible assumption) rfl ?_)
      exact ev_rl rfl rfl rfl
  | succ n ih =>
    intro i g a hi h1
    refine ev_iff rfl rfl rfl (d_ge (nI_lt3 (b := 5) (by omega) (by omega) (by omega))) ?_
    refine ev_wk2 (e_part hk h1 (by omega) (nI c) g (b01 a) (fun b hb => ?_)) rfl (by repeat' (first | exact trivial | refine ⟨rfl, ?_⟩))
    have e : shM W H k c (n + 1) i g a = bif b then shM W H k c n (i + 1) (g ||| obit (bsd W H c i)) (a && (bsd W H c i).isSome) else shM W H k c n (i + 1) g a := by
      show (bif lim k i then _ else _) = _
      rw [hb]
    rw [e]
    cases b with
    | false =>
      (first | refine ev_ift rfl rfl rfl rfl ?_ | refine ev_iff rfl rfl rfl rfl ?_)
      repeat (first | refine ev_gos 99 rfl ?_ | refine ev_gf2 rfl rfl rfl rfl ?_ | refine ev_gf2 rfl rfl HH_land rfl ?_ | refine ev_gf2 rfl rfl HH_draft rfl ?_ | refine ev_gf2 rfl rfl (by with_reducible assumption) rfl ?_)
      have h3 := ih (i + 1) g a (by omega) (by omega)
      rw [← nI_1] at h3
      exact ev_wk2 h3 rfl (by repeat' (first | exact trivial | refine ⟨rfl, ?_⟩))
    | true =>
      (first | refine ev_ift rfl rfl rfl rfl ?_ | refine ev_iff rfl rfl rfl rfl ?_)
      repeat (first | refine ev_gos 99 rfl ?_ | refine ev_gf2 rfl rfl rfl rfl ?_ | refine ev_gf2 rfl rfl HH_land rfl ?_ | refine ev_gf2 rfl rfl HH_draft rfl ?_ | refine ev_gf2 rfl rfl (by with_reducible assumption) rfl ?_)
      refine ev_cv rfl rfl rfl (e_beside hM hc h1 (by omega)) ?_
      have h3 := ih (i + 1) (g ||| obit (bsd W H c i)) (a && (bsd W H c i).isSome) (by omega) (by omega)
      rw [← nI_1] at h3
      dsimp only [cond_true]
      cases ho : bsd W H c i with
      | none =>
        rw [ho] at h3
        have h5 : Ev sc (d + 2) m_M_shape 13 [some (.ref 26), some (.int (nI k)), some (.int (nI c)), some (.long (g ||| 0)), none, some (.int 0), some (.int (nI i + 1)), none, none] [.int 5, .int (nI i + 1)] (HH w s l A B) (some (.long (shM W H k c n (i + 1) (g ||| obit none) (a && (none : Option Nat).isSome)))) (HH w s l A B) := by
          have ea : (a && (none : Option Nat).isSome) = false := by cases a <;> rfl
          rw [ea] at h3 ⊢
          exact h3
        repeat (first | refine ev_gos 99 rfl ?_ | refine ev_gf2 rfl rfl rfl rfl ?_ | refine ev_gf2 rfl rfl HH_land rfl ?_ | refine ev_gf2 rfl rfl HH_draft rfl ?_ | refine ev_gf2 rfl rfl (by with_reducible assumption) rfl ?_)
        cases a with
        | true =>
          (first | refine ev_ift rfl rfl rfl rfl ?_ | refine ev_iff rfl rfl rfl rfl ?_)
          repeat (first | refine ev_gos 99 rfl ?_ | refine ev_gf2 rfl rfl rfl rfl ?_ | refine ev_gf2 rfl rfl HH_land rfl ?_ | refine ev_gf2 rfl rfl HH_draft rfl ?_ | refine ev_gf2 rfl rfl (by with_reducible assumption) rfl ?_)
          (first | refine ev_ift rfl rfl rfl rfl ?_ | refine ev_iff rfl rfl rfl rfl ?_)
          repeat (first | refine ev_gos 99 rfl ?_ | refine ev_gf2 rfl rfl rfl rfl ?_ | refine ev_gf2 rfl rfl HH_land rfl ?_ | refine ev_gf2 rfl rfl HH_draft rfl ?_ | refine ev_gf2 rfl rfl (by with_reducible assumption) rfl ?_)
          (first | refine ev_ift rfl rfl rfl rfl ?_ | refine ev_iff rfl rfl rfl rfl ?_)
          repeat (first | refine ev_gos 99 rfl ?_ | refine ev_gf2 rfl rfl rfl rfl ?_ | refine ev_gf2 rfl rfl HH_land rfl ?_ | refine ev_gf2 rfl rfl HH_draft rfl ?_ | refine ev_gf2 rfl rfl (by with_reducible assumption) rfl ?_)
          exact ev_wk2 h5 rfl (by repeat' (first | exact trivial | refine ⟨rfl, ?_⟩))
        | false =>
          (first | refine ev_ift rfl rfl rfl rfl ?_ | refine ev_iff rfl rfl rfl rfl ?_)
          repeat (first | refine ev_gos 99 rfl ?_ | refine ev_gf2 rfl rfl rfl rfl ?_ | refine ev_gf2 rfl rfl HH_land rfl ?_ | refine ev_gf2 rfl rfl HH_draft rfl ?_ | refine ev_gf2 rfl rfl (by with_reducible assumption) rfl ?_)
          (first | refine ev_ift rfl rfl rfl rfl ?_ | refine ev_iff rfl rfl rfl rfl ?_)
          repeat (first | refine ev_gos 99 rfl ?_ | refine ev_gf2 rfl rfl rfl rfl ?_ | refine ev_gf2 rfl rfl HH_land rfl ?_ | refine ev_gf2 rfl rfl HH_draft rfl ?_ | refine ev_gf2 rfl rfl (by with_reducible assumption) rfl ?_)
          exact ev_wk2 h5 rfl (by repeat' (first | exact trivial | refine ⟨rfl, ?_⟩))
      | some t =>
        rw [ho] at h3
        have ht := (bsd_lt hW hW7 hH hH7 hc (by omega) ho).1
        have hne : ¬ nI t = -1 := enc_ne (by omega)
        have ea : (a && (some t).isSome) = a := by cases a <;> rfl
        rw [ea] at h3 ⊢
        repeat (first | refine ev_gos 99 rfl ?_ | refine ev_gf2 rfl rfl rfl rfl ?_ | refine ev_gf2 rfl rfl HH_land rfl ?_ | refine ev_gf2 rfl rfl HH_draft rfl ?_ | refine ev_gf2 rfl rfl (by with_reducible assumption) rfl ?_)
        cases a with
        | true =>
          (first | refine ev_ift rfl rfl rfl rfl ?_ | refine ev_iff rfl rfl rfl rfl ?_)
          repeat (first | refine ev_gos 99 rfl ?_ | refine ev_gf2 rfl rfl rfl rfl ?_ | refine ev_gf2 rfl rfl HH_land rfl ?_ | refine ev_gf2 rfl rfl HH_draft rfl ?_ | refine ev_gf2 rfl rfl (by with_reducible assumption) rfl ?_)
          refine ev_iff rfl rfl rfl (d_eq hne) ?_
          repeat (first | refine ev_gos 99 rfl ?_ | refine ev_gf2 rfl rfl rfl rfl ?_ | refine ev_gf2 rfl rfl HH_land rfl ?_ | refine ev_gf2 rfl rfl HH_draft rfl ?_ | refine ev_gf2 rfl rfl (by with_reducible assumption) rfl ?_)
          refine ev_ift rfl rfl rfl (c_ne hne) ?_
          repeat (first | refine ev_gos 99 rfl ?_ | refine ev_gf2 rfl rfl rfl rfl ?_ | refine ev_gf2 rfl rfl HH_land rfl ?_ | refine ev_gf2 rfl rfl HH_draft rfl ?_ | refine ev_gf2 rfl rfl (by with_reducible assumption) rfl ?_)
          exact ev_wk2 h3 rfl (by repeat' (first | exact trivial | refine ⟨rfl, ?_⟩))
        | false =>
          (first | refine ev_ift rfl rfl rfl rfl ?_ | refine ev_iff rfl rfl rfl rfl ?_)
          repeat (first | refine ev_gos 99 rfl ?_ | refine ev_gf2 rfl rfl rfl rfl ?_ | refine ev_gf2 rfl rfl HH_land rfl ?_ | refine ev_gf2 rfl rfl HH_draft rfl ?_ | refine ev_gf2 rfl rfl (by with_reducible assumption) rfl ?_)
          refine ev_ift rfl rfl rfl (c_ne hne) ?_
          repeat (first | refine ev_gos 99 rfl ?_ | refine ev_gf2 rfl rfl rfl rfl ?_ | refine ev_gf2 rfl rfl HH_land rfl ?_ | refine ev_gf2 rfl rfl HH_draft rfl ?_ | refine ev_gf2 rfl rfl (by with_reducible assumption) rfl ?_)
          exact ev_wk2 h3 rfl (by repeat' (first | exact trivial | refine ⟨rfl, ?_⟩))
theorem e_mshape (hM : MN (A 27) rk W H P) {k c : Nat} (hk : k < 5) (hc : c < W * H) : Ev sc (d + 2) m_M_shape 0 (iniL 9 [.ref 26, .int (nI k), .int (nI c)]) [] (HH w s l A B) (some (.long (shpM W H k c))) (HH w s l A B) := by
  repeat (first | refine ev_gos 99 rfl ?_ | refine ev_gf2 rfl rfl rfl rfl ?_ | refine ev_gf2 rfl rfl HH_land rfl ?_ | refine ev_gf2 rfl rfl HH_draft rfl ?_ | refine ev_gf2 rfl rfl (by with_reducible assumption) rfl ?_)
  exact e_shape_loop hM hk hc 4 1 (bit c) true rfl (by decide)
theorem e_mdentN_loop (hM : MN (A 27) rk W H P) (x : Int32) : ∀ (n i : Nat), i + n = W * H → Ev sc (d + 1) m_M_dented 8 [some (.ref 26), some (.ref 29), some (.int x), some (.long (dnS (A 29) x i)), none, some (.int (nI i))] [.ref 26, .int (nI i)] (HH w s l A B) (some (.long (dnS (A 29) x (W * H)))) (HH w s l A B) := by
  have h49 := hM.n49
  intro n
  induction n with
  | zero =>
    intro i hi
    have e : i = W * H := by omega
    refine ev_cv rfl rfl rfl (e_mcells hM) ?_
    rw [← e]
    refine ev_ift rfl rfl rfl (c_ge ((nI_leI (by omega) (by omega)).mpr (by omega))) ?_
    repeat (first | refine ev_gos 99 rfl ?_ | refine ev_gf2 rfl rfl rfl rfl ?_ | refine ev_gf2 rfl rfl HH_land rfl ?_ | refine ev_gf2 rfl rfl HH_draft rfl ?_ | refine ev_gf2 rfl rfl (by with_reducible assumption) rfl ?_)
    exact ev_rl rfl rfl rfl
  | succ n ih =>
    intro i hi
    refine ev_cv rfl rfl rfl (e_mcells hM) ?_
    refine ev_iff rfl rfl rfl (d_ge (nI_lt3 (by omega) (by omega) (by omega))) ?_
    repeat (first | refine ev_gos 99 rfl ?_ | refine ev_gf2 rfl rfl rfl rfl ?_ | refine ev_gf2 rfl rfl HH_land rfl ?_ | refine ev_gf2 rfl rfl HH_draft rfl ?_ | refine ev_gf2 rfl rfl (by with_reducible assumption) rfl ?_)
    refine ev_ix i rfl rfl (Int32.zero_add _) (by omega) (by decide) ?_
    repeat (first | refine ev_gos 99 rfl ?_ | refine ev_gf2 rfl rfl rfl rfl ?_ | refine ev_gf2 rfl rfl HH_land rfl ?_ | refine ev_gf2 rfl rfl HH_draft rfl ?_ | refine ev_gf2 rfl rfl (by with_reducible assumption) rfl ?_)
    have h3 := ih (i + 1) (by omega)
    rw [← nI_1, dnS_s (by omega)] at h3
    by_cases hx : x ≤ A 29 i
    · rw [if_pos hx] at h3
      refine ev_iff rfl rfl rfl (d_lt (le_nlt hx)) ?_
      repeat (first | refine ev_gos 99 rfl ?_ | refine ev_gf2 rfl rfl rfl rfl ?_ | refine ev_gf2 rfl rfl HH_land rfl ?_ | refine ev_gf2 rfl rfl HH_draft rfl ?_ | refine ev_gf2 rfl rfl (by with_reducible assumption) rfl ?_)
      exact h3
    · rw [if_neg hx] at h3
      have h4 : Ev sc (d + 1) m_M_dented 8 [some (.ref 26), some (.ref 29), some (.int x), some (.long (dnS (A 29) x i ||| 0)), none, some (.int (nI i + 1))] [.ref 26, .int (nI i + 1)] (HH w s l A B) (some (.long (dnS (A 29) x (W * H)))) (HH w s l A B) := by
        rw [or0]
        exact h3
      refine ev_ift rfl rfl rfl (c_lt (nle_lt hx)) ?_
      repeat (first | refine ev_gos 99 rfl ?_ | refine ev_gf2 rfl rfl rfl rfl ?_ | refine ev_gf2 rfl rfl HH_land rfl ?_ | refine ev_gf2 rfl rfl HH_draft rfl ?_ | refine ev_gf2 rfl rfl (by with_reducible assumption) rfl ?_)
      exact h4
theorem e_mdentN (hM : MN (A 27) rk W H P) (x : Int32) : Ev sc (d + 1) m_M_dented 0 (iniL 6 [.ref 26, .ref 29, .int x]) [] (HH w s l A B) (some (.long (dnS (A 29) x (W * H)))) (HH w s l A B) := by
  repeat (first | refine ev_gos 99 rfl ?_ | refine ev_gf2 rfl rfl rfl rfl ?_ | refine ev_gf2 rfl rfl HH_land rfl ?_ | refine ev_gf2 rfl rfl HH_draft rfl ?_ | refine ev_gf2 rfl rfl (by with_reducible assumption) rfl ?_)
  have h3 := e_mdentN_loop (sc := sc) (d := d) (w := w) (s := s) (l := l) (B := B) hM x (W * H) 0 (Nat.zero_add _)
  rw [dnS_0] at h3
  exact h3
theorem e_mdentS_loop (hM : MN (A 27) rk W H P) (x : Int32) : ∀ (n i : Nat), i + n = W * H → Ev sc (d + 1) m_M_dented 8 [some (.ref 26), some (.ref 30), some (.int x), some (.long (dnS (A 30) x i)), none, some (.int (nI i))] [.ref 26, .int (nI i)] (HH w s l A B) (some (.long (dnS (A 30) x (W * H)))) (HH w s l A B) := by
  have h49 := hM.n49
  intro n
  induction n with
  | zero =>
    intro i hi
    have e : i = W * H := by omega
    refine ev_cv rfl rfl rfl (e_mcells hM) ?_
    rw [← e]
    refine ev_ift rfl rfl rfl (c_ge ((nI_leI (by omega) (by omega)).mpr (by omega))) ?_
    repeat (first | refine ev_gos 99 rfl ?_ | refine ev_gf2 rfl rfl rfl rfl ?_ | refine ev_gf2 rfl rfl HH_land rfl ?_ | refine ev_gf2 rfl rfl HH_draft rfl ?_ | refine ev_gf2 rfl rfl (by with_reducible assumption) rfl ?_)
    exact ev_rl rfl rfl rfl
  | succ n ih =>
    intro i hi
    refine ev_cv rfl rfl rfl (e_mcells hM) ?_
    refine ev_iff rfl rfl rfl (d_ge (nI_lt3 (by omega) (by omega) (by omega))) ?_
    repeat (first | refine ev_gos 99 rfl ?_ | refine ev_gf2 rfl rfl rfl rfl ?_ | refine ev_gf2 rfl rfl HH_land rfl ?_ | refine ev_gf2 rfl rfl HH_draft rfl ?_ | refine ev_gf2 rfl rfl (by with_reducible assumption) rfl ?_)
    refine ev_ix i rfl rfl (Int32.zero_add _) (by omega) (by decide) ?_
    repeat (first | refine ev_gos 99 rfl ?_ | refine ev_gf2 rfl rfl rfl rfl ?_ | refine ev_gf2 rfl rfl HH_land rfl ?_ | refine ev_gf2 rfl rfl HH_draft rfl ?_ | refine ev_gf2 rfl rfl (by with_reducible assumption) rfl ?_)
    have h3 := ih (i + 1) (by omega)
    rw [← nI_1, dnS_s (by omega)] at h3
    by_cases hx : x ≤ A 30 i
    · rw [if_pos hx] at h3
      refine ev_iff rfl rfl rfl (d_lt (le_nlt hx)) ?_
      repeat (first | refine ev_gos 99 rfl ?_ | refine ev_gf2 rfl rfl rfl rfl ?_ | refine ev_gf2 rfl rfl HH_land rfl ?_ | refine ev_gf2 rfl rfl HH_draft rfl ?_ | refine ev_gf2 rfl rfl (by with_reducible assumption) rfl ?_)
      exact h3
    · rw [if_neg hx] at h3
      have h4 : Ev sc (d + 1) m_M_dented 8 [some (.ref 26), some (.ref 30), some (.int x), some (.long (dnS (A 30) x i ||| 0)), none, some (.int (nI i + 1))] [.ref 26, .int (nI i + 1)] (HH w s l A B) (some (.long (dnS (A 30) x (W * H)))) (HH w s l A B) := by
        rw [or0]
        exact h3
      refine ev_ift rfl rfl rfl (c_lt (nle_lt hx)) ?_
      repeat (first | refine ev_gos 99 rfl ?_ | refine ev_gf2 rfl rfl rfl rfl ?_ | refine ev_gf2 rfl rfl HH_land rfl ?_ | refine ev_gf2 rfl rfl HH_draft rfl ?_ | refine ev_gf2 rfl rfl (by with_reducible assumption) rfl ?_)
      exact h4
theorem e_mdentS (hM : MN (A 27) rk W H P) (x : Int32) : Ev sc (d + 1) m_M_dented 0 (iniL 6 [.ref 26, .ref 30, .int x]) [] (HH w s l A B) (some (.long (dnS (A 30) x (W * H)))) (HH w s l A B) := by
  repeat (first | refine ev_gos 99 rfl ?_ | refine ev_gf2 rfl rfl rfl rfl ?_ | refine ev_gf2 rfl rfl HH_land rfl ?_ | refine ev_gf2 rfl rfl HH_draft rfl ?_ | refine ev_gf2 rfl rfl (by with_reducible assumption) rfl ?_)
  have h3 := e_mdentS_loop (sc := sc) (d := d) (w := w) (s := s) (l := l) (B := B) hM x (W * H) 0 (Nat.zero_add _)
  rw [dnS_0] at h3
  exact h3
def mayB (W H : Nat) (rk : Int64) (f : Nat → Int32) (k c : Nat) : Bool := decide (¬ shpM W H k c = 0) && decide (shpM W H k c &&& (rk ||| dnS f 1 (W * H)) = 0)
theorem e_mmayLie (hM : MN (A 27) rk W H P) {k c : Nat} (hk : k < 5) (hc : c < W * H) : Ev sc (d + 3) m_M_mayLie 0 (iniL 6 [.ref 26, .ref 29, .int (nI k), .int (nI c)]) [] (HH w s l A B) (some (.int (b01 (mayB W H rk (A 29) k c)))) (HH w s l A B) := by
  unfold mayB
  repeat (first | refine ev_gos 99 rfl ?_ | refine ev_gf2 rfl rfl rfl rfl ?_ | refine ev_gf2 rfl rfl HH_land rfl ?_ | refine ev_gf2 rfl rfl HH_draft rfl ?_ | refine ev_gf2 rfl rfl (by with_reducible assumption) rfl ?_)
  refine ev_cv rfl rfl rfl (e_mshape hM hk hc) ?_
  repeat (first | refine ev_gos 99 rfl ?_ | refine ev_gf2 rfl rfl rfl rfl ?_ | refine ev_gf2 rfl rfl HH_land rfl ?_ | refine ev_gf2 rfl rfl HH_draft rfl ?_ | refine ev_gf2 rfl rfl (by with_reducible assumption) rfl ?_)
  by_cases h1 : shpM W H k c = 0
  · refine ev_ift rfl rfl rfl (i_eq (lc_eq.mpr h1)) ?_
    repeat (first | refine ev_gos 99 rfl ?_ | refine ev_gf2 rfl rfl rfl rfl ?_ | refine ev_gf2 rfl rfl HH_land rfl ?_ | refine ev_gf2 rfl rfl HH_draft rfl ?_ | refine ev_gf2 rfl rfl (by with_reducible assumption) rfl ?_)
    exact ev_rz rfl (Or.inl rfl) (by rw [decide_eq_false (fun z => z h1)]; rfl) rfl
  · refine ev_iff rfl rfl rfl (j_eq (fun z => h1 (lc_eq.mp z))) ?_
    repeat (first | refine ev_gos 99 rfl ?_ | refine ev_gf2 rfl rfl rfl rfl ?_ | refine ev_gf2 rfl rfl HH_land rfl ?_ | refine ev_gf2 rfl rfl HH_draft rfl ?_ | refine ev_gf2 rfl rfl (by with_reducible assumption) rfl ?_)
    refine ev_cv rfl rfl rfl (e_mrocks hM) ?_
    repeat (first | refine ev_gos 99 rfl ?_ | refine ev_gf2 rfl rfl rfl rfl ?_ | refine ev_gf2 rfl rfl HH_land rfl ?_ | refine ev_gf2 rfl rfl HH_draft rfl ?_ | refine ev_gf2 rfl rfl (by with_reducible assumption) rfl ?_)
    refine ev_cv rfl rfl rfl (e_mdentN hM 1) ?_
    repeat (first | refine ev_gos 99 rfl ?_ | refine ev_gf2 rfl rfl rfl rfl ?_ | refine ev_gf2 rfl rfl HH_land rfl ?_ | refine ev_gf2 rfl rfl HH_draft rfl ?_ | refine ev_gf2 rfl rfl (by with_reducible assumption) rfl ?_)
    rw [decide_eq_true h1]
    by_cases h2 : shpM W H k c &&& (rk ||| dnS (A 29) 1 (W * H)) = 0
    · refine ev_iff rfl rfl rfl (j_ne (lc_eq.mpr h2)) ?_
      repeat (first | refine ev_gos 99 rfl ?_ | refine ev_gf2 rfl rfl rfl rfl ?_ | refine ev_gf2 rfl rfl HH_land rfl ?_ | refine ev_gf2 rfl rfl HH_draft rfl ?_ | refine ev_gf2 rfl rfl (by with_reducible assumption) rfl ?_)
      exact ev_rz rfl (Or.inr rfl) (by rw [decide_eq_true h2]; rfl) rfl
    · refine ev_ift rfl rfl rfl (i_ne (fun z => h2 (lc_eq.mp z))) ?_
      repeat (first | refine ev_gos 99 rfl ?_ | refine ev_gf2 rfl rfl rfl rfl ?_ | refine ev_gf2 rfl rfl HH_land rfl ?_ | refine ev_gf2 rfl rfl HH_draft rfl ?_ | refine ev_gf2 rfl rfl (by with_reducible assumption) rfl ?_)
      exact ev_rz rfl (Or.inl rfl) (by rw [decide_eq_false h2]; rfl) rfl
theorem e_mdentsN_loop (hM : MN (A 27) rk W H P) (x : Int64) (f : Nat → Int32) : ∀ (n i : Nat), i + n = W * H → Ev sc (d + 1) m_M_dents 6 [some (.ref 26), some (.ref 29), some (.long x), none, some (.int 9), some (.int (nI i))] [.ref 26, .int (nI i)] (HH w s l (upA A 29 (mapP (prF x) f i)) B) none (HH w s l (upA A 29 (mapP (prF x) f (W * H))) B) := by
  have h49 := hM.n49
  intro n
  induction n with
  | zero =>
    intro i hi
    have e : i = W * H := by omega
    refine ev_cv rfl rfl rfl (e_mcells (A := upA A 29 _) hM) ?_
    rw [← e]
    refine ev_ift rfl rfl rfl (c_ge ((nI_leI (by omega) (by omega)).mpr (by omega))) ?_
    exact ev_rv rfl rfl
  | succ n ih =>
    intro i hi
    refine ev_cv rfl rfl rfl (e_mcells (A := upA A 29 _) hM) ?_
    refine ev_iff rfl rfl rfl (d_ge (nI_lt3 (by omega) (by omega) (by omega))) ?_
    repeat (first | refine ev_gos 99 rfl ?_ | refine ev_gf2 rfl rfl rfl rfl ?_ | refine ev_gf2 rfl rfl HH_land rfl ?_ | refine ev_gf2 rfl rfl HH_draft rfl ?_ | refine ev_gf2 rfl rfl (by with_reducible assumption) rfl ?_)
    refine ev_cs rfl rfl rfl (e_holds sc d _ x (k := i) (by omega)) ?_
    have h3 := ih (i + 1) (by omega)
    rw [← nI_1, ← mapP_s] at h3
    cases hb : bs x i with
    | true =>
      (first | refine ev_ift rfl rfl rfl rfl ?_ | refine ev_iff rfl rfl rfl rfl ?_)
      repeat (first | refine ev_gos 99 rfl ?_ | refine ev_gf2 rfl rfl rfl rfl ?_ | refine ev_gf2 rfl rfl HH_land rfl ?_ | refine ev_gf2 rfl rfl HH_draft rfl ?_ | refine ev_gf2 rfl rfl (by with_reducible assumption) rfl ?_)
      refine iw_29 i rfl (Int32.zero_add _) (by omega) ?_
      rw [show prF x i (f i) = 9 by unfold prF; rw [hb]; rfl] at h3
      repeat (first | refine ev_gos 99 rfl ?_ | refine ev_gf2 rfl rfl rfl rfl ?_ | refine ev_gf2 rfl rfl HH_land rfl ?_ | refine ev_gf2 rfl rfl HH_draft rfl ?_ | refine ev_gf2 rfl rfl (by with_reducible assumption) rfl ?_)
      exact h3
    | false =>
      (first | refine ev_ift rfl rfl rfl rfl ?_ | refine ev_iff rfl rfl rfl rfl ?_)
      repeat (first | refine ev_gos 99 rfl ?_ | refine ev_gf2 rfl rfl rfl rfl ?_ | refine ev_gf2 rfl rfl HH_land rfl ?_ | refine ev_gf2 rfl rfl HH_draft rfl ?_ | refine ev_gf2 rfl rfl (by with_reducible assumption) rfl ?_)
      refine ev_ix i rfl rfl (Int32.zero_add _) (by omega) (by decide) ?_
      rw [upA_at, mapP_at]
      refine iw_29 i rfl (Int32.zero_add _) (by omega) ?_
      rw [show prF x i (f i) = f i by unfold prF; rw [hb]; rfl] at h3
      repeat (first | refine ev_gos 99 rfl ?_ | refine ev_gf2 rfl rfl rfl rfl ?_ | refine ev_gf2 rfl rfl HH_land rfl ?_ | refine ev_gf2 rfl rfl HH_draft rfl ?_ | refine ev_gf2 rfl rfl (by with_reducible assumption) rfl ?_)
      exact h3
theorem e_mdentsN (hM : MN (A 27) rk W H P) (x : Int64) (f : Nat → Int32) : Ev sc (d + 1) m_M_dents 0 (iniL 6 [.ref 26, .ref 29, .long x, .int 9]) [] (HH w s l (upA A 29 f) B) none (HH w s l (upA A 29 (mapP (prF x) f (W * H))) B) := by
  repeat (first | refine ev_gos 99 rfl ?_ | refine ev_gf2 rfl rfl rfl rfl ?_ | refine ev_gf2 rfl rfl HH_land rfl ?_ | refine ev_gf2 rfl rfl HH_draft rfl ?_ | refine ev_gf2 rfl rfl (by with_reducible assumption) rfl ?_)
  have h3 := e_mdentsN_loop (sc := sc) (d := d) (w := w) (s := s) (l := l) (B := B) hM x f (W * H) 0 (Nat.zero_add _)
  rw [mapP_0] at h3
  exact h3
theorem e_mdentsS_loop (hM : MN (A 27) rk W H P) (x : Int64) (f : Nat → Int32) : ∀ (n i : Nat), i + n = W * H → Ev sc (d + 1) m_M_dents 6 [some (.ref 26), some (.ref 30), some (.long x), none, some (.int 9), some (.int (nI i))] [.ref 26, .int (nI i)] (HH w s l (upA A 30 (mapP (prF x) f i)) B) none (HH w s l (upA A 30 (mapP (prF x) f (W * H))) B) := by
  have h49 := hM.n49
  intro n
  induction n with
  | zero =>
    intro i hi
    have e : i = W * H := by omega
    refine ev_cv rfl rfl rfl (e_mcells (A := upA A 30 _) hM) ?_
    rw [← e]
    refine ev_ift rfl rfl rfl (c_ge ((nI_leI (by omega) (by omega)).mpr (by omega))) ?_
    exact ev_rv rfl rfl
  | succ n ih =>
    intro i hi
    refine ev_cv rfl rfl rfl (e_mcells (A := upA A 30 _) hM) ?_
    refine ev_iff rfl rfl rfl (d_ge (nI_lt3 (by omega) (by omega) (by omega))) ?_
    repeat (first | refine ev_gos 99 rfl ?_ | refine ev_gf2 rfl rfl rfl rfl ?_ | refine ev_gf2 rfl rfl HH_land rfl ?_ | refine ev_gf2 rfl rfl HH_draft rfl ?_ | refine ev_gf2 rfl rfl (by with_reducible assumption) rfl ?_)
    refine ev_cs rfl rfl rfl (e_holds sc d _ x (k := i) (by omega)) ?_
    have h3 := ih (i + 1) (by omega)
    rw [← nI_1, ← mapP_s] at h3
    cases hb : bs x i with
    | true =>
      (first | refine ev_ift rfl rfl rfl rfl ?_ | refine ev_iff rfl rfl rfl rfl ?_)
      repeat (first | refine ev_gos 99 rfl ?_ | refine ev_gf2 rfl rfl rfl rfl ?_ | refine ev_gf2 rfl rfl HH_land rfl ?_ | refine ev_gf2 rfl rfl HH_draft rfl ?_ | refine ev_gf2 rfl rfl (by with_reducible assumption) rfl ?_)
      refine iw_30 i rfl (Int32.zero_add _) (by omega) ?_
      rw [show prF x i (f i) = 9 by unfold prF; rw [hb]; rfl] at h3
      repeat (first | refine ev_gos 99 rfl ?_ | refine ev_gf2 rfl rfl rfl rfl ?_ | refine ev_gf2 rfl rfl HH_land rfl ?_ | refine ev_gf2 rfl rfl HH_draft rfl ?_ | refine ev_gf2 rfl rfl (by with_reducible assumption) rfl ?_)
      exact h3
    | false =>
      (first | refine ev_ift rfl rfl rfl rfl ?_ | refine ev_iff rfl rfl rfl rfl ?_)
      repeat (first | refine ev_gos 99 rfl ?_ | refine ev_gf2 rfl rfl rfl rfl ?_ | refine ev_gf2 rfl rfl HH_land rfl ?_ | refine ev_gf2 rfl rfl HH_draft rfl ?_ | refine ev_gf2 rfl rfl (by with_reducible assumption) rfl ?_)
      refine ev_ix i rfl rfl (Int32.zero_add _) (by omega) (by decide) ?_
      rw [upA_at, mapP_at]
      refine iw_30 i rfl (Int32.zero_add _) (by omega) ?_
      rw [show prF x i (f i) = f i by unfold prF; rw [hb]; rfl] at h3
      repeat (first | refine ev_gos 99 rfl ?_ | refine ev_gf2 rfl rfl rfl rfl ?_ | refine ev_gf2 rfl rfl HH_land rfl ?_ | refine ev_gf2 rfl rfl HH_draft rfl ?_ | refine ev_gf2 rfl rfl (by with_reducible assumption) rfl ?_)
      exact h3
theorem e_mdentsS (hM : MN (A 27) rk W H P) (x : Int64) (f : Nat → Int32) : Ev sc (d + 1) m_M_dents 0 (iniL 6 [.ref 26, .ref 30, .long x, .int 9]) [] (HH w s l (upA A 30 f) B) none (HH w s l (upA A 30 (mapP (prF x) f (W * H))) B) := by
  repeat (first | refine ev_gos 99 rfl ?_ | refine ev_gf2 rfl rfl rfl rfl ?_ | refine ev_gf2 rfl rfl HH_land rfl ?_ | refine ev_gf2 rfl rfl HH_draft rfl ?_ | refine ev_gf2 rfl rfl (by with_reducible assumption) rfl ?_)
  have h3 := e_mdentsS_loop (sc := sc) (d := d) (w := w) (s := s) (l := l) (B := B) hM x f (W * H) 0 (Nat.zero_add _)
  rw [mapP_0] at h3
  exact h3
theorem pop_WI {x : Int64} {N : Nat} (h : WI x N) (hN : N ≤ 49) : pop x ≤ N := by
  rw [pop_cut (n := N) (by omega) (fun i h1 _ => by
    cases hb : bs x i with
    | false => rfl
    | true => have := h i hb; omega)]
  exact fb_ct_le _ _
theorem e_gway (hM : MN (A 27) rk W H P) {X had : Int64} (hX : WI X (W * H)) {c k : Nat} (hk : k < W * H) (hb : bs had k = true) (a0 : Int64) {r : Option Value} {h' : AHp} (hout : Ev sc (d + 2) m_M_group 26 [some (.ref 26), some (.long X), none, some (.int (nI c)), some (.long (fo (wyF W H X k) 4 a0)), none, some (.long had), none, some (.int (nI (k + 1))), none, none] [.ref 26, .int (nI (k + 1))] (HH w s l A B) r h') : ∀ (n i : Nat), i + n = 4 → Ev sc (d + 2) m_M_group 38 [some (.ref 26), some (.long X), none, some (.int (nI c)), some (.long (fo (wyF W H X k) i a0)), none, some (.long had), none, some (.int (nI k)), some (.int (nI (i + 1))), none] [.int 5, .int (nI (i + 1))] (HH w s l A B) r h' := by
  have h49 := hM.n49
  obtain ⟨hW, hH⟩ := hM.pos (by omega)
  have hW7 : W ≤ 7 := hM.2.2.2.1
  have hH7 : H ≤ 7 := hM.2.2.2.2.1
  intro n
  induction n with
  | zero =>
    intro i hi
    have e : i = 4 := by omega
    subst e
    refine ev_ift rfl rfl rfl (c_ge (by decide : (5 : Int32) ≤ nI (4 + 1))) ?_
    repeat (first | refine ev_gos 99 rfl ?_ | refine ev_gf2 rfl rfl rfl rfl ?_ | refine ev_gf2 rfl rfl HH_land rfl ?_ | refine ev_gf2 rfl rfl HH_draft rfl ?_ | refine ev_gf2 rfl rfl (by with_reducible assumption) rfl ?_)
    rw [← nI_1] at hout
    exact ev_wk2 hout rfl (by repeat' (first | exact trivial | refine ⟨rfl, ?_⟩))
  | succ n ih =>
    intro i hi
    refine ev_iff rfl rfl rfl (d_ge (nI_lt3 (b := 5) (by omega) (by omega) (by omega))) ?_
    repeat (first | refine ev_gos 99 rfl ?_ | refine ev_gf2 rfl rfl rfl rfl ?_ | refine ev_gf2 rfl rfl HH_land rfl ?_ | refine ev_gf2 rfl rfl HH_draft rfl ?_ | refine ev_gf2 rfl rfl (by with_reducible assumption) rfl ?_)
    refine ev_cs rfl rfl rfl (e_holds sc _ _ had (k := k) (by omega)) ?_
    rw [hb]
    (first | refine ev_ift rfl rfl rfl rfl ?_ | refine ev_iff rfl rfl rfl rfl ?_)
    repeat (first | refine ev_gos 99 rfl ?_ | refine ev_gf2 rfl rfl rfl rfl ?_ | refine ev_gf2 rfl rfl HH_land rfl ?_ | refine ev_gf2 rfl rfl HH_draft rfl ?_ | refine ev_gf2 rfl rfl (by with_reducible assumption) rfl ?_)
    refine ev_cv rfl rfl rfl (e_beside hM hk (k := i + 1) (by omega) (by omega)) ?_
    have h3 := ih (i + 1) (by omega)
    rw [← nI_1 (i + 1)] at h3
    have e : fo (wyF W H X k) (i + 1) a0 = fo (wyF W H X k) i a0 ||| obs X (bsd W H k (i + 1)) := rfl
    rw [e] at h3
    cases ho : bsd W H k (i + 1) with
    | none =>
      rw [ho] at h3
      repeat (first | refine ev_gos 99 rfl ?_ | refine ev_gf2 rfl rfl rfl rfl ?_ | refine ev_gf2 rfl rfl HH_land rfl ?_ | refine ev_gf2 rfl rfl HH_draft rfl ?_ | refine ev_gf2 rfl rfl (by with_reducible assumption) rfl ?_)
      (first | refine ev_ift rfl rfl rfl rfl ?_ | refine ev_iff rfl rfl rfl rfl ?_)
      repeat (first | refine ev_gos 99 rfl ?_ | refine ev_gf2 rfl rfl rfl rfl ?_ | refine ev_gf2 rfl rfl HH_land rfl ?_ | refine ev_gf2 rfl rfl HH_draft rfl ?_ | refine ev_gf2 rfl rfl (by with_reducible assumption) rfl ?_)
      exact ev_wk2 h3 rfl (by repeat' (first | exact trivial | refine ⟨rfl, ?_⟩))
    | some t =>
      rw [ho] at h3
      have ht := (bsd_lt hW hW7 hH hH7 hk (by omega) ho).1
      have hne : ¬ nI t = -1 := enc_ne (by omega)
      repeat (first | refine ev_gos 99 rfl ?_ | refine ev_gf2 rfl rfl rfl rfl ?_ | refine ev_gf2 rfl rfl HH_land rfl ?_ | refine ev_gf2 rfl rfl HH_draft rfl ?_ | refine ev_gf2 rfl rfl (by with_reducible assumption) rfl ?_)
      refine ev_iff rfl rfl rfl (d_eq hne) ?_
      repeat (first | refine ev_gos 99 rfl ?_ | refine ev_gf2 rfl rfl rfl rfl ?_ | refine ev_gf2 rfl rfl HH_land rfl ?_ | refine ev_gf2 rfl rfl HH_draft rfl ?_ | refine ev_gf2 rfl rfl (by with_reducible assumption) rfl ?_)
      refine ev_cs rfl rfl rfl (e_holds sc _ _ X (k := t) (by omega)) ?_
      have e2 : obs X (some t) = bif bs X t then bit t else 0 := rfl
      rw [e2] at h3
      cases hx : bs X t with
      | true =>
        rw [hx] at h3
        (first | refine ev_ift rfl rfl rfl rfl ?_ | refine ev_iff rfl rfl rfl rfl ?_)
        repeat (first | refine ev_gos 99 rfl ?_ | refine ev_gf2 rfl rfl rfl rfl ?_ | refine ev_gf2 rfl rfl HH_land rfl ?_ | refine ev_gf2 rfl rfl HH_draft rfl ?_ | refine ev_gf2 rfl rfl (by with_reducible assumption) rfl ?_)
        exact ev_wk2 h3 rfl (by repeat' (first | exact trivial | refine ⟨rfl, ?_⟩))
      | false =>
        rw [hx] at h3
        (first | refine ev_ift rfl rfl rfl rfl ?_ | refine ev_iff rfl rfl rfl rfl ?_)
        repeat (first | refine ev_gos 99 rfl ?_ | refine ev_gf2 rfl rfl rfl rfl ?_ | refine ev_gf2 rfl rfl HH_land rfl ?_ | refine ev_gf2 rfl rfl HH_draft rfl ?_ | refine ev_gf2 rfl rfl (by with_reducible assumption) rfl ?_)
        exact ev_wk2 h3 rfl (by repeat' (first | exact trivial | refine ⟨rfl, ?_⟩))
theorem e_gcell (hM : MN (A 27) rk W H P) {X had : Int64} (hX : WI X (W * H)) {c : Nat} {r : Option Value} {h' : AHp} (hout : Ev sc (d + 2) m_M_group 13 [some (.ref 26), some (.long X), none, some (.int (nI c)), some (.long (stM W H X had)), none, some (.long had), none, none, none, none] [.int (lg_cmp (stM W H X had) had)] (HH w s l A B) r h') : ∀ (n k : Nat), k + n = W * H → Ev sc (d + 2) m_M_group 26 [some (.ref 26), some (.long X), none, some (.int (nI c)), some (.long (fo (kyF W H X had) k had)), none, some (.long had), none, some (.int (nI k)), none, none] [.ref 26, .int (nI k)] (HH w s l A B) r h' := by
  have h49 := hM.n49
  intro n
  induction n with
  | zero =>
    intro k hk
    have e : k = W * H := by omega
    refine ev_cv rfl rfl rfl (e_mcells hM) ?_
    rw [← e]
    refine ev_ift rfl rfl rfl (c_ge ((nI_leI (by omega) (by omega)).mpr (by omega))) ?_
    repeat (first | refine ev_gos 99 rfl ?_ | refine ev_gf2 rfl rfl rfl rfl ?_ | refine ev_gf2 rfl rfl HH_land rfl ?_ | refine ev_gf2 rfl rfl HH_draft rfl ?_ | refine ev_gf2 rfl rfl (by with_reducible assumption) rfl ?_)
    unfold stM at hout
    rw [← e] at hout
    exact ev_wk2 hout rfl (by repeat' (first | exact trivial | refine ⟨rfl, ?_⟩))
  | succ n ih =>
    intro k hk
    refine ev_cv rfl rfl rfl (e_mcells hM) ?_
    refine ev_iff rfl rfl rfl (d_ge (nI_lt3 (by omega) (by omega) (by omega))) ?_
    repeat (first | refine ev_gos 99 rfl ?_ | refine ev_gf2 rfl rfl rfl rfl ?_ | refine ev_gf2 rfl rfl HH_land rfl ?_ | refine ev_gf2 rfl rfl HH_draft rfl ?_ | refine ev_gf2 rfl rfl (by with_reducible assumption) rfl ?_)
    have h3 := ih (k + 1) (by omega)
    have e : fo (kyF W H X had) (k + 1) had = bif bs had k then fo (wyF W H X k) 4 (fo (kyF W H X had) k had) else fo (kyF W H X had) k had := rfl
    rw [e] at h3
    cases hb : bs had k with
    | true =>
      rw [hb] at h3
      exact ev_wk2 (e_gway hM hX (k := k) (by omega) hb (fo (kyF W H X had) k had) h3 4 0 rfl) rfl (by repeat' (first | exact trivial | refine ⟨rfl, ?_⟩))
    | false =>
      rw [hb] at h3
      (first | refine ev_ift rfl rfl rfl rfl ?_ | refine ev_iff rfl rfl rfl rfl ?_)
      repeat (first | refine ev_gos 99 rfl ?_ | refine ev_gf2 rfl rfl rfl rfl ?_ | refine ev_gf2 rfl rfl HH_land rfl ?_ | refine ev_gf2 rfl rfl HH_draft rfl ?_ | refine ev_gf2 rfl rfl (by with_reducible assumption) rfl ?_)
      refine ev_cs rfl rfl rfl (e_holds sc _ _ had (k := k) (by omega)) ?_
      rw [hb]
      (first | refine ev_ift rfl rfl rfl rfl ?_ | refine ev_iff rfl rfl rfl rfl ?_)
      repeat (first | refine ev_gos 99 rfl ?_ | refine ev_gf2 rfl rfl rfl rfl ?_ | refine ev_gf2 rfl rfl HH_land rfl ?_ | refine ev_gf2 rfl rfl HH_draft rfl ?_ | refine ev_gf2 rfl rfl (by with_reducible assumption) rfl ?_)
      rw [← nI_1] at h3
      exact ev_wk2 h3 rfl (by repeat' (first | exact trivial | refine ⟨rfl, ?_⟩))
theorem e_gloop (hM : MN (A 27) rk W H P) {X : Int64} (hX : WI X (W * H)) {c : Nat} (hc : c < W * H) : ∀ (n : Nat) (g had : Int64), 49 ≤ n + pop g → SB g X → ¬ g = had → Ev sc (d + 2) m_M_group 13 [some (.ref 26), some (.long X), none, some (.int (nI c)), some (.long g), none, some (.long had), none, none, none, none] [.int (lg_cmp g had)] (HH w s l A B) (some (.long (itG W (W * H) X n g))) (HH w s l A B) := by
  have h49 := hM.n49
  obtain ⟨hW, hH⟩ := hM.pos (by omega)
  have hW7 : W ≤ 7 := hM.2.2.2.1
  have hH7 : H ≤ 7 := hM.2.2.2.2.1
  have key : ∀ (g had : Int64) (o : Int64), SB g X → ¬ g = had → (stG W (W * H) X g = g → o = g) → (¬ stG W (W * H) X g = g → Ev sc (d + 2) m_M_group 13 [some (.ref 26), some (.long X), none, some (.int (nI c)), some (.long (stG W (W * H) X g)), none, some (.long g), none, none, none, none] [.int (lg_cmp (stG W (W * H) X g) g)] (HH w s l A B) (some (.long o)) (HH w s l A B)) → Ev sc (d + 2) m_M_group 13 [some (.ref 26), some (.long X), none, some (.int (nI c)), some (.long g), none, some (.long had), none, none, none, none] [.int (lg_cmp g had)] (HH w s l A B) (some (.long o)) (HH w s l A B) := by
    intro g had o hg hne h1 h2
    refine ev_iff rfl rfl rfl (j_eq (fun z => hne (lc_eq.mp z))) ?_
    repeat (first | refine ev_gos 99 rfl ?_ | refine ev_gf2 rfl rfl rfl rfl ?_ | refine ev_gf2 rfl rfl HH_land rfl ?_ | refine ev_gf2 rfl rfl HH_draft rfl ?_ | refine ev_gf2 rfl rfl (by with_reducible assumption) rfl ?_)
    refine e_gcell (had := g) hM hX ?_ (W * H) 0 (Nat.zero_add _)
    rw [stM_eq hW hW7 hH hH7 hX hg]
    by_cases q : stG W (W * H) X g = g
    · refine ev_ift rfl rfl rfl (i_eq (lc_eq.mpr q)) ?_
      repeat (first | refine ev_gos 99 rfl ?_ | refine ev_gf2 rfl rfl rfl rfl ?_ | refine ev_gf2 rfl rfl HH_land rfl ?_ | refine ev_gf2 rfl rfl HH_draft rfl ?_ | refine ev_gf2 rfl rfl (by with_reducible assumption) rfl ?_)
      exact ev_rl rfl (by rw [q, h1 q]) rfl
    · exact h2 q
  intro n
  induction n with
  | zero =>
    intro g had hn hg hne
    refine key g had _ hg hne (fun _ => rfl) (fun q => ?_)
    have h1 := pop_lt (st_ge (W := W) (N := W * H) hg) (fun z => q z.symm)
    have h2 := pop_WI (SB_WI (st_le W (W * H) X g) hX) h49
    omega
  | succ n ih =>
    intro g had hn hg hne
    refine key g had _ hg hne (fun q => itG_fix q (n + 1)) (fun q => ?_)
    have h1 := pop_lt (st_ge (W := W) (N := W * H) hg) (fun z => q z.symm)
    exact ih _ g (by omega) (st_le W (W * H) X g) q
theorem e_mgroup (hM : MN (A 27) rk W H P) {X : Int64} (hX : WI X (W * H)) {c : Nat} (hc : bs X c = true) : Ev sc (d + 2) m_M_group 0 (iniL 11 [.ref 26, .long X, .int (nI c)]) [] (HH w s l A B) (some (.long (grpS W (W * H) X (bit c)))) (HH w s l A B) := by
  have h49 := hM.n49
  have hcN := hX c hc
  rw [grp_bit W (W * H) hc]
  repeat (first | refine ev_gos 99 rfl ?_ | refine ev_gf2 rfl rfl rfl rfl ?_ | refine ev_gf2 rfl rfl HH_land rfl ?_ | refine ev_gf2 rfl rfl HH_draft rfl ?_ | refine ev_gf2 rfl rfl (by with_reducible assumption) rfl ?_)
  exact ev_wk2 (e_gloop hM hX hcN 49 (bit c) 0 (by omega) (SB_bit hc) (bit_ne (by omega))) rfl (by repeat' (first | exact trivial | refine ⟨rfl, ?_⟩))
theorem e_mcountN_loop (hM : MN (A 27) rk W H P) : ∀ (n a : Nat) (X : Int64), pop X ≤ n → WI X (W * H) → Ev sc (d + 3) m_M_countOn 12 [some (.ref 26), some (.ref 29), some (.int (nI a)), some (.long X), none, none, none] [.int (lg_cmp X 0)] (HH w s l A B) (some (.int (nI (gfd W (W * H) (fun a g => a + cntd (pop g)) n X a)))) (HH w s l A B) := by
  intro n
  induction n with
  | zero =>
    intro a X hp hX
    have e := pop_zero (x := X) (by omega)
    subst e
    refine ev_ift rfl rfl rfl (i_eq (lc_eq.mpr rfl)) ?_
    repeat (first | refine ev_gos 99 rfl ?_ | refine ev_gf2 rfl rfl rfl rfl ?_ | refine ev_gf2 rfl rfl HH_land rfl ?_ | refine ev_gf2 rfl rfl HH_draft rfl ?_ | refine ev_gf2 rfl rfl (by with_reducible assumption) rfl ?_)
    exact ev_ri rfl rfl rfl
  | succ n ih =>
    intro a X hp hX
    by_cases h0 : X = 0
    · subst h0
      refine ev_ift rfl rfl rfl (i_eq (lc_eq.mpr rfl)) ?_
      repeat (first | refine ev_gos 99 rfl ?_ | refine ev_gf2 rfl rfl rfl rfl ?_ | refine ev_gf2 rfl rfl HH_land rfl ?_ | refine ev_gf2 rfl rfl HH_draft rfl ?_ | refine ev_gf2 rfl rfl (by with_reducible assumption) rfl ?_)
      exact ev_ri rfl (by rw [gfd_0]) rfl
    · refine ev_iff rfl rfl rfl (j_eq (fun z => h0 (lc_eq.mp z))) ?_
      repeat (first | refine ev_gos 99 rfl ?_ | refine ev_gf2 rfl rfl rfl rfl ?_ | refine ev_gf2 rfl rfl HH_land rfl ?_ | refine ev_gf2 rfl rfl HH_draft rfl ?_ | refine ev_gf2 rfl rfl (by with_reducible assumption) rfl ?_)
      refine ev_cs rfl rfl rfl (e_lowest sc _ _ h0) ?_
      refine ev_cv rfl rfl rfl (e_mgroup hM hX (lo_spec h0).2.1) ?_
      rw [show grpS W (W * H) X (bit (lo X)) = fgS W (W * H) X by unfold fgS; rw [lowbit h0]; rfl]
      repeat (first | refine ev_gos 99 rfl ?_ | refine ev_gf2 rfl rfl rfl rfl ?_ | refine ev_gf2 rfl rfl HH_land rfl ?_ | refine ev_gf2 rfl rfl HH_draft rfl ?_ | refine ev_gf2 rfl rfl (by with_reducible assumption) rfl ?_)
      refine ev_cs rfl rfl rfl (e_bits sc _ _ _) ?_
      refine ev_cs rfl rfl rfl (e_counted sc _ _ (n := pop (fgS W (W * H) X)) (by have := pop_le (fgS W (W * H) X); omega)) ?_
      repeat (first | refine ev_gos 99 rfl ?_ | refine ev_gf2 rfl rfl rfl rfl ?_ | refine ev_gf2 rfl rfl HH_land rfl ?_ | refine ev_gf2 rfl rfl HH_draft rfl ?_ | refine ev_gf2 rfl rfl (by with_reducible assumption) rfl ?_)
      rw [gfd_s h0]
      have h3 := ih (a + cntd (pop (fgS W (W * H) X))) (X &&& (fgS W (W * H) X ^^^ (-1))) (by have := rest_lt W (W * H) h0; omega) (SB_WI (rest_sub X _) hX)
      rw [← nI_add] at h3
      exact ev_wk2 h3 rfl (by repeat' (first | exact trivial | refine ⟨rfl, ?_⟩))
theorem e_mcountN (hM : MN (A 27) rk W H P) : Ev sc (d + 3) m_M_countOn 0 (iniL 7 [.ref 26, .ref 29]) [] (HH w s l A B) (some (.int (nI (cntS W (W * H) (dnS (A 29) 3 (W * H)))))) (HH w s l A B) := by
  have h49 := hM.n49
  repeat (first | refine ev_gos 99 rfl ?_ | refine ev_gf2 rfl rfl rfl rfl ?_ | refine ev_gf2 rfl rfl HH_land rfl ?_ | refine ev_gf2 rfl rfl HH_draft rfl ?_ | refine ev_gf2 rfl rfl (by with_reducible assumption) rfl ?_)
  refine ev_cv rfl rfl rfl (e_mdentN hM 3) ?_
  repeat (first | refine ev_gos 99 rfl ?_ | refine ev_gf2 rfl rfl rfl rfl ?_ | refine ev_gf2 rfl rfl HH_land rfl ?_ | refine ev_gf2 rfl rfl HH_draft rfl ?_ | refine ev_gf2 rfl rfl (by with_reducible assumption) rfl ?_)
  exact e_mcountN_loop hM 49 0 _ (Nat.le_trans (pop_WI (WI_dn _ _ _) h49) h49) (WI_dn _ _ _)
theorem e_mcountS_loop (hM : MN (A 27) rk W H P) : ∀ (n a : Nat) (X : Int64), pop X ≤ n → WI X (W * H) → Ev sc (d + 3) m_M_countOn 12 [some (.ref 26), some (.ref 30), some (.int (nI a)), some (.long X), none, none, none] [.int (lg_cmp X 0)] (HH w s l A B) (some (.int (nI (gfd W (W * H) (fun a g => a + cntd (pop g)) n X a)))) (HH w s l A B) := by
  intro n
  induction n with
  | zero =>
    intro a X hp hX
    have e := pop_zero (x := X) (by omega)
    subst e
    refine ev_ift rfl rfl rfl (i_eq (lc_eq.mpr rfl)) ?_
    repeat (first | refine ev_gos 99 rfl ?_ | refine ev_gf2 rfl rfl rfl rfl ?_ | refine ev_gf2 rfl rfl HH_land rfl ?_ | refine ev_gf2 rfl rfl HH_draft rfl ?_ | refine ev_gf2 rfl rfl (by with_reducible assumption) rfl ?_)
    exact ev_ri rfl rfl rfl
  | succ n ih =>
    intro a X hp hX
    by_cases h0 : X = 0
    · subst h0
      refine ev_ift rfl rfl rfl (i_eq (lc_eq.mpr rfl)) ?_
      repeat (first | refine ev_gos 99 rfl ?_ | refine ev_gf2 rfl rfl rfl rfl ?_ | refine ev_gf2 rfl rfl HH_land rfl ?_ | refine ev_gf2 rfl rfl HH_draft rfl ?_ | refine ev_gf2 rfl rfl (by with_reducible assumption) rfl ?_)
      exact ev_ri rfl (by rw [gfd_0]) rfl
    · refine ev_iff rfl rfl rfl (j_eq (fun z => h0 (lc_eq.mp z))) ?_
      repeat (first | refine ev_gos 99 rfl ?_ | refine ev_gf2 rfl rfl rfl rfl ?_ | refine ev_gf2 rfl rfl HH_land rfl ?_ | refine ev_gf2 rfl rfl HH_draft rfl ?_ | refine ev_gf2 rfl rfl (by with_reducible assumption) rfl ?_)
      refine ev_cs rfl rfl rfl (e_lowest sc _ _ h0) ?_
      refine ev_cv rfl rfl rfl (e_mgroup hM hX (lo_spec h0).2.1) ?_
      rw [show grpS W (W * H) X (bit (lo X)) = fgS W (W * H) X by unfold fgS; rw [lowbit h0]; rfl]
      repeat (first | refine ev_gos 99 rfl ?_ | refine ev_gf2 rfl rfl rfl rfl ?_ | refine ev_gf2 rfl rfl HH_land rfl ?_ | refine ev_gf2 rfl rfl HH_draft rfl ?_ | refine ev_gf2 rfl rfl (by with_reducible assumption) rfl ?_)
      refine ev_cs rfl rfl rfl (e_bits sc _ _ _) ?_
      refine ev_cs rfl rfl rfl (e_counted sc _ _ (n := pop (fgS W (W * H) X)) (by have := pop_le (fgS W (W * H) X); omega)) ?_
      repeat (first | refine ev_gos 99 rfl ?_ | refine ev_gf2 rfl rfl rfl rfl ?_ | refine ev_gf2 rfl rfl HH_land rfl ?_ | refine ev_gf2 rfl rfl HH_draft rfl ?_ | refine ev_gf2 rfl rfl (by with_reducible assumption) rfl ?_)
      rw [gfd_s h0]
      have h3 := ih (a + cntd (pop (fgS W (W * H) X))) (X &&& (fgS W (W * H) X ^^^ (-1))) (by have := rest_lt W (W * H) h0; omega) (SB_WI (rest_sub X _) hX)
      rw [← nI_add] at h3
      exact ev_wk2 h3 rfl (by repeat' (first | exact trivial | refine ⟨rfl, ?_⟩))
theorem e_mcountS (hM : MN (A 27) rk W H P) : Ev sc (d + 3) m_M_countOn 0 (iniL 7 [.ref 26, .ref 30]) [] (HH w s l A B) (some (.int (nI (cntS W (W * H) (dnS (A 30) 3 (W * H)))))) (HH w s l A B) := by
  have h49 := hM.n49
  repeat (first | refine ev_gos 99 rfl ?_ | refine ev_gf2 rfl rfl rfl rfl ?_ | refine ev_gf2 rfl rfl HH_land rfl ?_ | refine ev_gf2 rfl rfl HH_draft rfl ?_ | refine ev_gf2 rfl rfl (by with_reducible assumption) rfl ?_)
  refine ev_cv rfl rfl rfl (e_mdentS hM 3) ?_
  repeat (first | refine ev_gos 99 rfl ?_ | refine ev_gf2 rfl rfl rfl rfl ?_ | refine ev_gf2 rfl rfl HH_land rfl ?_ | refine ev_gf2 rfl rfl HH_draft rfl ?_ | refine ev_gf2 rfl rfl (by with_reducible assumption) rfl ?_)
  exact e_mcountS_loop hM 49 0 _ (Nat.le_trans (pop_WI (WI_dn _ _ _) h49) h49) (WI_dn _ _ _)
end MSH
