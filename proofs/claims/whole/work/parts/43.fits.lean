/-! the class: the least that fits, the tally -/
section FIT
variable {sc : Scr} {d : Nat} {w : Bool} {s : Nat → Int32} {l : Nat → Int64} {A : Nat → Nat → Int32} {B : Nat → Nat → Int64} {W H P : Nat}
theorem e_least_in (hN : CN s l A B W H P) {m : Nat} (hF : FD s A (W * H) m) {k : Nat} (hk : k < 5) (hout : fo (lfK (fitB (B 5) (A 22) (A 23) m) (W * H)) (k + 1) (-1) = -1 → Ev sc (d + 3) m_C_leastFit 4 [some (.ref 0), some (.int (nI (k + 1))), none] [.int 5, .int (nI (k + 1))] (HH w s l A B) (some (.int (fo (lfK (fitB (B 5) (A 22) (A 23) m) (W * H)) 5 (-1)))) (HH w s l A B)) : ∀ (n i : Nat), i + n = W * H → fo (lfC (fitB (B 5) (A 22) (A 23) m) k) i (fo (lfK (fitB (B 5) (A 22) (A 23) m) (W * H)) k (-1)) = -1 → Ev sc (d + 3) m_C_leastFit 14 [some (.ref 0), some (.int (nI k)), some (.int (nI i))] [.ref (wL w), .int (nI i)] (HH w s l A B) (some (.int (fo (lfK (fitB (B 5) (A 22) (A 23) m) (W * H)) 5 (-1)))) (HH w s l A B) := by
  have h49 := hN.n49
  intro n
  induction n with
  | zero =>
    intro i hi hp
    have e : i = W * H := by omega
    subst e
    refine ev_cv rfl rfl HH_land (e_cells HH_land) ?_
    rw [hN.cells]
    refine ev_ift rfl rfl rfl (c_ge ((nI_leI (by omega) (by omega)).mpr (by omega))) ?_
    repeat (first | refine ev_gos 99 rfl ?_ | refine ev_gf2 rfl rfl rfl rfl ?_ | refine ev_gf2 rfl rfl HH_land rfl ?_ | refine ev_gf2 rfl rfl HH_draft rfl ?_ | refine ev_gf2 rfl rfl (by with_reducible assumption) rfl ?_)
    have h3 := hout hp
    rw [← nI_1] at h3
    exact ev_wk2 h3 rfl (by repeat' (first | exact trivial | refine ⟨rfl, ?_⟩))
  | succ n ih =>
    intro i hi hp
    refine ev_cv rfl rfl HH_land (e_cells HH_land) ?_
    rw [hN.cells]
    refine ev_iff rfl rfl rfl (d_ge (nI_lt3 (by omega) (by omega) (by omega))) ?_
    repeat (first | refine ev_gos 99 rfl ?_ | refine ev_gf2 rfl rfl rfl rfl ?_ | refine ev_gf2 rfl rfl HH_land rfl ?_ | refine ev_gf2 rfl rfl HH_draft rfl ?_ | refine ev_gf2 rfl rfl (by with_reducible assumption) rfl ?_)
    refine ev_cv rfl rfl rfl (e_fitsFound h49 hF hk (c := i) (by omega)) ?_
    have hst : fo (lfC (fitB (B 5) (A 22) (A 23) m) k) (i + 1) (fo (lfK (fitB (B 5) (A 22) (A 23) m) (W * H)) k (-1)) = bif fitB (B 5) (A 22) (A 23) m k i then nI (100 * k + i) else -1 := by
      show lfC _ k i (fo (lfC (fitB (B 5) (A 22) (A 23) m) k) i _) = _
      rw [hp]
      rfl
    cases hb : fitB (B 5) (A 22) (A 23) m k i with
    | false =>
      rw [hb] at hst
      refine ev_ift rfl rfl rfl rfl ?_
      repeat (first | refine ev_gos 99 rfl ?_ | refine ev_gf2 rfl rfl rfl rfl ?_ | refine ev_gf2 rfl rfl HH_land rfl ?_ | refine ev_gf2 rfl rfl HH_draft rfl ?_ | refine ev_gf2 rfl rfl (by with_reducible assumption) rfl ?_)
      have h3 := ih (i + 1) (by omega) hst
      rw [← nI_1] at h3
      exact h3
    | true =>
      rw [hb] at hst
      refine ev_iff rfl rfl rfl rfl ?_
      repeat (first | refine ev_gos 99 rfl ?_ | refine ev_gf2 rfl rfl rfl rfl ?_ | refine ev_gf2 rfl rfl HH_land rfl ?_ | refine ev_gf2 rfl rfl HH_draft rfl ?_ | refine ev_gf2 rfl rfl (by with_reducible assumption) rfl ?_)
      have hne : ¬ nI (100 * k + i) = -1 := by
        intro z
        rw [fa_eq, nI_toInt (by omega)] at z
        have : (-1 : Int32).toInt = -1 := by decide
        omega
      refine ev_ri rfl ?_ rfl
      show nI 100 * nI k + nI i = _
      rw [pk_mul, nI_add]
      have h4 := fo_lfC2 hst hne n
      rw [show i + 1 + n = W * H by omega] at h4
      have h5 := fo_lfK2 (f := fitB (B 5) (A 22) (A 23) m) (N := W * H) (i := k + 1) (a := -1) (b := nI (100 * k + i)) h4 hne (4 - k)
      rw [show k + 1 + (4 - k) = 5 by omega] at h5
      exact h5.symm
theorem e_least_out (hN : CN s l A B W H P) {m : Nat} (hF : FD s A (W * H) m) : ∀ (n k : Nat), k + n = 5 → fo (lfK (fitB (B 5) (A 22) (A 23) m) (W * H)) k (-1) = -1 → Ev sc (d + 3) m_C_leastFit 4 [some (.ref 0), some (.int (nI k)), none] [.int 5, .int (nI k)] (HH w s l A B) (some (.int (fo (lfK (fitB (B 5) (A 22) (A 23) m) (W * H)) 5 (-1)))) (HH w s l A B) := by
  intro n
  induction n with
  | zero =>
    intro k hk hp
    have e : k = 5 := by omega
    subst e
    refine ev_ift rfl rfl rfl (c_ge (by decide : (5 : Int32) ≤ nI 5)) ?_
    repeat (first | refine ev_gos 99 rfl ?_ | refine ev_gf2 rfl rfl rfl rfl ?_ | refine ev_gf2 rfl rfl HH_land rfl ?_ | refine ev_gf2 rfl rfl HH_draft rfl ?_ | refine ev_gf2 rfl rfl (by with_reducible assumption) rfl ?_)
    exact ev_ri rfl hp.symm rfl
  | succ n ih =>
    intro k hk hp
    refine ev_iff rfl rfl rfl (d_ge (nI_lt3 (b := 5) (by omega) (by omega) (by omega))) ?_
    repeat (first | refine ev_gos 99 rfl ?_ | refine ev_gf2 rfl rfl rfl rfl ?_ | refine ev_gf2 rfl rfl HH_land rfl ?_ | refine ev_gf2 rfl rfl HH_draft rfl ?_ | refine ev_gf2 rfl rfl (by with_reducible assumption) rfl ?_)
    exact e_least_in hN hF (k := k) (by omega) (fun h => ih (k + 1) (by omega) h) (W * H) 0 (Nat.zero_add _) hp
theorem e_least (hN : CN s l A B W H P) {m : Nat} (hF : FD s A (W * H) m) : Ev sc (d + 3) m_C_leastFit 0 (iniL 3 [.ref 0]) [] (HH w s l A B) (some (.int (fo (lfK (fitB (B 5) (A 22) (A 23) m) (W * H)) 5 (-1)))) (HH w s l A B) := by
  repeat (first | refine ev_gos 99 rfl ?_ | refine ev_gf2 rfl rfl rfl rfl ?_ | refine ev_gf2 rfl rfl HH_land rfl ?_ | refine ev_gf2 rfl rfl HH_draft rfl ?_ | refine ev_gf2 rfl rfl (by with_reducible assumption) rfl ?_)
  exact e_least_out hN hF 5 0 rfl rfl
theorem e_tallyC_loop (x : Int64) (f : Nat → Int32) : ∀ (n i : Nat), i + n = 49 → Ev sc (d + 1) m_C_tallyCells 5 [some (.ref 0), some (.long x), none, some (.int (nI i))] [.int 49, .int (nI i)] (HH w s l (upA A 25 (mapP (tlF x) f i)) B) none (HH w s l (upA A 25 (mapP (tlF x) f 49)) B) := by
  intro n
  induction n with
  | zero =>
    intro i hi
    have e : i = 49 := by omega
    subst e
    refine ev_ift rfl rfl rfl (c_ge (by decide : (49 : Int32) ≤ nI 49)) ?_
    exact ev_rv rfl rfl
  | succ n ih =>
    intro i hi
    refine ev_iff rfl rfl rfl (d_ge (nI_lt3 (by omega) (by decide) (by omega) : ¬ nI 49 ≤ nI i)) ?_
    repeat (first | refine ev_gos 99 rfl ?_ | refine ev_gf2 rfl rfl rfl rfl ?_ | refine ev_gf2 rfl rfl HH_land rfl ?_ | refine ev_gf2 rfl rfl HH_draft rfl ?_ | refine ev_gf2 rfl rfl (by with_reducible assumption) rfl ?_)
    refine ev_cs rfl rfl rfl (e_has sc d _ x (k := i) (by omega)) ?_
    have h3 := ih (i + 1) (by omega)
    rw [← nI_1] at h3
    cases hb : bs x i with
    | true =>
      refine ev_iff rfl rfl rfl rfl ?_
      repeat (first | refine ev_gos 99 rfl ?_ | refine ev_gf2 rfl rfl rfl rfl ?_ | refine ev_gf2 rfl rfl HH_land rfl ?_ | refine ev_gf2 rfl rfl HH_draft rfl ?_ | refine ev_gf2 rfl rfl (by with_reducible assumption) rfl ?_)
      refine ev_ia rfl rfl (inI (by omega) (by decide)) ?_
      rw [nI_clamp (by omega), upA_at, mapP_at]
      repeat (first | refine ev_gos 99 rfl ?_ | refine ev_gf2 rfl rfl rfl rfl ?_ | refine ev_gf2 rfl rfl HH_land rfl ?_ | refine ev_gf2 rfl rfl HH_draft rfl ?_ | refine ev_gf2 rfl rfl (by with_reducible assumption) rfl ?_)
      refine it_25 rfl (inI (by omega) (by decide)) ?_
      rw [nI_clamp (by omega)]
      rw [← mapP_s, show tlF x i (f i) = f i + 1 by unfold tlF; rw [hb]; rfl] at h3
      repeat (first | refine ev_gos 99 rfl ?_ | refine ev_gf2 rfl rfl rfl rfl ?_ | refine ev_gf2 rfl rfl HH_land rfl ?_ | refine ev_gf2 rfl rfl HH_draft rfl ?_ | refine ev_gf2 rfl rfl (by with_reducible assumption) rfl ?_)
      exact h3
    | false =>
      refine ev_ift rfl rfl rfl rfl ?_
      repeat (first | refine ev_gos 99 rfl ?_ | refine ev_gf2 rfl rfl rfl rfl ?_ | refine ev_gf2 rfl rfl HH_land rfl ?_ | refine ev_gf2 rfl rfl HH_draft rfl ?_ | refine ev_gf2 rfl rfl (by with_reducible assumption) rfl ?_)
      rw [← mapP_n (F := tlF x) (f := f) (n := i) (by unfold tlF; rw [hb]; rfl)] at h3
      exact h3
theorem e_tallyC (x : Int64) (f : Nat → Int32) : Ev sc (d + 1) m_C_tallyCells 0 (iniL 4 [.ref 0, .long x]) [] (HH w s l (upA A 25 f) B) none (HH w s l (upA A 25 (mapP (tlF x) f 49)) B) := by
  repeat (first | refine ev_gos 99 rfl ?_ | refine ev_gf2 rfl rfl rfl rfl ?_ | refine ev_gf2 rfl rfl HH_land rfl ?_ | refine ev_gf2 rfl rfl HH_draft rfl ?_ | refine ev_gf2 rfl rfl (by with_reducible assumption) rfl ?_)
  have h3 := e_tallyC_loop (sc := sc) (d := d) (w := w) (s := s) (l := l) (A := A) (B := B) x f 49 0 rfl
  rw [mapP_0] at h3
  exact h3
theorem e_tally_in (hN : CN s l A B W H P) {m : Nat} (hF : FD s A (W * H) m) {k : Nat} (hk : k < 5) (g f : Nat → Int32) {h' : AHp} (hout : Ev sc (d + 3) m_C_tallyFits 12 [some (.ref 0), some (.int (nI (k + 1))), none] [.int 5, .int (nI (k + 1))] (HH w s l (upA A 25 (tlK (B 5) (fitB (B 5) (A 22) (A 23) m) (W * H) k f)) B) none h') : ∀ (n i : Nat), i + n = W * H → Ev sc (d + 3) m_C_tallyFits 22 [some (.ref 0), some (.int (nI k)), some (.int (nI i))] [.ref (wL w), .int (nI i)] (HH w s l (upA A 25 (fo (tlC (B 5) (fitB (B 5) (A 22) (A 23) m) k) i f)) B) none h' := by
  have h49 := hN.n49
  intro n
  induction n with
  | zero =>
    intro i hi
    have e : i = W * H := by omega
    subst e
    refine ev_cv rfl rfl HH_land (e_cells HH_land) ?_
    rw [hN.cells]
    refine ev_ift rfl rfl rfl (c_ge ((nI_leI (by omega) (by omega)).mpr (by omega))) ?_
    repeat (first | refine ev_gos 99 rfl ?_ | refine ev_gf2 rfl rfl rfl rfl ?_ | refine ev_gf2 rfl rfl HH_land rfl ?_ | refine ev_gf2 rfl rfl HH_draft rfl ?_ | refine ev_gf2 rfl rfl (by with_reducible assumption) rfl ?_)
    have h3 := hout
    rw [← nI_1] at h3
    exact ev_wk2 h3 rfl (by repeat' (first | exact trivial | refine ⟨rfl, ?_⟩))
  | succ n ih =>
    intro i hi
    refine ev_cv rfl rfl HH_land (e_cells HH_land) ?_
    rw [hN.cells]
    refine ev_iff rfl rfl rfl (d_ge (nI_lt3 (by omega) (by omega) (by omega))) ?_
    repeat (first | refine ev_gos 99 rfl ?_ | refine ev_gf2 rfl rfl rfl rfl ?_ | refine ev_gf2 rfl rfl HH_land rfl ?_ | refine ev_gf2 rfl rfl HH_draft rfl ?_ | refine ev_gf2 rfl rfl (by with_reducible assumption) rfl ?_)
    refine ev_cv rfl rfl rfl (e_fitsFound (N := W * H) (m := m) (A := upA A 25 (fo (tlC (B 5) (fitB (B 5) (A 22) (A 23) m) k) i f)) h49 hF hk (c := i) (by omega)) ?_
    refine (?_ : Ek sc (d + 3) m_C_tallyFits 34 _ [.int (b01 (fitB (B 5) (A 22) (A 23) m k i))] _ _ _ _ _)
    have h3 := ih (i + 1) (by omega)
    have hst : fo (tlC (B 5) (fitB (B 5) (A 22) (A 23) m) k) (i + 1) f = tlC (B 5) (fitB (B 5) (A 22) (A 23) m) k i (fo (tlC (B 5) (fitB (B 5) (A 22) (A 23) m) k) i f) := rfl
    rw [← nI_1, hst] at h3
    unfold tlC at h3
    cases hb : fitB (B 5) (A 22) (A 23) m k i with
    | false =>
      rw [hb] at h3
      refine ev_ift rfl rfl rfl rfl ?_
      repeat (first | refine ev_gos 99 rfl ?_ | refine ev_gf2 rfl rfl rfl rfl ?_ | refine ev_gf2 rfl rfl HH_land rfl ?_ | refine ev_gf2 rfl rfl HH_draft rfl ?_ | refine ev_gf2 rfl rfl (by with_reducible assumption) rfl ?_)
      exact h3
    | true =>
      rw [hb] at h3
      refine ev_iff rfl rfl rfl rfl ?_
      repeat (first | refine ev_gos 99 rfl ?_ | refine ev_gf2 rfl rfl rfl rfl ?_ | refine ev_gf2 rfl rfl HH_land rfl ?_ | refine ev_gf2 rfl rfl HH_draft rfl ?_ | refine ev_gf2 rfl rfl (by with_reducible assumption) rfl ?_)
      refine ev_cv rfl rfl HH_land (e_shape HH_land HH_shapes hk (by omega)) ?_
      refine ev_cv rfl rfl rfl (e_tallyC _ _) ?_
      repeat (first | refine ev_gos 99 rfl ?_ | refine ev_gf2 rfl rfl rfl rfl ?_ | refine ev_gf2 rfl rfl HH_land rfl ?_ | refine ev_gf2 rfl rfl HH_draft rfl ?_ | refine ev_gf2 rfl rfl (by with_reducible assumption) rfl ?_)
      exact h3
theorem e_tally_out (hN : CN s l A B W H P) {m : Nat} (hF : FD s A (W * H) m) (f : Nat → Int32) : ∀ (n k : Nat), k + n = 5 → Ev sc (d + 3) m_C_tallyFits 12 [some (.ref 0), some (.int (nI k)), none] [.int 5, .int (nI k)] (HH w s l (upA A 25 (fo (tlK (B 5) (fitB (B 5) (A 22) (A 23) m) (W * H)) k f)) B) none (HH w s l (upA A 25 (fo (tlK (B 5) (fitB (B 5) (A 22) (A 23) m) (W * H)) 5 f)) B) := by
  intro n
  induction n with
  | zero =>
    intro k hk
    have e : k = 5 := by omega
    subst e
    refine ev_ift rfl rfl rfl (c_ge (by decide : (5 : Int32) ≤ nI 5)) ?_
    exact ev_rv rfl rfl
  | succ n ih =>
    intro k hk
    refine ev_iff rfl rfl rfl (d_ge (nI_lt3 (b := 5) (by omega) (by omega) (by omega))) ?_
    repeat (first | refine ev_gos 99 rfl ?_ | refine ev_gf2 rfl rfl rfl rfl ?_ | refine ev_gf2 rfl rfl HH_land rfl ?_ | refine ev_gf2 rfl rfl HH_draft rfl ?_ | refine ev_gf2 rfl rfl (by with_reducible assumption) rfl ?_)
    exact e_tally_in hN hF (k := k) (by omega) f (fo (tlK (B 5) (fitB (B 5) (A 22) (A 23) m) (W * H)) k f) (ih (k + 1) (by omega)) (W * H) 0 (Nat.zero_add _)
theorem e_tally (hN : CN s l A B W H P) {m : Nat} (hF : FD s A (W * H) m) : Ev sc (d + 3) m_C_tallyFits 0 (iniL 3 [.ref 0]) [] (HH w s l A B) none (HH w s l (upA A 25 (fo (tlK (B 5) (fitB (B 5) (A 22) (A 23) m) (W * H)) 5 (mapP (fun _ _ => 0) (A 25) 49))) B) := by
  repeat (first | refine ev_gos 99 rfl ?_ | refine ev_gf2 rfl rfl rfl rfl ?_ | refine ev_gf2 rfl rfl HH_land rfl ?_ | refine ev_gf2 rfl rfl HH_draft rfl ?_ | refine ev_gf2 rfl rfl (by with_reducible assumption) rfl ?_)
  refine ev_cs rfl rfl rfl (e_fill (h := HH w s l A B) (q := 25) (m := 49) (f := A 25) rfl (by decide) 0) ?_
  rw [HA_25]
  repeat (first | refine ev_gos 99 rfl ?_ | refine ev_gf2 rfl rfl rfl rfl ?_ | refine ev_gf2 rfl rfl HH_land rfl ?_ | refine ev_gf2 rfl rfl HH_draft rfl ?_ | refine ev_gf2 rfl rfl (by with_reducible assumption) rfl ?_)
  exact e_tally_out hN hF _ 5 0 rfl
theorem e_ten_loop (h : AHp) {p : Nat} (hp : p ≤ 5) : ∀ (n i : Nat), i + n = p → Ev sc d m_C_tenToThe 6 [some (.int (nI p)), some (.long (lN (10 ^ i))), none, some (.int (nI i))] [.int (nI p), .int (nI i)] h (some (.long (lN (10 ^ p)))) h := by
  intro n
  induction n with
  | zero =>
    intro i hi
    have e : i = p := by omega
    subst e
    refine ev_ift rfl rfl rfl (c_ge ((nI_leI (by omega) (by omega)).mpr (by omega))) ?_
    repeat (first | refine ev_gos 99 rfl ?_ | refine ev_gf2 rfl rfl rfl rfl ?_ | refine ev_gf2 rfl rfl HH_land rfl ?_ | refine ev_gf2 rfl rfl HH_draft rfl ?_ | refine ev_gf2 rfl rfl (by with_reducible assumption) rfl ?_)
    exact ev_rl rfl rfl rfl
  | succ n ih =>
    intro i hi
    refine ev_iff rfl rfl rfl (d_ge (nI_lt3 (by omega) (by omega) (by omega))) ?_
    repeat (first | refine ev_gos 99 rfl ?_ | refine ev_gf2 rfl rfl rfl rfl ?_ | refine ev_gf2 rfl rfl HH_land rfl ?_ | refine ev_gf2 rfl rfl HH_draft rfl ?_ | refine ev_gf2 rfl rfl (by with_reducible assumption) rfl ?_)
    have h3 := ih (i + 1) (by omega)
    rw [← nI_1, Nat.pow_succ, ← lN_mul] at h3
    exact h3
theorem e_ten (h : AHp) {p : Nat} (hp : p ≤ 5) : Ev sc d m_C_tenToThe 0 (iniL 4 [.int (nI p)]) [] h (some (.long (lN (10 ^ p)))) h := by
  repeat (first | refine ev_gos 99 rfl ?_ | refine ev_gf2 rfl rfl rfl rfl ?_ | refine ev_gf2 rfl rfl HH_land rfl ?_ | refine ev_gf2 rfl rfl HH_draft rfl ?_ | refine ev_gf2 rfl rfl (by with_reducible assumption) rfl ?_)
  exact e_ten_loop h hp p 0 (Nat.zero_add p)
end FIT
