/-! both sides: where to look next -/
theorem cntB_sub {f g : Nat → Bool} (h : ∀ i, f i = true → g i = true) : ∀ n, cntB f n ≤ cntB g n
  | 0 => Nat.le_refl _
  | n + 1 => by
    have ih := cntB_sub h n
    show cntB f n + (bif f n then 1 else 0) ≤ cntB g n + (bif g n then 1 else 0)
    cases hf : f n with
    | false =>
      show cntB f n + 0 ≤ _
      omega
    | true =>
      rw [h n hf]
      show cntB f n + 1 ≤ cntB g n + 1
      omega
theorem sumB_sub {f g : Nat → Nat → Bool} (h : ∀ k i, f k i = true → g k i = true) (N : Nat) : ∀ n, sumB f N n ≤ sumB g N n
  | 0 => Nat.le_refl _
  | n + 1 => by
    have ih := sumB_sub h N n
    have h2 := cntB_sub (h n) N
    show sumB f N n + cntB (f n) N ≤ sumB g N n + cntB (g n) N
    omega
theorem sumB_le (f : Nat → Nat → Bool) (N : Nat) : ∀ n, sumB f N n ≤ N * n
  | 0 => Nat.le_refl _
  | n + 1 => by
    have ih := sumB_le f N n
    have h2 := cntB_le (f n) N
    show sumB f N n + cntB (f n) N ≤ N * (n + 1)
    rw [Nat.mul_succ]
    omega
theorem cntB_cong {f g : Nat → Bool} : ∀ n, (∀ i, i < n → f i = g i) → cntB f n = cntB g n
  | 0, _ => rfl
  | n + 1, h => by
    show cntB f n + (bif f n then 1 else 0) = cntB g n + (bif g n then 1 else 0)
    rw [cntB_cong n (fun i hi => h i (by omega)), h n (by omega)]
theorem sumB_cong {f g : Nat → Nat → Bool} {N : Nat} : ∀ n, (∀ k i, k < n → i < N → f k i = g k i) → sumB f N n = sumB g N n
  | 0, _ => rfl
  | n + 1, h => by
    show sumB f N n + cntB (f n) N = sumB g N n + cntB (g n) N
    rw [sumB_cong n (fun k i hk hi => h k i (by omega) hi), cntB_cong N (fun i hi => h n i (by omega) hi)]
/-- how many that fit have the cell j -/
def dtB (sh : Nat → Int64) (f : Nat → Nat → Bool) (j k t : Nat) : Bool := f k t && bs (sh (k * 49 + t)) j
theorem tl_C (sh : Nat → Int64) (f : Nat → Nat → Bool) (k : Nat) (t : Nat → Int32) {j : Nat} (hj : j < 49) : ∀ n, fo (tlC sh f k) n t j = t j + nI (cntB (dtB sh f j k) n)
  | 0 => (Int32.add_zero _).symm
  | n + 1 => by
    have ih := tl_C sh f k t hj n
    show tlC sh f k n (fo (tlC sh f k) n t) j = t j + nI (cntB (dtB sh f j k) n + (bif f k n && bs (sh (k * 49 + n)) j then 1 else 0))
    unfold tlC at ih ⊢
    cases hf : f k n with
    | false => exact ih
    | true =>
      show mapP (tlF (sh (k * 49 + n))) _ 49 j = _
      rw [mapP_in hj, ih]
      unfold tlF
      cases hb : bs (sh (k * 49 + n)) j with
      | false => rfl
      | true =>
        show t j + nI (cntB (dtB sh f j k) n) + 1 = t j + nI (cntB (dtB sh f j k) n + 1)
        rw [Int32.add_assoc, nI_1]
theorem tl_K (sh : Nat → Int64) (f : Nat → Nat → Bool) (N : Nat) (t : Nat → Int32) {j : Nat} (hj : j < 49) : ∀ n, fo (tlK sh f N) n t j = t j + nI (sumB (dtB sh f j) N n)
  | 0 => (Int32.add_zero _).symm
  | n + 1 => by
    have ih := tl_K sh f N t hj n
    show fo (tlC sh f n) N (fo (tlK sh f N) n t) j = t j + nI (sumB (dtB sh f j) N n + cntB (dtB sh f j n) N)
    rw [tl_C sh f n _ hj N, ih, Int32.add_assoc, nI_add]
/-- the best cell so far, its greater part -/
def lkF (q : Nat) (dt : Nat → Nat) (c : Nat) (a : Int32 × Nat) : Int32 × Nat := if max (dt c) (q - dt c) < a.2 then (nI c, max (dt c) (q - dt c)) else a
theorem max_nI {a b : Nat} (ha : a < 2 ^ 31) (hb : b < 2 ^ 31) : (if nI a < nI b then nI b else nI a) = nI (max a b) ∧ (if nI b < nI a then nI a else nI b) = nI (max a b) := by
  refine ⟨?_, ?_⟩
  · by_cases h : a < b
    · rw [if_pos ((nI_ltI ha hb).mpr h), Nat.max_eq_right (by omega)]
    · rw [if_neg (fun z => h ((nI_ltI ha hb).mp z)), Nat.max_eq_left (by omega)]
  · by_cases h : b < a
    · rw [if_pos ((nI_ltI hb ha).mpr h), Nat.max_eq_left (by omega)]
    · rw [if_neg (fun z => h ((nI_ltI hb ha).mp z)), Nat.max_eq_right (by omega)]
theorem min_nI {a b : Nat} (ha : a < 2 ^ 31) (hb : b < 2 ^ 31) : (if nI a < nI b then nI a else nI b) = nI (if a < b then a else b) := by
  by_cases h : a < b
  · rw [if_pos ((nI_ltI ha hb).mpr h), if_pos h]
  · rw [if_neg (fun z => h ((nI_ltI ha hb).mp z)), if_neg h]
theorem lk_le {q : Nat} {dt : Nat → Nat} : ∀ n, (fo (lkF q dt) n (-1, q)).2 ≤ q
  | 0 => Nat.le_refl _
  | n + 1 => by
    have ih := lk_le (q := q) (dt := dt) n
    show (lkF q dt n (fo (lkF q dt) n (-1, q))).2 ≤ q
    unfold lkF at ih ⊢
    split
    · rename_i h
      exact Nat.le_trans (Nat.le_of_lt h) ih
    · exact ih
section LOK
variable {sc : Scr} {d : Nat} {w : Bool} {s : Nat → Int32} {l : Nat → Int64} {A : Nat → Nat → Int32} {B : Nat → Nat → Int64} {W H P fi c : Nat}
theorem e_look_loop (hN : CN s l A B W H P) {q : Nat} {dt : Nat → Nat} (hq : q ≤ 245) (hd : ∀ c, dt c ≤ q) {t : Nat → Int32} (ht : ∀ c, c < 49 → t c = nI (dt c)) : ∀ (n i : Nat), i + n = W * H → Ev sc (d + 1) m_C_look 22 [some (.ref 0), some (.int (nI q)), some (.int (fo (lkF q dt) i (-1, q)).1), some (.int (nI (fo (lkF q dt) i (-1, q)).2)), some (.int (nI i)), none] [.ref (wL w), .int (nI i)] (HH w s l (upA A 25 t) B) (some (.int (fo (lkF q dt) (W * H) (-1, q)).1)) (HH w s l (upA A 25 t) B) := by
  have h49 := hN.n49
  intro n
  induction n with
  | zero =>
    intro i hi
    have e : i = W * H := by omega
    refine ev_cv rfl rfl HH_land (e_cells HH_land) ?_
    refine (?_ : Ek sc _ m_C_look 25 _ [.int (s 15 * s 16), .int (nI i)] _ _ _ _ _)
    rw [hN.cells, ← e]
    refine ev_ift rfl rfl rfl (c_ge ((nI_leI (by omega) (by omega)).mpr (by omega))) ?_
    repeat (first | refine ev_gos 99 rfl ?_ | refine ev_gf2 rfl rfl rfl rfl ?_ | refine ev_gf2 rfl rfl HH_land rfl ?_ | refine ev_gf2 rfl rfl HH_draft rfl ?_ | refine ev_gf2 rfl rfl (by with_reducible assumption) rfl ?_)
    exact ev_ri rfl rfl rfl
  | succ n ih =>
    intro i hi
    have h3 := ih (i + 1) (by omega)
    have e5 : fo (lkF q dt) (i + 1) (-1, q) = lkF q dt i (fo (lkF q dt) i (-1, q)) := rfl
    have hle := lk_le (q := q) (dt := dt) i
    rw [e5, ← nI_1 i] at h3
    unfold lkF at h3
    change Ev sc (d + 1) m_C_look 22 [some (.ref 0), some (.int (nI q)), some (.int (if max (dt i) (q - dt i) < (fo (lkF q dt) i (-1, q)).2 then (nI i, max (dt i) (q - dt i)) else fo (lkF q dt) i (-1, q)).1), some (.int (nI (if max (dt i) (q - dt i) < (fo (lkF q dt) i (-1, q)).2 then (nI i, max (dt i) (q - dt i)) else fo (lkF q dt) i (-1, q)).2)), some (.int (nI i + 1)), none] [.ref (wL w), .int (nI i + 1)] (HH w s l (upA A 25 t) B) (some (.int (fo (lkF q dt) (W * H) (-1, q)).1)) (HH w s l (upA A 25 t) B) at h3
    generalize fo (lkF q dt) (W * H) (-1, q) = FF at h3 ⊢
    generalize fo (lkF q dt) i (-1, q) = a at h3 hle ⊢
    have hdi := hd i
    refine ev_cv rfl rfl HH_land (e_cells HH_land) ?_
    refine (?_ : Ek sc _ m_C_look 25 _ [.int (s 15 * s 16), .int (nI i)] _ _ _ _ _)
    rw [hN.cells]
    refine ev_iff rfl rfl rfl (d_ge (nI_lt3 (by omega) (by omega) (by omega))) ?_
    repeat (first | refine ev_gos 99 rfl ?_ | refine ev_gf2 rfl rfl rfl rfl ?_ | refine ev_gf2 rfl rfl HH_land rfl ?_ | refine ev_gf2 rfl rfl HH_draft rfl ?_ | refine ev_gf2 rfl rfl (by with_reducible assumption) rfl ?_)
    refine ev_ix i rfl rfl rfl (by omega) (by decide) ?_
    rw [upA_at, ht i (by omega)]
    repeat (first | refine ev_gos 99 rfl ?_ | refine ev_gf2 rfl rfl rfl rfl ?_ | refine ev_gf2 rfl rfl HH_land rfl ?_ | refine ev_gf2 rfl rfl HH_draft rfl ?_ | refine ev_gf2 rfl rfl (by with_reducible assumption) rfl ?_)
    refine ev_ix i rfl rfl rfl (by omega) (by decide) ?_
    rw [upA_at, ht i (by omega)]
    repeat (first | refine ev_gos 99 rfl ?_ | refine ev_gf2 rfl rfl rfl rfl ?_ | refine ev_gf2 rfl rfl HH_land rfl ?_ | refine ev_gf2 rfl rfl HH_draft rfl ?_ | refine ev_gf2 rfl rfl (by with_reducible assumption) rfl ?_)
    refine ev_hw rfl rfl rfl ?_
    have e9 : nI q - nI (dt i) = nI (q - dt i) := pk_sub hdi
    refine (?_ : Ek sc _ m_C_look 47 _ [.int (if nI (dt i) < nI q - nI (dt i) then nI q - nI (dt i) else nI (dt i))] _ _ _ _ _)
    rw [e9, (max_nI (by omega) (by omega)).1]
    have hmx : max (dt i) (q - dt i) ≤ 245 := Nat.max_le.mpr ⟨by omega, by omega⟩
    generalize max (dt i) (q - dt i) = g at h3 hmx ⊢
    repeat (first | refine ev_gos 99 rfl ?_ | refine ev_gf2 rfl rfl rfl rfl ?_ | refine ev_gf2 rfl rfl HH_land rfl ?_ | refine ev_gf2 rfl rfl HH_draft rfl ?_ | refine ev_gf2 rfl rfl (by with_reducible assumption) rfl ?_)
    by_cases hg : g < a.2
    · rw [if_pos hg] at h3
      refine ev_iff rfl rfl rfl (d_ge (nI_lt3 (by omega) (by omega) (by omega))) ?_
      repeat (first | refine ev_gos 99 rfl ?_ | refine ev_gf2 rfl rfl rfl rfl ?_ | refine ev_gf2 rfl rfl HH_land rfl ?_ | refine ev_gf2 rfl rfl HH_draft rfl ?_ | refine ev_gf2 rfl rfl (by with_reducible assumption) rfl ?_)
      exact ev_wk2 h3 rfl (by repeat' (first | exact trivial | refine ⟨rfl, ?_⟩))
    · rw [if_neg hg] at h3
      refine ev_ift rfl rfl rfl (c_ge ((nI_leI (by omega) (by omega)).mpr (by omega))) ?_
      repeat (first | refine ev_gos 99 rfl ?_ | refine ev_gf2 rfl rfl rfl rfl ?_ | refine ev_gf2 rfl rfl HH_land rfl ?_ | refine ev_gf2 rfl rfl HH_draft rfl ?_ | refine ev_gf2 rfl rfl (by with_reducible assumption) rfl ?_)
      exact ev_wk2 h3 rfl (by repeat' (first | exact trivial | refine ⟨rfl, ?_⟩))
theorem e_mlook_in (h : INV s l A B W H P fi c) {m : Nat} (hm : m ≤ 6) (hs : s 26 = nI m) (hf : ∀ i, i < m → (∃ q, q < W * H ∧ A 22 i = nI q) ∧ A 36 (2 * i) = A 22 i ∧ ∃ b, A 23 i = b01 b ∧ A 36 (2 * i + 1) = b01 b) (x y z : Int32) {j : Nat} (hj : j < W * H) {k : Nat} (hk : k < 5) (n0 : Nat) {r : Option Value} {h' : AHp} (hout : Ev sc (d + 5) m_M_look 31 [some (.ref 26), some (.int x), some (.int y), some (.int z), some (.int (nI j)), some (.int (nI (n0 + cntB (dtB (B 5) (fitB (B 5) (A 22) (A 23) m) j k) (W * H)))), some (.int (nI (k + 1))), none] [.int 5, .int (nI (k + 1))] (HH w s l A B) r h') : ∀ (n i : Nat), i + n = W * H → Ev sc (d + 5) m_M_look 40 [some (.ref 26), some (.int x), some (.int y), some (.int z), some (.int (nI j)), some (.int (nI (n0 + cntB (dtB (B 5) (fitB (B 5) (A 22) (A 23) m) j k) i))), some (.int (nI k)), some (.int (nI i))] [.ref 26, .int (nI i)] (HH w s l A B) r h' := by
  have h49 := h.1.n49
  have hM := h.2.1
  intro n
  induction n with
  | zero =>
    intro i hi
    have e : i = W * H := by omega
    refine ev_cv rfl rfl rfl (e_mcells hM) ?_
    rw [← e]
    refine ev_ift rfl rfl rfl (c_ge ((nI_leI (by omega) (by omega)).mpr (by omega))) ?_
    repeat (first | refine ev_gos 99 rfl ?_ | refine ev_gf2 rfl rfl rfl rfl ?_ | refine ev_gf2 rfl rfl HH_land rfl ?_ | refine ev_gf2 rfl rfl HH_draft rfl ?_ | refine ev_gf2 rfl rfl (by with_reducible assumption) rfl ?_)
    rw [← e, ← nI_1 k] at hout
    exact ev_wk2 hout rfl (by repeat' (first | exact trivial | refine ⟨rfl, ?_⟩))
  | succ n ih =>
    intro i hi
    have h3 := ih (i + 1) (by omega)
    have e5 : n0 + cntB (dtB (B 5) (fitB (B 5) (A 22) (A 23) m) j k) (i + 1) = n0 + cntB (dtB (B 5) (fitB (B 5) (A 22) (A 23) m) j k) i + (bif fitB (B 5) (A 22) (A 23) m k i && bs (B 5 (k * 49 + i)) j then 1 else 0) := (Nat.add_assoc _ _ _).symm
    rw [e5, ← nI_1 i] at h3
    generalize n0 + cntB (dtB (B 5) (fitB (B 5) (A 22) (A 23) m) j k) i = a at h3 ⊢
    refine ev_cv rfl rfl rfl (e_mcells hM) ?_
    refine ev_iff rfl rfl rfl (d_ge (nI_lt3 (by omega) (by omega) (by omega))) ?_
    repeat (first | refine ev_gos 99 rfl ?_ | refine ev_gf2 rfl rfl rfl rfl ?_ | refine ev_gf2 rfl rfl HH_land rfl ?_ | refine ev_gf2 rfl rfl HH_draft rfl ?_ | refine ev_gf2 rfl rfl (by with_reducible assumption) rfl ?_)
    refine ev_cv rfl rfl rfl (e_misSo h hm hs hf hk (by omega)) ?_
    have ea : nI a + 0 = nI a := Int32.add_zero _
    cases hq : fitB (B 5) (A 22) (A 23) m k i with
    | false =>
      rw [hq] at h3
      refine ev_ift rfl rfl rfl rfl ?_
      repeat (first | refine ev_gos 99 rfl ?_ | refine ev_gf2 rfl rfl rfl rfl ?_ | refine ev_gf2 rfl rfl HH_land rfl ?_ | refine ev_gf2 rfl rfl HH_draft rfl ?_ | refine ev_gf2 rfl rfl (by with_reducible assumption) rfl ?_)
      have h4 : Ev sc (d + 5) m_M_look 40 [some (.ref 26), some (.int x), some (.int y), some (.int z), some (.int (nI j)), some (.int (nI a + 0)), some (.int (nI k)), some (.int (nI i + 1))] [.ref 26, .int (nI i + 1)] (HH w s l A B) r h' := by
        rw [ea]
        exact h3
      exact h4
    | true =>
      have esh : B 5 (k * 49 + i) = shpM W H k i := by
        have q1 := (andE hq).1
        have q1 := of_decide_eq_true q1
        rw [sh_eq h.1 hk (by omega)] at q1 ⊢
        by_cases z : shpM W H k i &&& l 3 = 0
        · rw [if_pos z]
        · rw [if_neg z] at q1
          exact absurd rfl q1
      rw [hq, esh] at h3
      refine ev_iff rfl rfl rfl rfl ?_
      repeat (first | refine ev_gos 99 rfl ?_ | refine ev_gf2 rfl rfl rfl rfl ?_ | refine ev_gf2 rfl rfl HH_land rfl ?_ | refine ev_gf2 rfl rfl HH_draft rfl ?_ | refine ev_gf2 rfl rfl (by with_reducible assumption) rfl ?_)
      refine ev_cv rfl rfl rfl (e_mshape hM hk (by omega)) ?_
      repeat (first | refine ev_gos 99 rfl ?_ | refine ev_gf2 rfl rfl rfl rfl ?_ | refine ev_gf2 rfl rfl HH_land rfl ?_ | refine ev_gf2 rfl rfl HH_draft rfl ?_ | refine ev_gf2 rfl rfl (by with_reducible assumption) rfl ?_)
      refine ev_cs rfl rfl rfl (e_holds sc _ _ _ (k := j) (by omega)) ?_
      cases hb : bs (shpM W H k i) j with
      | false =>
        rw [hb] at h3
        refine ev_ift rfl rfl rfl rfl ?_
        repeat (first | refine ev_gos 99 rfl ?_ | refine ev_gf2 rfl rfl rfl rfl ?_ | refine ev_gf2 rfl rfl HH_land rfl ?_ | refine ev_gf2 rfl rfl HH_draft rfl ?_ | refine ev_gf2 rfl rfl (by with_reducible assumption) rfl ?_)
        have h4 : Ev sc (d + 5) m_M_look 40 [some (.ref 26), some (.int x), some (.int y), some (.int z), some (.int (nI j)), some (.int (nI a + 0)), some (.int (nI k)), some (.int (nI i + 1))] [.ref 26, .int (nI i + 1)] (HH w s l A B) r h' := by
          rw [ea]
          exact h3
        exact h4
      | true =>
        rw [hb] at h3
        have h4 : Ev sc (d + 5) m_M_look 40 [some (.ref 26), some (.int x), some (.int y), some (.int z), some (.int (nI j)), some (.int (nI a + 1)), some (.int (nI k)), some (.int (nI i + 1))] [.ref 26, .int (nI i + 1)] (HH w s l A B) r h' := by
          rw [nI_1]
          exact h3
        refine ev_iff rfl rfl rfl rfl ?_
        repeat (first | refine ev_gos 99 rfl ?_ | refine ev_gf2 rfl rfl rfl rfl ?_ | refine ev_gf2 rfl rfl HH_land rfl ?_ | refine ev_gf2 rfl rfl HH_draft rfl ?_ | refine ev_gf2 rfl rfl (by with_reducible assumption) rfl ?_)
        exact h4
theorem e_mlook_mid (h : INV s l A B W H P fi c) {m : Nat} (hm : m ≤ 6) (hs : s 26 = nI m) (hf : ∀ i, i < m → (∃ q, q < W * H ∧ A 22 i = nI q) ∧ A 36 (2 * i) = A 22 i ∧ ∃ b, A 23 i = b01 b ∧ A 36 (2 * i + 1) = b01 b) (x y z : Int32) {j : Nat} (hj : j < W * H) {r : Option Value} {h' : AHp} (hout : Ev sc (d + 5) m_M_look 95 [some (.ref 26), some (.int x), some (.int y), some (.int z), some (.int (nI j)), some (.int (nI (sumB (dtB (B 5) (fitB (B 5) (A 22) (A 23) m) j) (W * H) 5))), none, none] [] (HH w s l A B) r h') : ∀ (n k : Nat), k + n = 5 → Ev sc (d + 5) m_M_look 31 [some (.ref 26), some (.int x), some (.int y), some (.int z), some (.int (nI j)), some (.int (nI (sumB (dtB (B 5) (fitB (B 5) (A 22) (A 23) m) j) (W * H) k))), some (.int (nI k)), none] [.int 5, .int (nI k)] (HH w s l A B) r h' := by
  intro n
  induction n with
  | zero =>
    intro k hk
    have e : k = 5 := by omega
    subst e
    refine ev_ift rfl rfl rfl (c_ge (by decide : (5 : Int32) ≤ nI 5)) ?_
    exact ev_wk2 hout rfl (by repeat' (first | exact trivial | refine ⟨rfl, ?_⟩))
  | succ n ih =>
    intro k hk
    refine ev_iff rfl rfl rfl (d_ge (nI_lt3 (b := 5) (by omega) (by omega) (by omega))) ?_
    repeat (first | refine ev_gos 99 rfl ?_ | refine ev_gf2 rfl rfl rfl rfl ?_ | refine ev_gf2 rfl rfl HH_land rfl ?_ | refine ev_gf2 rfl rfl HH_draft rfl ?_ | refine ev_gf2 rfl rfl (by with_reducible assumption) rfl ?_)
    exact e_mlook_in h hm hs hf x y z hj (by omega) _ (ih (k + 1) (by omega)) (W * H) 0 (Nat.zero_add _)
theorem e_mlook_loop (h : INV s l A B W H P fi c) {m : Nat} (hm : m ≤ 6) (hs : s 26 = nI m) (hf : ∀ i, i < m → (∃ q, q < W * H ∧ A 22 i = nI q) ∧ A 36 (2 * i) = A 22 i ∧ ∃ b, A 23 i = b01 b ∧ A 36 (2 * i + 1) = b01 b) {q : Nat} (hq : q ≤ 245) (hd : ∀ c, sumB (dtB (B 5) (fitB (B 5) (A 22) (A 23) m) c) (W * H) 5 ≤ q) : ∀ (n i : Nat), i + n = W * H → Ev sc (d + 5) m_M_look 16 [some (.ref 26), some (.int (nI q)), some (.int (nI (fo (lkF q (fun c => sumB (dtB (B 5) (fitB (B 5) (A 22) (A 23) m) c) (W * H) 5)) i (-1, q)).2)), some (.int (fo (lkF q (fun c => sumB (dtB (B 5) (fitB (B 5) (A 22) (A 23) m) c) (W * H) 5)) i (-1, q)).1), some (.int (nI i)), none, none, none] [.ref 26, .int (nI i)] (HH w s l A B) (some (.int (fo (lkF q (fun c => sumB (dtB (B 5) (fitB (B 5) (A 22) (A 23) m) c) (W * H) 5)) (W * H) (-1, q)).1)) (HH w s l A B) := by
  have h49 := h.1.n49
  have hM := h.2.1
  intro n
  induction n with
  | zero =>
    intro i hi
    have e : i = W * H := by omega
    refine ev_cv rfl rfl rfl (e_mcells hM) ?_
    rw [← e]
    refine ev_ift rfl rfl rfl (c_ge ((nI_leI (by omega) (by omega)).mpr (by omega))) ?_
    repeat (first | refine ev_gos 99 rfl ?_ | refine ev_gf2 rfl rfl rfl rfl ?_ | refine ev_gf2 rfl rfl HH_land rfl ?_ | refine ev_gf2 rfl rfl HH_draft rfl ?_ | refine ev_gf2 rfl rfl (by with_reducible assumption) rfl ?_)
    exact ev_ri rfl rfl rfl
  | succ n ih =>
    intro i hi
    have h3 := ih (i + 1) (by omega)
    have e5 : fo (lkF q (fun c => sumB (dtB (B 5) (fitB (B 5) (A 22) (A 23) m) c) (W * H) 5)) (i + 1) (-1, q) = if max (sumB (dtB (B 5) (fitB (B 5) (A 22) (A 23) m) i) (W * H) 5) (q - sumB (dtB (B 5) (fitB (B 5) (A 22) (A 23) m) i) (W * H) 5) < (fo (lkF q (fun c => sumB (dtB (B 5) (fitB (B 5) (A 22) (A 23) m) c) (W * H) 5)) i (-1, q)).2 then (nI i, max (sumB (dtB (B 5) (fitB (B 5) (A 22) (A 23) m) i) (W * H) 5) (q - sumB (dtB (B 5) (fitB (B 5) (A 22) (A 23) m) i) (W * H) 5)) else fo (lkF q (fun c => sumB (dtB (B 5) (fitB (B 5) (A 22) (A 23) m) c) (W * H) 5)) i (-1, q) := rfl
    have hle := lk_le (q := q) (dt := fun c => sumB (dtB (B 5) (fitB (B 5) (A 22) (A 23) m) c) (W * H) 5) i
    have hdi := hd i
    rw [e5, ← nI_1 i] at h3
    generalize (fo (lkF q (fun c => sumB (dtB (B 5) (fitB (B 5) (A 22) (A 23) m) c) (W * H) 5)) (W * H) (-1, q)).1 = FF at h3 ⊢
    generalize fo (lkF q (fun c => sumB (dtB (B 5) (fitB (B 5) (A 22) (A 23) m) c) (W * H) 5)) i (-1, q) = a at h3 hle ⊢
    refine ev_cv rfl rfl rfl (e_mcells hM) ?_
    refine ev_iff rfl rfl rfl (d_ge (nI_lt3 (by omega) (by omega) (by omega))) ?_
    repeat (first | refine ev_gos 99 rfl ?_ | refine ev_gf2 rfl rfl rfl rfl ?_ | refine ev_gf2 rfl rfl HH_land rfl ?_ | refine ev_gf2 rfl rfl HH_draft rfl ?_ | refine ev_gf2 rfl rfl (by with_reducible assumption) rfl ?_)
    refine e_mlook_mid h hm hs hf _ _ _ (show i < W * H by omega) ?_ 5 0 rfl
    generalize sumB (dtB (B 5) (fitB (B 5) (A 22) (A 23) m) i) (W * H) 5 = t at h3 hdi ⊢
    repeat (first | refine ev_gos 99 rfl ?_ | refine ev_gf2 rfl rfl rfl rfl ?_ | refine ev_gf2 rfl rfl HH_land rfl ?_ | refine ev_gf2 rfl rfl HH_draft rfl ?_ | refine ev_gf2 rfl rfl (by with_reducible assumption) rfl ?_)
    have e9 : nI q - nI t = nI (q - t) := pk_sub hdi
    refine ev_cs rfl rfl rfl (e_greater sc _ _ _ _) ?_
    refine (?_ : Ek sc _ m_M_look 104 _ [.int (if nI q - nI t < nI t then nI t else nI q - nI t)] _ _ _ _ _)
    rw [e9, (max_nI (by omega) (by omega)).2]
    have hmx : max t (q - t) ≤ 245 := Nat.max_le.mpr ⟨by omega, by omega⟩
    generalize max t (q - t) = g at h3 hmx ⊢
    repeat (first | refine ev_gos 99 rfl ?_ | refine ev_gf2 rfl rfl rfl rfl ?_ | refine ev_gf2 rfl rfl HH_land rfl ?_ | refine ev_gf2 rfl rfl HH_draft rfl ?_ | refine ev_gf2 rfl rfl (by with_reducible assumption) rfl ?_)
    by_cases hg : g < a.2
    · rw [if_pos hg] at h3
      refine ev_iff rfl rfl rfl (d_ge (nI_lt3 (by omega) (by omega) (by omega))) ?_
      repeat (first | refine ev_gos 99 rfl ?_ | refine ev_gf2 rfl rfl rfl rfl ?_ | refine ev_gf2 rfl rfl HH_land rfl ?_ | refine ev_gf2 rfl rfl HH_draft rfl ?_ | refine ev_gf2 rfl rfl (by with_reducible assumption) rfl ?_)
      refine ev_cs rfl rfl rfl (e_lesser sc _ _ _ _) ?_
      rw [min_nI (by omega) (by omega), if_pos hg]
      repeat (first | refine ev_gos 99 rfl ?_ | refine ev_gf2 rfl rfl rfl rfl ?_ | refine ev_gf2 rfl rfl HH_land rfl ?_ | refine ev_gf2 rfl rfl HH_draft rfl ?_ | refine ev_gf2 rfl rfl (by with_reducible assumption) rfl ?_)
      exact ev_wk2 h3 rfl (by repeat' (first | exact trivial | refine ⟨rfl, ?_⟩))
    · rw [if_neg hg] at h3
      refine ev_ift rfl rfl rfl (c_ge ((nI_leI (by omega) (by omega)).mpr (by omega))) ?_
      repeat (first | refine ev_gos 99 rfl ?_ | refine ev_gf2 rfl rfl rfl rfl ?_ | refine ev_gf2 rfl rfl HH_land rfl ?_ | refine ev_gf2 rfl rfl HH_draft rfl ?_ | refine ev_gf2 rfl rfl (by with_reducible assumption) rfl ?_)
      refine ev_cs rfl rfl rfl (e_lesser sc _ _ _ _) ?_
      rw [min_nI (by omega) (by omega), if_neg hg]
      repeat (first | refine ev_gos 99 rfl ?_ | refine ev_gf2 rfl rfl rfl rfl ?_ | refine ev_gf2 rfl rfl HH_land rfl ?_ | refine ev_gf2 rfl rfl HH_draft rfl ?_ | refine ev_gf2 rfl rfl (by with_reducible assumption) rfl ?_)
      exact ev_wk2 h3 rfl (by repeat' (first | exact trivial | refine ⟨rfl, ?_⟩))
theorem b_look (h : INV s l A B W H P fi c) : Both sc (d + 12) m_C_look 6 m_M_look 8 [] w s l A B := by
  obtain ⟨hN, hM, hR, hK, hS, hD, hX, hI, hT, hF, ⟨m, m1, m2, m3, m4⟩, hB⟩ := id h
  have h49 := hN.n49
  have hFD : FD s A (W * H) m := ⟨m1, m2, fun i hi => (m4 i hi).1⟩
  have hq : sumB (fitB (B 5) (A 22) (A 23) m) (W * H) 5 ≤ 245 := Nat.le_trans (sumB_le _ _ 5) (by omega)
  have hd : ∀ c, sumB (dtB (B 5) (fitB (B 5) (A 22) (A 23) m) c) (W * H) 5 ≤ sumB (fitB (B 5) (A 22) (A 23) m) (W * H) 5 := fun c => sumB_sub (fun k i z => (andE z).1) _ 5
  have hc := e_look_loop (sc := sc) (d := d + 11) (w := w) hN hq hd (t := fo (tlK (B 5) (fitB (B 5) (A 22) (A 23) m) (W * H)) 5 (mapP (fun _ _ => 0) (A 25) 49)) (fun c hc => by rw [tl_K _ _ _ _ hc, mapP_in hc]; exact Int32.zero_add _) (W * H) 0 (Nat.zero_add _)
  have hI2 : INV s l (upA A 25 (fo (tlK (B 5) (fitB (B 5) (A 22) (A 23) m) (W * H)) 5 (mapP (fun _ _ => 0) (A 25) 49))) B W H P fi c := h
  have hm := e_mlook_loop (sc := sc) (d := d + 7) (w := w) hI2 m1 m3 m4 hq hd (W * H) 0 (Nat.zero_add _)
  have hmf := e_mfits (sc := sc) (d := d + 6) (w := w) hI2 m1 m3 m4 (j := 0) (by decide)
  obtain ⟨f1, f2, f3⟩ := ftk (fitB (B 5) (A 22) (A 23) m) (W * H) 5
  refine ⟨(fo (lkF (sumB (fitB (B 5) (A 22) (A 23) m) (W * H) 5) (fun c => sumB (dtB (B 5) (fitB (B 5) (A 22) (A 23) m) c) (W * H) 5)) (W * H) (-1, sumB (fitB (B 5) (A 22) (A 23) m) (W * H) 5)).1, HH w s l (upA A 25 (fo (tlK (B 5) (fitB (B 5) (A 22) (A 23) m) (W * H)) 5 (mapP (fun _ _ => 0) (A 25) 49))) B, w, s, l, upA A 25 (fo (tlK (B 5) (fitB (B 5) (A 22) (A 23) m) (W * H)) 5 (mapP (fun _ _ => 0) (A 25) 49)), B, ?_, ?_, ⟨W, H, P, fi, c, hI2⟩⟩
  · repeat (first | refine ev_gos 99 rfl ?_ | refine ev_gf2 rfl rfl rfl rfl ?_ | refine ev_gf2 rfl rfl HH_land rfl ?_ | refine ev_gf2 rfl rfl HH_draft rfl ?_ | refine ev_gf2 rfl rfl (by with_reducible assumption) rfl ?_)
    refine ev_cv rfl rfl rfl (e_howMany hN hFD) ?_
    repeat (first | refine ev_gos 99 rfl ?_ | refine ev_gf2 rfl rfl rfl rfl ?_ | refine ev_gf2 rfl rfl HH_land rfl ?_ | refine ev_gf2 rfl rfl HH_draft rfl ?_ | refine ev_gf2 rfl rfl (by with_reducible assumption) rfl ?_)
    refine ev_cv rfl rfl rfl (e_tally hN hFD) ?_
    repeat (first | refine ev_gos 99 rfl ?_ | refine ev_gf2 rfl rfl rfl rfl ?_ | refine ev_gf2 rfl rfl HH_land rfl ?_ | refine ev_gf2 rfl rfl HH_draft rfl ?_ | refine ev_gf2 rfl rfl (by with_reducible assumption) rfl ?_)
    exact hc
  · repeat (first | refine ev_gos 99 rfl ?_ | refine ev_gf2 rfl rfl rfl rfl ?_ | refine ev_gf2 rfl rfl HH_land rfl ?_ | refine ev_gf2 rfl rfl HH_draft rfl ?_ | refine ev_gf2 rfl rfl (by with_reducible assumption) rfl ?_)
    refine ev_cv rfl rfl rfl hmf ?_
    refine (?_ : Ek sc _ m_M_look 5 _ [.int (nI (fo (ftK (fitB (B 5) (A 22) (A 23) m) (W * H)) 5 (0, -1, 0)).1)] _ _ _ _ _)
    rw [f1]
    repeat (first | refine ev_gos 99 rfl ?_ | refine ev_gf2 rfl rfl rfl rfl ?_ | refine ev_gf2 rfl rfl HH_land rfl ?_ | refine ev_gf2 rfl rfl HH_draft rfl ?_ | refine ev_gf2 rfl rfl (by with_reducible assumption) rfl ?_)
    exact hm
end LOK
