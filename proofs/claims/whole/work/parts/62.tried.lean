/-! both sides: nights that are tried -/
def nmN (W H : Nat) (rk : Int64) (k : Nat) (f : Nat → Int32) : Nat → Nat → Int32
  | 0 => f
  | n + 1 => nmI W H rk (nmN W H rk k f n) k
theorem nmI_57 {W H : Nat} (h49 : W * H ≤ 49) (rk : Int64) (f : Nat → Int32) (k : Nat) : nmI W H rk f k 57 = f 57 := by
  unfold nmI
  rw [pk_un (by decide), mapP_out (by omega)]
theorem nmN_57 {W H : Nat} (h49 : W * H ≤ 49) (rk : Int64) (k : Nat) (f : Nat → Int32) : ∀ n, nmN W H rk k f n 57 = f 57
  | 0 => rfl
  | n + 1 => (nmI_57 h49 rk _ k).trans (nmN_57 h49 rk k f n)
theorem SP_nights {W H P : Nat} {rk : Int64} {kd_ dn at_ f : Nat → Int32} {wd nt : Int32} (h : SP W H P rk kd_ dn at_ wd nt f) (hW7 : W ≤ 7) (hH7 : H ≤ 7) (h2 : W * H = 0 ∨ (2 ≤ W ∧ 2 ≤ H)) (hrk : WI rk (W * H)) {k : Nat} (hk : k ≤ 4) : ∀ n, ∃ x, SP W H P rk kd_ (ngI W (W * H) rk k dn n) at_ wd x (nmN W H rk k f n)
  | 0 => ⟨nt, h⟩
  | n + 1 => by
    obtain ⟨x, hx⟩ := SP_nights h hW7 hH7 h2 hrk hk n
    exact ⟨x + 1, SP_night hx hW7 hH7 h2 hrk hk⟩
theorem ng_le {W N : Nat} {rk : Int64} {k : Nat} {dn : Nat → Int32} (h : ∀ c, c < 49 → ∃ j, j ≤ 9 ∧ dn c = nI j) : ∀ n c, c < 49 → ∃ j, j ≤ 9 - n ∧ ngI W N rk k dn n c = nI j
  | 0, c, hc => h c hc
  | n + 1, c, hc => by
    obtain ⟨j, j1, j2⟩ := ng_le h (W := W) (N := N) (rk := rk) (k := k) n c hc
    have e : ngI W N rk k dn (n + 1) c = ngF (shlS W N rk (ngI W N rk k dn n) k) c (ngI W N rk k dn n c) := mapP_in hc
    rw [e, j2]
    refine ⟨_, ?_, n_ng j (by omega) (bs (shlS W N rk (ngI W N rk k dn n) k) c)⟩
    cases bs (shlS W N rk (ngI W N rk k dn n) k) c
    · show j - 2 ≤ 9 - (n + 1)
      omega
    · show j - 1 ≤ 9 - (n + 1)
      omega
theorem ng_9 {W N : Nat} {rk : Int64} {k : Nat} {dn : Nat → Int32} (h : ∀ c, c < 49 → ∃ j, j ≤ 9 ∧ dn c = nI j) : dnS (ngI W N rk k dn 9) 1 49 = 0 := by
  refine bs_eq0.mpr (fun i hi => ?_)
  unfold dnS
  rw [bs_mk _ hi]
  by_cases q : i < 49
  · obtain ⟨j, j1, j2⟩ := ng_le h (W := W) (N := N) (rk := rk) (k := k) 9 i q
    have e : j = 0 := by omega
    subst e
    rw [j2, decide_eq_false (p := (1 : Int32) ≤ nI 0) (by decide), Bool.and_false]
  · rw [decide_eq_false q, Bool.false_and]
theorem a3130 (A : Nat → Nat → Int32) (g X G Y : Nat → Int32) : upA (upA (upA (upA A 31 g) 30 X) 31 G) 30 Y = upA (upA A 31 G) 30 Y := by
  rw [upA_comm (upA A 31 g) (p := 30) (q := 31) rfl, upA_up, upA_up]
section TRY
variable {sc : Scr} {d : Nat} {w : Bool} {s : Nat → Int32} {l : Nat → Int64} {A : Nat → Nat → Int32} {B : Nat → Nat → Int64} {W H P fi c : Nat} {rk : Int64}
theorem e_mnS (hM : MN (A 27) rk W H P) (hrk : WI rk (W * H)) {k : Nat} (hk : k ≤ 4) {g X : Nat → Int32} (ek : X 57 = nI k) : Ev sc (d + 2) m_M_nightGoes 0 (iniL 7 [.ref 26, .ref 30]) [] (HH w s l (upA (upA A 31 g) 30 X) B) none (HH w s l (upA (upA A 31 (va_cpy X g 0 0 49)) 30 (nmI W H rk X k)) B) := by
  have q := e_mnightS (sc := sc) (d := d) (w := w) (s := s) (l := l) (A := upA (upA A 31 g) 30 X) (B := B) hM hrk hk ek
  rw [a3130, upA_at] at q
  exact q
theorem e_mleft_loop (hM : MN (A 27) rk W H P) (hrk : WI rk (W * H)) {k : Nat} (hk : k ≤ 4) {f : Nat → Int32} (ek : f 57 = nI k) {q n : Nat} (hq : q < 49) (hn : n ≤ 20) : ∀ (m i : Nat) (g : Nat → Int32), i + m = n → ∃ g', Ev sc (d + 4) m_M_left 34 [some (.ref 26), some (.int (nI q)), some (.int (nI n)), some (.int (nI i))] [.int (nI n), .int (nI i)] (HH w s l (upA (upA A 31 g) 30 (nmN W H rk k f i)) B) (some (.int (nmN W H rk k f n q))) (HH w s l (upA (upA A 31 g') 30 (nmN W H rk k f n)) B) := by
  have h49 := hM.n49
  intro m
  induction m with
  | zero =>
    intro i g hi
    have e : i = n := by omega
    subst e
    refine ⟨g, ?_⟩
    refine ev_ift rfl rfl rfl (c_ge ((nI_leI (by omega) (by omega)).mpr (by omega))) ?_
    repeat (first | refine ev_gos 99 rfl ?_ | refine ev_gf2 rfl rfl rfl rfl ?_ | refine ev_gf2 rfl rfl HH_land rfl ?_ | refine ev_gf2 rfl rfl HH_draft rfl ?_ | refine ev_gf2 rfl rfl (by with_reducible assumption) rfl ?_)
    refine ev_ix q rfl rfl (Int32.zero_add _) (by omega) (by decide) ?_
    exact ev_ri rfl rfl rfl
  | succ m ih =>
    intro i g hi
    obtain ⟨g', h3⟩ := ih (i + 1) (va_cpy (nmN W H rk k f i) g 0 0 49) (by omega)
    refine ⟨g', ?_⟩
    refine ev_iff rfl rfl rfl (d_ge (nI_lt3 (by omega) (by omega) (by omega))) ?_
    repeat (first | refine ev_gos 99 rfl ?_ | refine ev_gf2 rfl rfl rfl rfl ?_ | refine ev_gf2 rfl rfl HH_land rfl ?_ | refine ev_gf2 rfl rfl HH_draft rfl ?_ | refine ev_gf2 rfl rfl (by with_reducible assumption) rfl ?_)
    refine ev_cv rfl rfl rfl (e_mnS hM hrk hk ((nmN_57 h49 rk k f i).trans ek)) ?_
    repeat (first | refine ev_gos 99 rfl ?_ | refine ev_gf2 rfl rfl rfl rfl ?_ | refine ev_gf2 rfl rfl HH_land rfl ?_ | refine ev_gf2 rfl rfl HH_draft rfl ?_ | refine ev_gf2 rfl rfl (by with_reducible assumption) rfl ?_)
    rw [← nI_1] at h3
    exact h3
theorem e_mwill_loop (hM : MN (A 27) rk W H P) (hrk : WI rk (W * H)) {k : Nat} (hk : k ≤ 4) {f : Nat → Int32} (ek : f 57 = nI k) {n : Nat} (hn : n ≤ 20) : ∀ (m i : Nat) (g : Nat → Int32), i + m = n → ∃ g', Ev sc (d + 4) m_M_willCount 23 [some (.ref 26), some (.int (nI n)), some (.int (nI i))] [.int (nI n), .int (nI i)] (HH w s l (upA (upA A 31 g) 30 (nmN W H rk k f i)) B) (some (.int (nI (cntS W (W * H) (dnS (nmN W H rk k f n) 3 (W * H)))))) (HH w s l (upA (upA A 31 g') 30 (nmN W H rk k f n)) B) := by
  have h49 := hM.n49
  intro m
  induction m with
  | zero =>
    intro i g hi
    have e : i = n := by omega
    subst e
    refine ⟨g, ?_⟩
    refine ev_ift rfl rfl rfl (c_ge ((nI_leI (by omega) (by omega)).mpr (by omega))) ?_
    repeat (first | refine ev_gos 99 rfl ?_ | refine ev_gf2 rfl rfl rfl rfl ?_ | refine ev_gf2 rfl rfl HH_land rfl ?_ | refine ev_gf2 rfl rfl HH_draft rfl ?_ | refine ev_gf2 rfl rfl (by with_reducible assumption) rfl ?_)
    refine ev_cv rfl rfl rfl (e_mcountS (A := upA (upA A 31 g) 30 (nmN W H rk k f i)) hM) ?_
    exact ev_ri rfl rfl rfl
  | succ m ih =>
    intro i g hi
    obtain ⟨g', h3⟩ := ih (i + 1) (va_cpy (nmN W H rk k f i) g 0 0 49) (by omega)
    refine ⟨g', ?_⟩
    refine ev_iff rfl rfl rfl (d_ge (nI_lt3 (by omega) (by omega) (by omega))) ?_
    repeat (first | refine ev_gos 99 rfl ?_ | refine ev_gf2 rfl rfl rfl rfl ?_ | refine ev_gf2 rfl rfl HH_land rfl ?_ | refine ev_gf2 rfl rfl HH_draft rfl ?_ | refine ev_gf2 rfl rfl (by with_reducible assumption) rfl ?_)
    refine ev_cv rfl rfl rfl (e_mnS hM hrk hk ((nmN_57 h49 rk k f i).trans ek)) ?_
    repeat (first | refine ev_gos 99 rfl ?_ | refine ev_gf2 rfl rfl rfl rfl ?_ | refine ev_gf2 rfl rfl HH_land rfl ?_ | refine ev_gf2 rfl rfl HH_draft rfl ?_ | refine ev_gf2 rfl rfl (by with_reducible assumption) rfl ?_)
    rw [← nI_1] at h3
    exact h3
theorem e_mwrong_loop (hM : MN (A 27) rk W H P) (hrk : WI rk (W * H)) {k : Nat} (hk : k ≤ 4) {f : Nat → Int32} (ek : f 57 = nI k) (x : Int32) : ∀ (m i : Nat) (g : Nat → Int32), i + m = 21 → ∃ g' j, Ev sc (d + 4) m_M_wrongFirst 14 [some (.ref 26), some (.int x), some (.int (nI i))] [.int 21, .int (nI i)] (HH w s l (upA (upA A 31 g) 30 (nmN W H rk k f i)) B) (some (.int (fnd (fun i => decide (¬ nI (cntS W (W * H) (dnS (nmN W H rk k f i) 3 (W * H))) = x)) m i))) (HH w s l (upA (upA A 31 g') 30 (nmN W H rk k f j)) B) := by
  have h49 := hM.n49
  intro m
  induction m with
  | zero =>
    intro i g hi
    have e : i = 21 := by omega
    subst e
    refine ⟨g, 21, ?_⟩
    refine ev_ift rfl rfl rfl (c_ge (by decide : (21 : Int32) ≤ nI 21)) ?_
    repeat (first | refine ev_gos 99 rfl ?_ | refine ev_gf2 rfl rfl rfl rfl ?_ | refine ev_gf2 rfl rfl HH_land rfl ?_ | refine ev_gf2 rfl rfl HH_draft rfl ?_ | refine ev_gf2 rfl rfl (by with_reducible assumption) rfl ?_)
    exact ev_ri rfl rfl rfl
  | succ m ih =>
    intro i g hi
    by_cases hq : nI (cntS W (W * H) (dnS (nmN W H rk k f i) 3 (W * H))) = x
    · obtain ⟨g', j, h3⟩ := ih (i + 1) (va_cpy (nmN W H rk k f i) g 0 0 49) (by omega)
      refine ⟨g', j, ?_⟩
      refine ev_iff rfl rfl rfl (d_ge (nI_lt3 (b := 21) (by omega) (by omega) (by omega))) ?_
      repeat (first | refine ev_gos 99 rfl ?_ | refine ev_gf2 rfl rfl rfl rfl ?_ | refine ev_gf2 rfl rfl HH_land rfl ?_ | refine ev_gf2 rfl rfl HH_draft rfl ?_ | refine ev_gf2 rfl rfl (by with_reducible assumption) rfl ?_)
      refine ev_cv rfl rfl rfl (e_mcountS (A := upA (upA A 31 g) 30 (nmN W H rk k f i)) hM) ?_
      refine (?_ : Ek sc _ m_M_wrongFirst 25 _ [.int (nI (cntS W (W * H) (dnS (nmN W H rk k f i) 3 (W * H))))] _ _ _ _ _)
      repeat (first | refine ev_gos 99 rfl ?_ | refine ev_gf2 rfl rfl rfl rfl ?_ | refine ev_gf2 rfl rfl HH_land rfl ?_ | refine ev_gf2 rfl rfl HH_draft rfl ?_ | refine ev_gf2 rfl rfl (by with_reducible assumption) rfl ?_)
      refine ev_ift rfl rfl rfl (c_eq hq) ?_
      repeat (first | refine ev_gos 99 rfl ?_ | refine ev_gf2 rfl rfl rfl rfl ?_ | refine ev_gf2 rfl rfl HH_land rfl ?_ | refine ev_gf2 rfl rfl HH_draft rfl ?_ | refine ev_gf2 rfl rfl (by with_reducible assumption) rfl ?_)
      refine ev_cv rfl rfl rfl (e_mnS hM hrk hk ((nmN_57 h49 rk k f i).trans ek)) ?_
      repeat (first | refine ev_gos 99 rfl ?_ | refine ev_gf2 rfl rfl rfl rfl ?_ | refine ev_gf2 rfl rfl HH_land rfl ?_ | refine ev_gf2 rfl rfl HH_draft rfl ?_ | refine ev_gf2 rfl rfl (by with_reducible assumption) rfl ?_)
      rw [← nI_1] at h3
      have e : fnd (fun i => decide (¬ nI (cntS W (W * H) (dnS (nmN W H rk k f i) 3 (W * H))) = x)) (m + 1) i = fnd (fun i => decide (¬ nI (cntS W (W * H) (dnS (nmN W H rk k f i) 3 (W * H))) = x)) m (i + 1) := by
        show (bif decide (¬ nI (cntS W (W * H) (dnS (nmN W H rk k f i) 3 (W * H))) = x) then _ else _) = _
        rw [decide_eq_false (fun z => z hq)]
        rfl
      rw [e]
      exact h3
    · refine ⟨g, i, ?_⟩
      refine ev_iff rfl rfl rfl (d_ge (nI_lt3 (b := 21) (by omega) (by omega) (by omega))) ?_
      repeat (first | refine ev_gos 99 rfl ?_ | refine ev_gf2 rfl rfl rfl rfl ?_ | refine ev_gf2 rfl rfl HH_land rfl ?_ | refine ev_gf2 rfl rfl HH_draft rfl ?_ | refine ev_gf2 rfl rfl (by with_reducible assumption) rfl ?_)
      refine ev_cv rfl rfl rfl (e_mcountS (A := upA (upA A 31 g) 30 (nmN W H rk k f i)) hM) ?_
      refine (?_ : Ek sc _ m_M_wrongFirst 25 _ [.int (nI (cntS W (W * H) (dnS (nmN W H rk k f i) 3 (W * H))))] _ _ _ _ _)
      repeat (first | refine ev_gos 99 rfl ?_ | refine ev_gf2 rfl rfl rfl rfl ?_ | refine ev_gf2 rfl rfl HH_land rfl ?_ | refine ev_gf2 rfl rfl HH_draft rfl ?_ | refine ev_gf2 rfl rfl (by with_reducible assumption) rfl ?_)
      refine ev_iff rfl rfl rfl (d_eq hq) ?_
      repeat (first | refine ev_gos 99 rfl ?_ | refine ev_gf2 rfl rfl rfl rfl ?_ | refine ev_gf2 rfl rfl HH_land rfl ?_ | refine ev_gf2 rfl rfl HH_draft rfl ?_ | refine ev_gf2 rfl rfl (by with_reducible assumption) rfl ?_)
      refine ev_ri rfl ?_ rfl
      show nI i = (bif decide (¬ nI (cntS W (W * H) (dnS (nmN W H rk k f i) 3 (W * H))) = x) then _ else _)
      rw [decide_eq_true hq]
      rfl
theorem e_mbare_loop (hM : MN (A 27) rk W H P) (hrk : WI rk (W * H)) {k : Nat} (hk : k ≤ 4) {f : Nat → Int32} (ek : f 57 = nI k) {G : Nat → Nat → Int32} (hG : ∀ i, dnS (nmN W H rk k f i) 1 (W * H) = dnS (G i) 1 49) (h9 : dnS (G 9) 1 49 = 0) : ∀ (m i : Nat) (g : Nat → Int32), i + m = 9 → ∃ g' j, Ev sc (d + 4) m_M_bare 12 [some (.ref 26), some (.int (nI i))] [.int 1, .ref 30, .ref 26] (HH w s l (upA (upA A 31 g) 30 (nmN W H rk k f i)) B) (some (.int (nI (barS G m i)))) (HH w s l (upA (upA A 31 g') 30 (nmN W H rk k f j)) B) := by
  have h49 := hM.n49
  intro m
  induction m with
  | zero =>
    intro i g hi
    have e : i = 9 := by omega
    subst e
    refine ⟨g, 9, ?_⟩
    refine ev_cv rfl rfl rfl (e_mdentS (A := upA (upA A 31 g) 30 (nmN W H rk k f 9)) hM 1) ?_
    refine (?_ : Ek sc _ m_M_bare 15 _ [.long (dnS (nmN W H rk k f 9) 1 (W * H))] _ _ _ _ _)
    rw [hG, h9]
    repeat (first | refine ev_gos 99 rfl ?_ | refine ev_gf2 rfl rfl rfl rfl ?_ | refine ev_gf2 rfl rfl HH_land rfl ?_ | refine ev_gf2 rfl rfl HH_draft rfl ?_ | refine ev_gf2 rfl rfl (by with_reducible assumption) rfl ?_)
    (first | refine ev_ift rfl rfl rfl rfl ?_ | refine ev_iff rfl rfl rfl rfl ?_)
    repeat (first | refine ev_gos 99 rfl ?_ | refine ev_gf2 rfl rfl rfl rfl ?_ | refine ev_gf2 rfl rfl HH_land rfl ?_ | refine ev_gf2 rfl rfl HH_draft rfl ?_ | refine ev_gf2 rfl rfl (by with_reducible assumption) rfl ?_)
    exact ev_ri rfl rfl rfl
  | succ m ih =>
    intro i g hi
    by_cases hq : dnS (G i) 1 49 = 0
    · refine ⟨g, i, ?_⟩
      refine ev_cv rfl rfl rfl (e_mdentS (A := upA (upA A 31 g) 30 (nmN W H rk k f i)) hM 1) ?_
      refine (?_ : Ek sc _ m_M_bare 15 _ [.long (dnS (nmN W H rk k f i) 1 (W * H))] _ _ _ _ _)
      rw [hG, hq]
      repeat (first | refine ev_gos 99 rfl ?_ | refine ev_gf2 rfl rfl rfl rfl ?_ | refine ev_gf2 rfl rfl HH_land rfl ?_ | refine ev_gf2 rfl rfl HH_draft rfl ?_ | refine ev_gf2 rfl rfl (by with_reducible assumption) rfl ?_)
      (first | refine ev_ift rfl rfl rfl rfl ?_ | refine ev_iff rfl rfl rfl rfl ?_)
      repeat (first | refine ev_gos 99 rfl ?_ | refine ev_gf2 rfl rfl rfl rfl ?_ | refine ev_gf2 rfl rfl HH_land rfl ?_ | refine ev_gf2 rfl rfl HH_draft rfl ?_ | refine ev_gf2 rfl rfl (by with_reducible assumption) rfl ?_)
      refine ev_ri rfl ?_ rfl
      show nI i = nI (if dnS (G i) 1 49 = 0 then i else barS G m (i + 1))
      rw [if_pos hq]
    · obtain ⟨g', j, h3⟩ := ih (i + 1) (va_cpy (nmN W H rk k f i) g 0 0 49) (by omega)
      refine ⟨g', j, ?_⟩
      refine ev_cv rfl rfl rfl (e_mdentS (A := upA (upA A 31 g) 30 (nmN W H rk k f i)) hM 1) ?_
      refine (?_ : Ek sc _ m_M_bare 15 _ [.long (dnS (nmN W H rk k f i) 1 (W * H))] _ _ _ _ _)
      rw [hG]
      repeat (first | refine ev_gos 99 rfl ?_ | refine ev_gf2 rfl rfl rfl rfl ?_ | refine ev_gf2 rfl rfl HH_land rfl ?_ | refine ev_gf2 rfl rfl HH_draft rfl ?_ | refine ev_gf2 rfl rfl (by with_reducible assumption) rfl ?_)
      refine ev_iff rfl rfl rfl (j_eq (fun z => hq (lc_eq.mp z))) ?_
      repeat (first | refine ev_gos 99 rfl ?_ | refine ev_gf2 rfl rfl rfl rfl ?_ | refine ev_gf2 rfl rfl HH_land rfl ?_ | refine ev_gf2 rfl rfl HH_draft rfl ?_ | refine ev_gf2 rfl rfl (by with_reducible assumption) rfl ?_)
      refine ev_cv rfl rfl rfl (e_mnS hM hrk hk ((nmN_57 h49 rk k f i).trans ek)) ?_
      repeat (first | refine ev_gos 99 rfl ?_ | refine ev_gf2 rfl rfl rfl rfl ?_ | refine ev_gf2 rfl rfl HH_land rfl ?_ | refine ev_gf2 rfl rfl HH_draft rfl ?_ | refine ev_gf2 rfl rfl (by with_reducible assumption) rfl ?_)
      rw [← nI_1] at h3
      have e : barS G (m + 1) i = barS G m (i + 1) := by
        show (if dnS (G i) 1 49 = 0 then i else barS G m (i + 1)) = _
        rw [if_neg hq]
      rw [e]
      exact h3
theorem e_wrong_loop (hN : CN s l A B W H P) {k : Nat} (hk : k ≤ 4) (hs : s 11 = nI k) (f : Nat → Int32) (x y : Int32) : ∀ (m i : Nat), i + m = 21 → ∃ j, Ev sc (d + 5) m_C_wrongFirst 21 [some (.ref 0), some (.int y), some (.int (nI i))] [.int 20, .int (nI i)] (HH w (upA s 12 (x + nI i)) l (upA A 13 (ngI W (W * H) (l 3) k f i)) B) (some (.int (fnd (fun i => decide (¬ nI (cntS W (W * H) (dnS (ngI W (W * H) (l 3) k f i) 3 49)) = y)) m i))) (HH w (upA s 12 (x + nI j)) l (upA A 13 (ngI W (W * H) (l 3) k f j)) B) := by
  intro m
  induction m with
  | zero =>
    intro i hi
    have e : i = 21 := by omega
    subst e
    refine ⟨21, ?_⟩
    refine ev_ift rfl rfl rfl (c_gt (by decide : (20 : Int32) < nI 21)) ?_
    repeat (first | refine ev_gos 99 rfl ?_ | refine ev_gf2 rfl rfl rfl rfl ?_ | refine ev_gf2 rfl rfl HH_land rfl ?_ | refine ev_gf2 rfl rfl HH_draft rfl ?_ | refine ev_gf2 rfl rfl (by with_reducible assumption) rfl ?_)
    exact ev_ri rfl rfl rfl
  | succ m ih =>
    intro i hi
    by_cases hq : nI (cntS W (W * H) (dnS (ngI W (W * H) (l 3) k f i) 3 49)) = y
    · obtain ⟨j, h3⟩ := ih (i + 1) (by omega)
      refine ⟨j, ?_⟩
      refine ev_iff rfl rfl rfl (d_gt (nI_nlt (a := 20) (by omega) (by decide))) ?_
      repeat (first | refine ev_gos 99 rfl ?_ | refine ev_gf2 rfl rfl rfl rfl ?_ | refine ev_gf2 rfl rfl HH_land rfl ?_ | refine ev_gf2 rfl rfl HH_draft rfl ?_ | refine ev_gf2 rfl rfl (by with_reducible assumption) rfl ?_)
      refine ev_cv rfl rfl rfl (e_seen (p := 12) (pd := 13) (pa := 14) (wd := s 11) (nt := x + nI i) (f := ngI W (W * H) (l 3) k f i) rfl rfl) ?_
      refine ev_cv rfl rfl HH_land (e_countOf (HH_land (s := upA s 12 (x + nI i))) hN.1 hN.2.2.2.2.2.2.2.1 hN.2.2.2.2.2.2.2.2.1 hN.2.2.2.2.2.2.2.2.2.1 _) ?_
      repeat (first | refine ev_gos 99 rfl ?_ | refine ev_gf2 rfl rfl rfl rfl ?_ | refine ev_gf2 rfl rfl HH_land rfl ?_ | refine ev_gf2 rfl rfl HH_draft rfl ?_ | refine ev_gf2 rfl rfl (by with_reducible assumption) rfl ?_)
      refine ev_ift rfl rfl rfl (c_eq hq) ?_
      repeat (first | refine ev_gos 99 rfl ?_ | refine ev_gf2 rfl rfl rfl rfl ?_ | refine ev_gf2 rfl rfl HH_land rfl ?_ | refine ev_gf2 rfl rfl HH_draft rfl ?_ | refine ev_gf2 rfl rfl (by with_reducible assumption) rfl ?_)
      refine ev_cv rfl rfl rfl (e_passT (s := upA s 12 (x + nI i)) (W := W) (N := W * H) hN.1 hN.2.2.2.2.2.2.2.1 hN.2.2.2.2.2.2.2.2.1 hN.2.2.2.2.2.2.2.2.2.1 hk hs) ?_
      rw [upA_up, upA_up]
      repeat (first | refine ev_gos 99 rfl ?_ | refine ev_gf2 rfl rfl rfl rfl ?_ | refine ev_gf2 rfl rfl HH_land rfl ?_ | refine ev_gf2 rfl rfl HH_draft rfl ?_ | refine ev_gf2 rfl rfl (by with_reducible assumption) rfl ?_)
      rw [← nI_1, ← Int32.add_assoc] at h3
      have e : fnd (fun i => decide (¬ nI (cntS W (W * H) (dnS (ngI W (W * H) (l 3) k f i) 3 49)) = y)) (m + 1) i = fnd (fun i => decide (¬ nI (cntS W (W * H) (dnS (ngI W (W * H) (l 3) k f i) 3 49)) = y)) m (i + 1) := by
        show (bif decide (¬ nI (cntS W (W * H) (dnS (ngI W (W * H) (l 3) k f i) 3 49)) = y) then _ else _) = _
        rw [decide_eq_false (fun z => z hq)]
        rfl
      rw [e]
      exact h3
    · refine ⟨i, ?_⟩
      refine ev_iff rfl rfl rfl (d_gt (nI_nlt (a := 20) (by omega) (by decide))) ?_
      repeat (first | refine ev_gos 99 rfl ?_ | refine ev_gf2 rfl rfl rfl rfl ?_ | refine ev_gf2 rfl rfl HH_land rfl ?_ | refine ev_gf2 rfl rfl HH_draft rfl ?_ | refine ev_gf2 rfl rfl (by with_reducible assumption) rfl ?_)
      refine ev_cv rfl rfl rfl (e_seen (p := 12) (pd := 13) (pa := 14) (wd := s 11) (nt := x + nI i) (f := ngI W (W * H) (l 3) k f i) rfl rfl) ?_
      refine ev_cv rfl rfl HH_land (e_countOf (HH_land (s := upA s 12 (x + nI i))) hN.1 hN.2.2.2.2.2.2.2.1 hN.2.2.2.2.2.2.2.2.1 hN.2.2.2.2.2.2.2.2.2.1 _) ?_
      repeat (first | refine ev_gos 99 rfl ?_ | refine ev_gf2 rfl rfl rfl rfl ?_ | refine ev_gf2 rfl rfl HH_land rfl ?_ | refine ev_gf2 rfl rfl HH_draft rfl ?_ | refine ev_gf2 rfl rfl (by with_reducible assumption) rfl ?_)
      refine ev_iff rfl rfl rfl (d_eq hq) ?_
      repeat (first | refine ev_gos 99 rfl ?_ | refine ev_gf2 rfl rfl rfl rfl ?_ | refine ev_gf2 rfl rfl HH_land rfl ?_ | refine ev_gf2 rfl rfl HH_draft rfl ?_ | refine ev_gf2 rfl rfl (by with_reducible assumption) rfl ?_)
      refine ev_ri rfl ?_ rfl
      show nI i = (bif decide (¬ nI (cntS W (W * H) (dnS (ngI W (W * H) (l 3) k f i) 3 49)) = y) then _ else _)
      rw [decide_eq_true hq]
      rfl
theorem INV.two (h : INV s l A B W H P fi c) : W * H = 0 ∨ (2 ≤ W ∧ 2 ≤ H) := by
  rcases h.1.2.2.2.2.2.2.1 with ⟨a, _, _⟩ | q
  · exact Or.inl (by rw [a, Nat.zero_mul])
  · exact Or.inr q
theorem INV.try0 (h : INV s l A B W H P fi c) : SP W H P (l 3) (A 4) (va_cpy (A 10) (A 13) 0 0 49) (A 11) (s 9) (s 10) (va_cpy (A 29) (A 30) 0 0 58) :=
  SP_congr h.2.2.2.2.1 (fun q hq => by rw [pk_cpy_in (by omega) (by omega), Nat.sub_zero, Nat.zero_add]) (fun _ _ => rfl) rfl rfl (fun q hq => by rw [pk_cpy_in (by omega) (by omega), Nat.sub_zero, Nat.zero_add])
theorem INV.tryN (h : INV s l A B W H P fi c) {k : Nat} (hk : k ≤ 4) (n : Nat) : ∃ x, SP W H P (l 3) (A 4) (ngI W (W * H) (l 3) k (va_cpy (A 10) (A 13) 0 0 49) n) (A 11) (s 9) x (nmN W H (l 3) k (va_cpy (A 29) (A 30) 0 0 58) n) :=
  SP_nights h.try0 h.1.2.2.2.1 h.1.2.2.2.2.1 h.two h.2.2.1 hk n
theorem aside_eq (A : Nat → Nat → Int32) (F : Nat → Int32) : upA A 30 F = upA (upA A 31 (A 31)) 30 F := by rw [upA_id]
theorem b_left (h : INV s l A B W H P fi c) (x y : Int32) : Both sc (d + 12) m_C_left 3 m_M_left 4 [.int x, .int y] w s l A B := by
  obtain ⟨hN, hM, hR, hK, hS, hD, hX, hI, hT, hF, hO, hB⟩ := id h
  have h49 := hN.n49
  have e20 : in3 y 0 20 = inR y 21 := in3_R y (N := 21) (by decide)
  cases hb : inR x (W * H) with
  | false =>
    refine ⟨-1000000001, HH w s l A B, w, s, l, A, B, ?_, ?_, ⟨W, H, P, fi, c, h⟩⟩
    · repeat (first | refine ev_gos 99 rfl ?_ | refine ev_gf2 rfl rfl rfl rfl ?_ | refine ev_gf2 rfl rfl HH_land rfl ?_ | refine ev_gf2 rfl rfl HH_draft rfl ?_ | refine ev_gf2 rfl rfl (by with_reducible assumption) rfl ?_)
      refine ev_cv rfl rfl rfl (e_isCell hN.cells x) ?_
      rw [hb]
      (first | refine ev_ift rfl rfl rfl rfl ?_ | refine ev_iff rfl rfl rfl rfl ?_)
      repeat (first | refine ev_gos 99 rfl ?_ | refine ev_gf2 rfl rfl rfl rfl ?_ | refine ev_gf2 rfl rfl HH_land rfl ?_ | refine ev_gf2 rfl rfl HH_draft rfl ?_ | refine ev_gf2 rfl rfl (by with_reducible assumption) rfl ?_)
      exact ev_ri rfl rfl rfl
    · repeat (first | refine ev_gos 99 rfl ?_ | refine ev_gf2 rfl rfl rfl rfl ?_ | refine ev_gf2 rfl rfl HH_land rfl ?_ | refine ev_gf2 rfl rfl HH_draft rfl ?_ | refine ev_gf2 rfl rfl (by with_reducible assumption) rfl ?_)
      refine ev_cv rfl rfl rfl (e_misCell hM x) ?_
      rw [hb]
      (first | refine ev_ift rfl rfl rfl rfl ?_ | refine ev_iff rfl rfl rfl rfl ?_)
      repeat (first | refine ev_gos 99 rfl ?_ | refine ev_gf2 rfl rfl rfl rfl ?_ | refine ev_gf2 rfl rfl HH_land rfl ?_ | refine ev_gf2 rfl rfl HH_draft rfl ?_ | refine ev_gf2 rfl rfl (by with_reducible assumption) rfl ?_)
      exact ev_ri rfl rfl rfl
  | true =>
    obtain ⟨q, q1, q2⟩ := inR_of (by omega) hb
    subst q2
    cases hb2 : inR y 21 with
    | false =>
      refine ⟨-1000000002, HH w s l A B, w, s, l, A, B, ?_, ?_, ⟨W, H, P, fi, c, h⟩⟩
      · repeat (first | refine ev_gos 99 rfl ?_ | refine ev_gf2 rfl rfl rfl rfl ?_ | refine ev_gf2 rfl rfl HH_land rfl ?_ | refine ev_gf2 rfl rfl HH_draft rfl ?_ | refine ev_gf2 rfl rfl (by with_reducible assumption) rfl ?_)
        refine ev_cv rfl rfl rfl (e_isCell hN.cells _) ?_
        rw [hb]
        (first | refine ev_ift rfl rfl rfl rfl ?_ | refine ev_iff rfl rfl rfl rfl ?_)
        repeat (first | refine ev_gos 99 rfl ?_ | refine ev_gf2 rfl rfl rfl rfl ?_ | refine ev_gf2 rfl rfl HH_land rfl ?_ | refine ev_gf2 rfl rfl HH_draft rfl ?_ | refine ev_gf2 rfl rfl (by with_reducible assumption) rfl ?_)
        refine ev_cv rfl rfl rfl (e_canTry _ _) ?_
        rw [hb2]
        (first | refine ev_ift rfl rfl rfl rfl ?_ | refine ev_iff rfl rfl rfl rfl ?_)
        repeat (first | refine ev_gos 99 rfl ?_ | refine ev_gf2 rfl rfl rfl rfl ?_ | refine ev_gf2 rfl rfl HH_land rfl ?_ | refine ev_gf2 rfl rfl HH_draft rfl ?_ | refine ev_gf2 rfl rfl (by with_reducible assumption) rfl ?_)
        exact ev_ri rfl rfl rfl
      · repeat (first | refine ev_gos 99 rfl ?_ | refine ev_gf2 rfl rfl rfl rfl ?_ | refine ev_gf2 rfl rfl HH_land rfl ?_ | refine ev_gf2 rfl rfl HH_draft rfl ?_ | refine ev_gf2 rfl rfl (by with_reducible assumption) rfl ?_)
        refine ev_cv rfl rfl rfl (e_misCell hM _) ?_
        rw [hb]
        (first | refine ev_ift rfl rfl rfl rfl ?_ | refine ev_iff rfl rfl rfl rfl ?_)
        repeat (first | refine ev_gos 99 rfl ?_ | refine ev_gf2 rfl rfl rfl rfl ?_ | refine ev_gf2 rfl rfl HH_land rfl ?_ | refine ev_gf2 rfl rfl HH_draft rfl ?_ | refine ev_gf2 rfl rfl (by with_reducible assumption) rfl ?_)
        refine ev_cs rfl rfl rfl (e_inB y 0 20 rfl (by decide) (by decide)) ?_
        rw [e20, hb2]
        (first | refine ev_ift rfl rfl rfl rfl ?_ | refine ev_iff rfl rfl rfl rfl ?_)
        repeat (first | refine ev_gos 99 rfl ?_ | refine ev_gf2 rfl rfl rfl rfl ?_ | refine ev_gf2 rfl rfl HH_land rfl ?_ | refine ev_gf2 rfl rfl HH_draft rfl ?_ | refine ev_gf2 rfl rfl (by with_reducible assumption) rfl ?_)
        exact ev_ri rfl rfl rfl
    | true =>
      obtain ⟨n, n1, n2⟩ := inR_of (by decide) hb2
      subst n2
      obtain ⟨k, k1, k2⟩ := hS.2.2.2.1
      obtain ⟨xx, hT2⟩ := h.tryN k1 n
      have ek : va_cpy (A 29) (A 30) 0 0 58 57 = nI k := by
        rw [pk_cpy_in (by decide) (by decide)]
        exact hS.2.2.2.2.2.2.2.trans k2
      obtain ⟨g', hm⟩ := e_mleft_loop (sc := sc) (d := d + 8) (w := w) (s := upA (upA s 11 (s 9)) 12 (s 10 + nI n)) (l := l) (A := upA (upA A 14 (va_cpy (A 11) (A 14) 0 0 7)) 13 (ngI W (W * H) (l 3) k (va_cpy (A 10) (A 13) 0 0 49) n)) (B := B) (rk := l 3) (W := W) (H := H) (P := P) hM hR k1 ek (q := q) (n := n) (by omega) (by omega) n 0 (A 31) (Nat.zero_add n)
      refine ⟨ngI W (W * H) (l 3) k (va_cpy (A 10) (A 13) 0 0 49) n q, HH w (upA (upA s 11 (s 9)) 12 (s 10 + nI n)) l (upA (upA A 14 (va_cpy (A 11) (A 14) 0 0 7)) 13 (ngI W (W * H) (l 3) k (va_cpy (A 10) (A 13) 0 0 49) n)) B, w, upA (upA s 11 (s 9)) 12 (s 10 + nI n), l, upA (upA (upA (upA A 14 (va_cpy (A 11) (A 14) 0 0 7)) 13 (ngI W (W * H) (l 3) k (va_cpy (A 10) (A 13) 0 0 49) n)) 31 g') 30 (nmN W H (l 3) k (va_cpy (A 29) (A 30) 0 0 58) n), B, ?_, ?_, ⟨W, H, P, fi, c, hN, hM, hR, hK, hS, hD, hX, hI, hT, hF, hO, hB⟩⟩
      · repeat (first | refine ev_gos 99 rfl ?_ | refine ev_gf2 rfl rfl rfl rfl ?_ | refine ev_gf2 rfl rfl HH_land rfl ?_ | refine ev_gf2 rfl rfl HH_draft rfl ?_ | refine ev_gf2 rfl rfl (by with_reducible assumption) rfl ?_)
        refine ev_cv rfl rfl rfl (e_isCell hN.cells _) ?_
        rw [hb]
        (first | refine ev_ift rfl rfl rfl rfl ?_ | refine ev_iff rfl rfl rfl rfl ?_)
        repeat (first | refine ev_gos 99 rfl ?_ | refine ev_gf2 rfl rfl rfl rfl ?_ | refine ev_gf2 rfl rfl HH_land rfl ?_ | refine ev_gf2 rfl rfl HH_draft rfl ?_ | refine ev_gf2 rfl rfl (by with_reducible assumption) rfl ?_)
        refine ev_cv rfl rfl rfl (e_canTry _ _) ?_
        rw [hb2]
        (first | refine ev_ift rfl rfl rfl rfl ?_ | refine ev_iff rfl rfl rfl rfl ?_)
        repeat (first | refine ev_gos 99 rfl ?_ | refine ev_gf2 rfl rfl rfl rfl ?_ | refine ev_gf2 rfl rfl HH_land rfl ?_ | refine ev_gf2 rfl rfl HH_draft rfl ?_ | refine ev_gf2 rfl rfl (by with_reducible assumption) rfl ?_)
        refine ev_cv rfl rfl rfl (e_tryN hN k1 k2 (by omega)) ?_
        repeat (first | refine ev_gos 99 rfl ?_ | refine ev_gf2 rfl rfl rfl rfl ?_ | refine ev_gf2 rfl rfl HH_land rfl ?_ | refine ev_gf2 rfl rfl HH_draft rfl ?_ | refine ev_gf2 rfl rfl (by with_reducible assumption) rfl ?_)
        refine ev_ix q rfl rfl rfl (by omega) (by decide) ?_
        exact ev_ri rfl rfl rfl
      · repeat (first | refine ev_gos 99 rfl ?_ | refine ev_gf2 rfl rfl rfl rfl ?_ | refine ev_gf2 rfl rfl HH_land rfl ?_ | refine ev_gf2 rfl rfl HH_draft rfl ?_ | refine ev_gf2 rfl rfl (by with_reducible assumption) rfl ?_)
        refine ev_cv rfl rfl rfl (e_misCell (s := upA (upA s 11 (s 9)) 12 (s 10 + nI n)) (A := upA (upA A 14 _) 13 _) hM _) ?_
        rw [hb]
        (first | refine ev_ift rfl rfl rfl rfl ?_ | refine ev_iff rfl rfl rfl rfl ?_)
        repeat (first | refine ev_gos 99 rfl ?_ | refine ev_gf2 rfl rfl rfl rfl ?_ | refine ev_gf2 rfl rfl HH_land rfl ?_ | refine ev_gf2 rfl rfl HH_draft rfl ?_ | refine ev_gf2 rfl rfl (by with_reducible assumption) rfl ?_)
        refine ev_cs rfl rfl rfl (e_inB (nI n) 0 20 rfl (by decide) (by decide)) ?_
        rw [e20, hb2]
        (first | refine ev_ift rfl rfl rfl rfl ?_ | refine ev_iff rfl rfl rfl rfl ?_)
        repeat (first | refine ev_gos 99 rfl ?_ | refine ev_gf2 rfl rfl rfl rfl ?_ | refine ev_gf2 rfl rfl HH_land rfl ?_ | refine ev_gf2 rfl rfl HH_draft rfl ?_ | refine ev_gf2 rfl rfl (by with_reducible assumption) rfl ?_)
        refine ev_cv rfl rfl rfl e_mlayAside ?_
        rw [aside_eq]
        repeat (first | refine ev_gos 99 rfl ?_ | refine ev_gf2 rfl rfl rfl rfl ?_ | refine ev_gf2 rfl rfl HH_land rfl ?_ | refine ev_gf2 rfl rfl HH_draft rfl ?_ | refine ev_gf2 rfl rfl (by with_reducible assumption) rfl ?_)
        rw [hT2.2.2.2.2.1 q (by omega)] at hm
        exact hm
theorem b_willCount (h : INV s l A B W H P fi c) (y : Int32) : Both sc (d + 12) m_C_willCount 2 m_M_willCount 3 [.int y] w s l A B := by
  obtain ⟨hN, hM, hR, hK, hS, hD, hX, hI, hT, hF, hO, hB⟩ := id h
  have h49 := hN.n49
  have e20 : in3 y 0 20 = inR y 21 := in3_R y (N := 21) (by decide)
  cases hb2 : inR y 21 with
  | false =>
    refine ⟨-1000000002, HH w s l A B, w, s, l, A, B, ?_, ?_, ⟨W, H, P, fi, c, h⟩⟩
    · repeat (first | refine ev_gos 99 rfl ?_ | refine ev_gf2 rfl rfl rfl rfl ?_ | refine ev_gf2 rfl rfl HH_land rfl ?_ | refine ev_gf2 rfl rfl HH_draft rfl ?_ | refine ev_gf2 rfl rfl (by with_reducible assumption) rfl ?_)
      refine ev_cv rfl rfl rfl (e_canTry _ _) ?_
      rw [hb2]
      (first | refine ev_ift rfl rfl rfl rfl ?_ | refine ev_iff rfl rfl rfl rfl ?_)
      repeat (first | refine ev_gos 99 rfl ?_ | refine ev_gf2 rfl rfl rfl rfl ?_ | refine ev_gf2 rfl rfl HH_land rfl ?_ | refine ev_gf2 rfl rfl HH_draft rfl ?_ | refine ev_gf2 rfl rfl (by with_reducible assumption) rfl ?_)
      exact ev_ri rfl rfl rfl
    · repeat (first | refine ev_gos 99 rfl ?_ | refine ev_gf2 rfl rfl rfl rfl ?_ | refine ev_gf2 rfl rfl HH_land rfl ?_ | refine ev_gf2 rfl rfl HH_draft rfl ?_ | refine ev_gf2 rfl rfl (by with_reducible assumption) rfl ?_)
      refine ev_cs rfl rfl rfl (e_inB y 0 20 rfl (by decide) (by decide)) ?_
      rw [e20, hb2]
      (first | refine ev_ift rfl rfl rfl rfl ?_ | refine ev_iff rfl rfl rfl rfl ?_)
      repeat (first | refine ev_gos 99 rfl ?_ | refine ev_gf2 rfl rfl rfl rfl ?_ | refine ev_gf2 rfl rfl HH_land rfl ?_ | refine ev_gf2 rfl rfl HH_draft rfl ?_ | refine ev_gf2 rfl rfl (by with_reducible assumption) rfl ?_)
      exact ev_ri rfl rfl rfl
  | true =>
    obtain ⟨n, n1, n2⟩ := inR_of (by decide) hb2
    subst n2
    obtain ⟨k, k1, k2⟩ := hS.2.2.2.1
    obtain ⟨xx, hT2⟩ := h.tryN k1 n
    have ek : va_cpy (A 29) (A 30) 0 0 58 57 = nI k := by
      rw [pk_cpy_in (by decide) (by decide)]
      exact hS.2.2.2.2.2.2.2.trans k2
    obtain ⟨g', hm⟩ := e_mwill_loop (sc := sc) (d := d + 8) (w := w) (s := upA (upA s 11 (s 9)) 12 (s 10 + nI n)) (l := l) (A := upA (upA A 14 (va_cpy (A 11) (A 14) 0 0 7)) 13 (ngI W (W * H) (l 3) k (va_cpy (A 10) (A 13) 0 0 49) n)) (B := B) (rk := l 3) (W := W) (H := H) (P := P) hM hR k1 ek (n := n) (by omega) n 0 (A 31) (Nat.zero_add n)
    refine ⟨nI (cntS W (W * H) (dnS (ngI W (W * H) (l 3) k (va_cpy (A 10) (A 13) 0 0 49) n) 3 49)), HH w (upA (upA s 11 (s 9)) 12 (s 10 + nI n)) l (upA (upA A 14 (va_cpy (A 11) (A 14) 0 0 7)) 13 (ngI W (W * H) (l 3) k (va_cpy (A 10) (A 13) 0 0 49) n)) B, w, upA (upA s 11 (s 9)) 12 (s 10 + nI n), l, upA (upA (upA (upA A 14 (va_cpy (A 11) (A 14) 0 0 7)) 13 (ngI W (W * H) (l 3) k (va_cpy (A 10) (A 13) 0 0 49) n)) 31 g') 30 (nmN W H (l 3) k (va_cpy (A 29) (A 30) 0 0 58) n), B, ?_, ?_, ⟨W, H, P, fi, c, hN, hM, hR, hK, hS, hD, hX, hI, hT, hF, hO, hB⟩⟩
    · repeat (first | refine ev_gos 99 rfl ?_ | refine ev_gf2 rfl rfl rfl rfl ?_ | refine ev_gf2 rfl rfl HH_land rfl ?_ | refine ev_gf2 rfl rfl HH_draft rfl ?_ | refine ev_gf2 rfl rfl (by with_reducible assumption) rfl ?_)
      refine ev_cv rfl rfl rfl (e_canTry _ _) ?_
      rw [hb2]
      (first | refine ev_ift rfl rfl rfl rfl ?_ | refine ev_iff rfl rfl rfl rfl ?_)
      repeat (first | refine ev_gos 99 rfl ?_ | refine ev_gf2 rfl rfl rfl rfl ?_ | refine ev_gf2 rfl rfl HH_land rfl ?_ | refine ev_gf2 rfl rfl HH_draft rfl ?_ | refine ev_gf2 rfl rfl (by with_reducible assumption) rfl ?_)
      refine ev_cv rfl rfl rfl (e_tryN hN k1 k2 (by omega)) ?_
      repeat (first | refine ev_gos 99 rfl ?_ | refine ev_gf2 rfl rfl rfl rfl ?_ | refine ev_gf2 rfl rfl HH_land rfl ?_ | refine ev_gf2 rfl rfl HH_draft rfl ?_ | refine ev_gf2 rfl rfl (by with_reducible assumption) rfl ?_)
      refine ev_cv rfl rfl rfl (e_seen (p := 12) (pd := 13) (pa := 14) (wd := s 9) (nt := s 10 + nI n) (f := ngI W (W * H) (l 3) k (va_cpy (A 10) (A 13) 0 0 49) n) rfl rfl) ?_
      refine ev_cv rfl rfl HH_land (e_countOf (HH_land (s := upA (upA s 11 (s 9)) 12 (s 10 + nI n))) hN.1 hN.2.2.2.2.2.2.2.1 hN.2.2.2.2.2.2.2.2.1 hN.2.2.2.2.2.2.2.2.2.1 _) ?_
      exact ev_ri rfl rfl rfl
    · repeat (first | refine ev_gos 99 rfl ?_ | refine ev_gf2 rfl rfl rfl rfl ?_ | refine ev_gf2 rfl rfl HH_land rfl ?_ | refine ev_gf2 rfl rfl HH_draft rfl ?_ | refine ev_gf2 rfl rfl (by with_reducible assumption) rfl ?_)
      refine ev_cs rfl rfl rfl (e_inB (nI n) 0 20 rfl (by decide) (by decide)) ?_
      rw [e20, hb2]
      (first | refine ev_ift rfl rfl rfl rfl ?_ | refine ev_iff rfl rfl rfl rfl ?_)
      repeat (first | refine ev_gos 99 rfl ?_ | refine ev_gf2 rfl rfl rfl rfl ?_ | refine ev_gf2 rfl rfl HH_land rfl ?_ | refine ev_gf2 rfl rfl HH_draft rfl ?_ | refine ev_gf2 rfl rfl (by with_reducible assumption) rfl ?_)
      refine ev_cv rfl rfl rfl e_mlayAside ?_
      rw [aside_eq]
      repeat (first | refine ev_gos 99 rfl ?_ | refine ev_gf2 rfl rfl rfl rfl ?_ | refine ev_gf2 rfl rfl HH_land rfl ?_ | refine ev_gf2 rfl rfl HH_draft rfl ?_ | refine ev_gf2 rfl rfl (by with_reducible assumption) rfl ?_)
      rw [cnt_eq hN hT2] at hm
      exact hm
theorem who_cong {f g : Nat → Int32} : ∀ n, (∀ p, p < n → f p = g p) → whoP f n = whoP g n
  | 0, _ => rfl
  | n + 1, h => by
    show (if f n = -1 then whoP f n else whoP f n ||| _) = (if g n = -1 then whoP g n else whoP g n ||| _)
    rw [h n (by omega), who_cong n (fun p hp => h p (by omega))]
theorem tru_cong {f g a b : Nat → Int32} : ∀ n, (∀ p, p < n → f p = g p ∧ a p = b p) → truP f a n = truP g b n
  | 0, _ => rfl
  | n + 1, h => by
    show (if f n = -1 then truP f a n else truP f a n + _) = (if g n = -1 then truP g b n else truP g b n + _)
    rw [(h n (by omega)).1, (h n (by omega)).2, tru_cong n (fun p hp => h p (by omega))]
theorem INV.tru (h : INV s l A B W H P fi c) : truP (atM (A 29)) (kdM (A 27)) P = truP (A 11) (A 4) P := tru_cong P (fun p hp => ⟨h.aM (by have := h.p7; omega), h.2.2.2.1 p hp⟩)
theorem b_wrongFirst (h : INV s l A B W H P fi c) : Both sc (d + 12) m_C_wrongFirst 3 m_M_wrongFirst 3 [] w s l A B := by
  obtain ⟨hN, hM, hR, hK, hS, hD, hX, hI, hT, hF, hO, hB⟩ := id h
  have h49 := hN.n49
  obtain ⟨k, k1, k2⟩ := hS.2.2.2.1
  have ek : va_cpy (A 29) (A 30) 0 0 58 57 = nI k := by
    rw [pk_cpy_in (by decide) (by decide)]
    exact hS.2.2.2.2.2.2.2.trans k2
  obtain ⟨j, hc⟩ := e_wrong_loop (sc := sc) (d := d + 7) (w := w) (s := upA s 11 (s 9)) (l := l) (A := upA A 14 (va_cpy (A 11) (A 14) 0 0 7)) (B := B) (W := W) (H := H) (P := P) hN k1 k2 (va_cpy (A 10) (A 13) 0 0 49) (s 10) (truP (A 11) (A 4) P) 21 0 (Nat.zero_add 21)
  obtain ⟨g', j2, hm⟩ := e_mwrong_loop (sc := sc) (d := d + 8) (w := w) (s := upA (upA s 11 (s 9)) 12 (s 10 + nI j)) (l := l) (A := upA (upA A 14 (va_cpy (A 11) (A 14) 0 0 7)) 13 (ngI W (W * H) (l 3) k (va_cpy (A 10) (A 13) 0 0 49) j)) (B := B) (rk := l 3) (W := W) (H := H) (P := P) hM hR k1 ek (truP (A 11) (A 4) P) 21 0 (A 31) (Nat.zero_add 21)
  refine ⟨fnd (fun i => decide (¬ nI (cntS W (W * H) (dnS (ngI W (W * H) (l 3) k (va_cpy (A 10) (A 13) 0 0 49) i) 3 49)) = truP (A 11) (A 4) P)) 21 0, HH w (upA (upA s 11 (s 9)) 12 (s 10 + nI j)) l (upA (upA A 14 (va_cpy (A 11) (A 14) 0 0 7)) 13 (ngI W (W * H) (l 3) k (va_cpy (A 10) (A 13) 0 0 49) j)) B, w, upA (upA s 11 (s 9)) 12 (s 10 + nI j), l, upA (upA (upA (upA A 14 (va_cpy (A 11) (A 14) 0 0 7)) 13 (ngI W (W * H) (l 3) k (va_cpy (A 10) (A 13) 0 0 49) j)) 31 g') 30 (nmN W H (l 3) k (va_cpy (A 29) (A 30) 0 0 58) j2), B, ?_, ?_, ⟨W, H, P, fi, c, hN, hM, hR, hK, hS, hD, hX, hI, hT, hF, hO, hB⟩⟩
  · repeat (first | refine ev_gos 99 rfl ?_ | refine ev_gf2 rfl rfl rfl rfl ?_ | refine ev_gf2 rfl rfl HH_land rfl ?_ | refine ev_gf2 rfl rfl HH_draft rfl ?_ | refine ev_gf2 rfl rfl (by with_reducible assumption) rfl ?_)
    refine ev_cv rfl rfl rfl (e_truth hN.2.2.1 h.p7) ?_
    repeat (first | refine ev_gos 99 rfl ?_ | refine ev_gf2 rfl rfl rfl rfl ?_ | refine ev_gf2 rfl rfl HH_land rfl ?_ | refine ev_gf2 rfl rfl HH_draft rfl ?_ | refine ev_gf2 rfl rfl (by with_reducible assumption) rfl ?_)
    refine ev_cv rfl rfl rfl e_become ?_
    rw [upA_comm A (p := 13) (q := 14) rfl]
    repeat (first | refine ev_gos 99 rfl ?_ | refine ev_gf2 rfl rfl rfl rfl ?_ | refine ev_gf2 rfl rfl HH_land rfl ?_ | refine ev_gf2 rfl rfl HH_draft rfl ?_ | refine ev_gf2 rfl rfl (by with_reducible assumption) rfl ?_)
    have e : s 10 + nI 0 = s 10 := Int32.add_zero _
    rw [e] at hc
    exact hc
  · repeat (first | refine ev_gos 99 rfl ?_ | refine ev_gf2 rfl rfl rfl rfl ?_ | refine ev_gf2 rfl rfl HH_land rfl ?_ | refine ev_gf2 rfl rfl HH_draft rfl ?_ | refine ev_gf2 rfl rfl (by with_reducible assumption) rfl ?_)
    refine ev_cv rfl rfl rfl e_mlayAside ?_
    rw [aside_eq]
    repeat (first | refine ev_gos 99 rfl ?_ | refine ev_gf2 rfl rfl rfl rfl ?_ | refine ev_gf2 rfl rfl HH_land rfl ?_ | refine ev_gf2 rfl rfl HH_draft rfl ?_ | refine ev_gf2 rfl rfl (by with_reducible assumption) rfl ?_)
    refine ev_cv rfl rfl rfl (e_mtruly (A := upA (upA (upA (upA A 14 _) 13 _) 31 _) 30 _) hM) ?_
    refine (?_ : Ek sc _ m_M_wrongFirst 8 _ [.int (truP (atM (A 29)) (kdM (A 27)) P)] _ _ _ _ _)
    rw [h.tru]
    repeat (first | refine ev_gos 99 rfl ?_ | refine ev_gf2 rfl rfl rfl rfl ?_ | refine ev_gf2 rfl rfl HH_land rfl ?_ | refine ev_gf2 rfl rfl HH_draft rfl ?_ | refine ev_gf2 rfl rfl (by with_reducible assumption) rfl ?_)
    rw [fnd_cong (g := fun i => decide (¬ nI (cntS W (W * H) (dnS (ngI W (W * H) (l 3) k (va_cpy (A 10) (A 13) 0 0 49) i) 3 49)) = truP (A 11) (A 4) P)) 21 0 (fun j _ hj => by obtain ⟨xx, hT2⟩ := h.tryN k1 j; rw [cnt_eq hN hT2])] at hm
    exact hm
end TRY
