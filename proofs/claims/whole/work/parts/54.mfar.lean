/-! the model: groups told, who lies, steps, copies -/
def isMF (W H : Nat) (g : Int64) (k c : Nat) (b : Bool) : Bool := b || decide (shpM W H k c = g)
def isMK (W H : Nat) (g : Int64) (k : Nat) (b : Bool) : Bool := fo (isMF W H g k) (W * H) b
/-- is it a shape of any kind -/
def isM (W H : Nat) (g : Int64) : Bool := fo (isMK W H g) 5 false
/-- how many groups, where the greatest begins, its cells, how many are forged -/
def gpF (W H : Nat) (a : Nat × Int32 × Nat × Nat) (g : Int64) : Nat × Int32 × Nat × Nat := (a.1 + 1, (if a.2.2.1 < pop g then nI (lo g) else a.2.1), (if a.2.2.1 < pop g then pop g else a.2.2.1), a.2.2.2 + (bif isM W H g then 0 else 1))
theorem or0i (x : Int32) : x ||| 0 = x := Int32.toBitVec_inj.mp (by rw [Int32.toBitVec_or]; show x.toBitVec ||| 0#32 = x.toBitVec; simp)
/-- as the model has one's nearest: FAR for none -/
def encF (x : Int32) : Int32 := if x = -1 then 100000000 else x
theorem nrP_rng {W N P : Nat} {at_ : Nat → Int32} (hL : LF at_ N) (hN : N ≤ 49) (hP : P ≤ 7) {p : Nat} (hp : p < 7) : ∀ n, n ≤ P → nrP W at_ p n = -1 ∨ ∃ v, v ≤ 96 ∧ nrP W at_ p n = nI v
  | 0, _ => Or.inl rfl
  | n + 1, hn => by
    have ih := nrP_rng (W := W) hL hN hP hp n (by omega)
    have e : nrP W at_ p (n + 1) = (if n = p ∨ at_ p = -1 ∨ at_ n = -1 then nrP W at_ p n else if nrP W at_ p n = -1 then nI (dist W (at_ p).toNatClampNeg (at_ n).toNatClampNeg) else if nI (dist W (at_ p).toNatClampNeg (at_ n).toNatClampNeg) < nrP W at_ p n then nI (dist W (at_ p).toNatClampNeg (at_ n).toNatClampNeg) else nrP W at_ p n) := rfl
    rw [e]
    have hd : ∀ q, q < 7 → ¬ at_ q = -1 → (at_ q).toNatClampNeg < 49 := fun q hq h => by
      rcases hL q hq with e | ⟨c, c1, c2⟩
      · exact absurd e h
      · rw [c2, nI_clamp (by omega)]
        omega
    by_cases h1 : n = p ∨ at_ p = -1 ∨ at_ n = -1
    · rw [if_pos h1]
      exact ih
    · rw [if_neg h1]
      have hb := dist_le W (hd p hp (fun z => h1 (Or.inr (Or.inl z)))) (hd n (by omega) (fun z => h1 (Or.inr (Or.inr z))))
      split
      · exact Or.inr ⟨_, hb, rfl⟩
      · split
        · exact Or.inr ⟨_, hb, rfl⟩
        · exact ih
theorem absM {a b : Nat} (ha : a < 2 ^ 30) (hb : b < 2 ^ 30) : (if (nI a - nI b) < 0 then -(nI a - nI b) else nI a - nI b) = nI (absd a b) := by
  rw [← abs_nI ha hb]
  by_cases h : nI a - nI b < 0
  · rw [if_pos h, if_neg (lt0 h), Int32.zero_sub]
  · rw [if_neg h, if_pos (ge0 h)]
theorem cpy_s (f g : Nat → Int32) (i j k : Nat) : upd (va_cpy f g i j k) (j + k) (f (i + k)) = va_cpy f g i j (k + 1) := by
  funext q
  by_cases h : q = j + k
  · rw [h, pk_us, pk_cpy_in (by omega) (by omega)]
    congr 1
    omega
  · rw [pk_un h]
    by_cases h2 : j ≤ q ∧ q < j + k
    · rw [pk_cpy_in h2.1 h2.2, pk_cpy_in h2.1 (by omega)]
    · rw [pk_cpy_out (by omega), pk_cpy_out (by omega)]
theorem cpy_0 (f g : Nat → Int32) (i j : Nat) : va_cpy f g i j 0 = g := by
  funext q
  exact pk_cpy_out (by omega)
theorem hset_id {h : AHp} {q : Nat} {x : ACell} (hd : h[q]? = some x) : h.set q x = h := by
  apply List.ext_getElem?
  intro i
  by_cases hq : q = i
  · subst hq
    rw [gs_eq hd, hd]
  · rw [gs_ne hq]
theorem e_copies_loop {sc : Scr} {d : Nat} {h : AHp} {p q m m2 : Nat} {f g : Nat → Int32} (hp : h[p]? = some (aI m f)) (hq : h[q]? = some (aI m2 g)) (hpq : q ≠ p) {i j z : Nat} (h1 : i + z ≤ m) (h2 : j + z ≤ m2) (hm : m < 2 ^ 30) (hm2 : m2 < 2 ^ 30) : ∀ (n k : Nat), k + n = z → Ev sc d m_M_copies 7 [some (.ref p), some (.int (nI i)), some (.ref q), some (.int (nI j)), some (.int (nI z)), some (.int (nI k))] [.int (nI z), .int (nI k)] (h.set q (aI m2 (va_cpy f g i j k))) none (h.set q (aI m2 (va_cpy f g i j z))) := by
  intro n
  induction n with
  | zero =>
    intro k hk
    have e : k = z := by omega
    subst e
    refine ev_ift rfl rfl rfl (c_ge ((nI_leI (by omega) (by omega)).mpr (by omega))) ?_
    exact ev_rv rfl rfl
  | succ n ih =>
    intro k hk
    refine ev_iff rfl rfl rfl (d_ge (nI_lt3 (by omega) (by omega) (by omega))) ?_
    repeat (first | refine ev_gos 99 rfl ?_ | refine ev_gf2 rfl rfl rfl rfl ?_ | refine ev_gf2 rfl rfl HH_land rfl ?_ | refine ev_gf2 rfl rfl HH_draft rfl ?_ | refine ev_gf2 rfl rfl (by with_reducible assumption) rfl ?_)
    refine ev_ix (i + k) rfl (by rw [gs_ne hpq]; exact hp) (nI_add i k) (by omega) (by omega) ?_
    refine ev_is (i := nI j + nI k) rfl (gs_eq hq) (by rw [nI_add]; exact inI (by omega) (by omega)) ?_
    rw [nI_add, nI_clamp (by omega), List.set_set]
    have h3 := ih (k + 1) (by omega)
    rw [← nI_1, ← cpy_s] at h3
    repeat (first | refine ev_gos 99 rfl ?_ | refine ev_gf2 rfl rfl rfl rfl ?_ | refine ev_gf2 rfl rfl HH_land rfl ?_ | refine ev_gf2 rfl rfl HH_draft rfl ?_ | refine ev_gf2 rfl rfl (by with_reducible assumption) rfl ?_)
    exact h3
theorem e_copies {sc : Scr} {d : Nat} {h : AHp} {p q m m2 : Nat} {f g : Nat → Int32} {xi xj xz : Int32} (hp : h[p]? = some (aI m f)) (hq : h[q]? = some (aI m2 g)) (hpq : q ≠ p) {i j z : Nat} (ei : xi = nI i) (ej : xj = nI j) (ez : xz = nI z) (h1 : i + z ≤ m) (h2 : j + z ≤ m2) (hm : m < 2 ^ 30) (hm2 : m2 < 2 ^ 30) : Ev sc d m_M_copies 0 (iniL 6 [.ref p, .int xi, .ref q, .int xj, .int xz]) [] h none (h.set q (aI m2 (va_cpy f g i j z))) := by
  subst ei; subst ej; subst ez
  repeat (first | refine ev_gos 99 rfl ?_ | refine ev_gf2 rfl rfl rfl rfl ?_ | refine ev_gf2 rfl rfl HH_land rfl ?_ | refine ev_gf2 rfl rfl HH_draft rfl ?_ | refine ev_gf2 rfl rfl (by with_reducible assumption) rfl ?_)
  have h3 := e_copies_loop (sc := sc) (d := d) hp hq hpq h1 h2 hm hm2 z 0 (Nat.zero_add z)
  rw [cpy_0, hset_id hq] at h3
  exact h3
/-- where people lie, in the model's row -/
abbrev atM (f : Nat → Int32) : Nat → Int32 := fun p => f (49 + p)
abbrev kdM (g : Nat → Int32) : Nat → Int32 := fun p => g (5 + p)
section MFA
variable {sc : Scr} {d : Nat} {w : Bool} {s : Nat → Int32} {l : Nat → Int64} {A : Nat → Nat → Int32} {B : Nat → Nat → Int64} {W H P : Nat} {rk : Int64}
theorem e_misShape_in (hM : MN (A 27) rk W H P) (g : Int64) {k : Nat} (hk : k < 5) (b0 : Bool) {r : Option Value} {h' : AHp} (hout : Ev sc (d + 3) m_M_isShape 8 [some (.ref 26), some (.long g), none, some (.int (b01 (isMK W H g k b0))), some (.int (nI (k + 1))), none] [.int 5, .int (nI (k + 1))] (HH w s l A B) r h') : ∀ (n i : Nat), i + n = W * H → Ev sc (d + 3) m_M_isShape 17 [some (.ref 26), some (.long g), none, some (.int (b01 (fo (isMF W H g k) i b0))), some (.int (nI k)), some (.int (nI i))] [.ref 26, .int (nI i)] (HH w s l A B) r h' := by
  have h49 := hM.n49
  intro n
  induction n with
  | zero =>
    intro i hi
    have e : i = W * H := by omega
    refine ev_cv rfl rfl rfl (e_mcells hM) ?_
    rw [← e]
    refine ev_ift rfl rfl rfl (c_ge ((nI_leI (by omega) (by omega)).mpr (by omega))) ?_
    repeat (first | refine ev_gos 99 rfl ?_ | refine ev_gf2 rfl rfl rfl rfl ?_ | refine ev_gf2 rfl rfl HH_land rfl ?_ | refine ev_gf2 rfl rfl HH_draft rfl ?_ | refine ev_gf2 rfl rfl (by with_reducible assumption) rfl ?_)
    unfold isMK at hout
    rw [← nI_1, ← e] at hout
    exact ev_wk2 hout rfl (by repeat' (first | exact trivial | refine ⟨rfl, ?_⟩))
  | succ n ih =>
    intro i hi
    refine ev_cv rfl rfl rfl (e_mcells hM) ?_
    refine ev_iff rfl rfl rfl (d_ge (nI_lt3 (by omega) (by omega) (by omega))) ?_
    repeat (first | refine ev_gos 99 rfl ?_ | refine ev_gf2 rfl rfl rfl rfl ?_ | refine ev_gf2 rfl rfl HH_land rfl ?_ | refine ev_gf2 rfl rfl HH_draft rfl ?_ | refine ev_gf2 rfl rfl (by with_reducible assumption) rfl ?_)
    have h3 := ih (i + 1) (by omega)
    have e : fo (isMF W H g k) (i + 1) b0 = (fo (isMF W H g k) i b0 || decide (shpM W H k i = g)) := rfl
    rw [e, ← nI_1] at h3
    cases hb : fo (isMF W H g k) i b0 with
    | true =>
      rw [hb] at h3
      (first | refine ev_ift rfl rfl rfl rfl ?_ | refine ev_iff rfl rfl rfl rfl ?_)
      repeat (first | refine ev_gos 99 rfl ?_ | refine ev_gf2 rfl rfl rfl rfl ?_ | refine ev_gf2 rfl rfl HH_land rfl ?_ | refine ev_gf2 rfl rfl HH_draft rfl ?_ | refine ev_gf2 rfl rfl (by with_reducible assumption) rfl ?_)
      exact h3
    | false =>
      rw [hb, Bool.false_or] at h3
      (first | refine ev_ift rfl rfl rfl rfl ?_ | refine ev_iff rfl rfl rfl rfl ?_)
      repeat (first | refine ev_gos 99 rfl ?_ | refine ev_gf2 rfl rfl rfl rfl ?_ | refine ev_gf2 rfl rfl HH_land rfl ?_ | refine ev_gf2 rfl rfl HH_draft rfl ?_ | refine ev_gf2 rfl rfl (by with_reducible assumption) rfl ?_)
      refine ev_cv rfl rfl rfl (e_mshape hM hk (by omega)) ?_
      repeat (first | refine ev_gos 99 rfl ?_ | refine ev_gf2 rfl rfl rfl rfl ?_ | refine ev_gf2 rfl rfl HH_land rfl ?_ | refine ev_gf2 rfl rfl HH_draft rfl ?_ | refine ev_gf2 rfl rfl (by with_reducible assumption) rfl ?_)
      by_cases q : shpM W H k i = g
      · rw [decide_eq_true q] at h3
        refine ev_iff rfl rfl rfl (j_ne (lc_eq.mpr q)) ?_
        repeat (first | refine ev_gos 99 rfl ?_ | refine ev_gf2 rfl rfl rfl rfl ?_ | refine ev_gf2 rfl rfl HH_land rfl ?_ | refine ev_gf2 rfl rfl HH_draft rfl ?_ | refine ev_gf2 rfl rfl (by with_reducible assumption) rfl ?_)
        exact h3
      · rw [decide_eq_false q] at h3
        refine ev_ift rfl rfl rfl (i_ne (fun z => q (lc_eq.mp z))) ?_
        repeat (first | refine ev_gos 99 rfl ?_ | refine ev_gf2 rfl rfl rfl rfl ?_ | refine ev_gf2 rfl rfl HH_land rfl ?_ | refine ev_gf2 rfl rfl HH_draft rfl ?_ | refine ev_gf2 rfl rfl (by with_reducible assumption) rfl ?_)
        exact h3
theorem e_misShape_out (hM : MN (A 27) rk W H P) (g : Int64) : ∀ (n k : Nat), k + n = 5 → Ev sc (d + 3) m_M_isShape 8 [some (.ref 26), some (.long g), none, some (.int (b01 (fo (isMK W H g) k false))), some (.int (nI k)), none] [.int 5, .int (nI k)] (HH w s l A B) (some (.int (b01 (isM W H g)))) (HH w s l A B) := by
  intro n
  induction n with
  | zero =>
    intro k hk
    have e : k = 5 := by omega
    subst e
    refine ev_ift rfl rfl rfl (c_ge (by decide : (5 : Int32) ≤ nI 5)) ?_
    repeat (first | refine ev_gos 99 rfl ?_ | refine ev_gf2 rfl rfl rfl rfl ?_ | refine ev_gf2 rfl rfl HH_land rfl ?_ | refine ev_gf2 rfl rfl HH_draft rfl ?_ | refine ev_gf2 rfl rfl (by with_reducible assumption) rfl ?_)
    exact ev_rz rfl (b01_or _) rfl rfl
  | succ n ih =>
    intro k hk
    refine ev_iff rfl rfl rfl (d_ge (nI_lt3 (b := 5) (by omega) (by omega) (by omega))) ?_
    repeat (first | refine ev_gos 99 rfl ?_ | refine ev_gf2 rfl rfl rfl rfl ?_ | refine ev_gf2 rfl rfl HH_land rfl ?_ | refine ev_gf2 rfl rfl HH_draft rfl ?_ | refine ev_gf2 rfl rfl (by with_reducible assumption) rfl ?_)
    exact e_misShape_in hM g (k := k) (by omega) _ (ih (k + 1) (by omega)) (W * H) 0 (Nat.zero_add _)
theorem e_misShape (hM : MN (A 27) rk W H P) (g : Int64) : Ev sc (d + 3) m_M_isShape 0 (iniL 6 [.ref 26, .long g]) [] (HH w s l A B) (some (.int (b01 (isM W H g)))) (HH w s l A B) := by
  repeat (first | refine ev_gos 99 rfl ?_ | refine ev_gf2 rfl rfl rfl rfl ?_ | refine ev_gf2 rfl rfl HH_land rfl ?_ | refine ev_gf2 rfl rfl HH_draft rfl ?_ | refine ev_gf2 rfl rfl (by with_reducible assumption) rfl ?_)
  exact e_misShape_out hM g 5 0 rfl
theorem e_mgroups_loop (hM : MN (A 27) rk W H P) (x : Int32) : ∀ (n : Nat) (a : Nat × Int32 × Nat × Nat) (X : Int64), pop X ≤ n → WI X (W * H) → a.2.2.1 ≤ 64 → Ev sc (d + 4) m_M_groups 25 [some (.ref 26), some (.int x), some (.int (nI a.1)), some (.int a.2.1), some (.int (nI a.2.2.1)), some (.int (nI a.2.2.2)), some (.long X), none, none, none, none] [.int (lg_cmp X 0)] (HH w s l A B) (some (.int (if x = 0 then nI (gfd W (W * H) (gpF W H) n X a).1 else if x = 1 then (gfd W (W * H) (gpF W H) n X a).2.1 else nI (gfd W (W * H) (gpF W H) n X a).2.2.2))) (HH w s l A B) := by
  have h49 := hM.n49
  have fin : ∀ (a : Nat × Int32 × Nat × Nat), Ev sc (d + 4) m_M_groups 25 [some (.ref 26), some (.int x), some (.int (nI a.1)), some (.int a.2.1), some (.int (nI a.2.2.1)), some (.int (nI a.2.2.2)), some (.long 0), none, none, none, none] [.int (lg_cmp 0 0)] (HH w s l A B) (some (.int (if x = 0 then nI a.1 else if x = 1 then a.2.1 else nI a.2.2.2))) (HH w s l A B) := by
    intro a
    refine ev_ift rfl rfl rfl (i_eq (lc_eq.mpr rfl)) ?_
    repeat (first | refine ev_gos 99 rfl ?_ | refine ev_gf2 rfl rfl rfl rfl ?_ | refine ev_gf2 rfl rfl HH_land rfl ?_ | refine ev_gf2 rfl rfl HH_draft rfl ?_ | refine ev_gf2 rfl rfl (by with_reducible assumption) rfl ?_)
    by_cases h0 : x = 0
    · refine ev_iff rfl rfl rfl (j_ne h0) ?_
      repeat (first | refine ev_gos 99 rfl ?_ | refine ev_gf2 rfl rfl rfl rfl ?_ | refine ev_gf2 rfl rfl HH_land rfl ?_ | refine ev_gf2 rfl rfl HH_draft rfl ?_ | refine ev_gf2 rfl rfl (by with_reducible assumption) rfl ?_)
      exact ev_ri rfl (by rw [if_pos h0]) rfl
    · rw [if_neg h0]
      refine ev_ift rfl rfl rfl (i_ne h0) ?_
      repeat (first | refine ev_gos 99 rfl ?_ | refine ev_gf2 rfl rfl rfl rfl ?_ | refine ev_gf2 rfl rfl HH_land rfl ?_ | refine ev_gf2 rfl rfl HH_draft rfl ?_ | refine ev_gf2 rfl rfl (by with_reducible assumption) rfl ?_)
      by_cases h1 : x = 1
      · refine ev_iff rfl rfl rfl (d_ne h1) ?_
        repeat (first | refine ev_gos 99 rfl ?_ | refine ev_gf2 rfl rfl rfl rfl ?_ | refine ev_gf2 rfl rfl HH_land rfl ?_ | refine ev_gf2 rfl rfl HH_draft rfl ?_ | refine ev_gf2 rfl rfl (by with_reducible assumption) rfl ?_)
        exact ev_ri rfl (by rw [if_pos h1]) rfl
      · rw [if_neg h1]
        refine ev_ift rfl rfl rfl (c_ne h1) ?_
        repeat (first | refine ev_gos 99 rfl ?_ | refine ev_gf2 rfl rfl rfl rfl ?_ | refine ev_gf2 rfl rfl HH_land rfl ?_ | refine ev_gf2 rfl rfl HH_draft rfl ?_ | refine ev_gf2 rfl rfl (by with_reducible assumption) rfl ?_)
        exact ev_ri rfl rfl rfl
  intro n
  induction n with
  | zero =>
    intro a X hp hX ha
    have e := pop_zero (x := X) (by omega)
    subst e
    exact fin a
  | succ n ih =>
    intro a X hp hX ha
    by_cases h0 : X = 0
    · subst h0
      rw [gfd_0]
      exact fin a
    · refine ev_iff rfl rfl rfl (j_eq (fun z => h0 (lc_eq.mp z))) ?_
      repeat (first | refine ev_gos 99 rfl ?_ | refine ev_gf2 rfl rfl rfl rfl ?_ | refine ev_gf2 rfl rfl HH_land rfl ?_ | refine ev_gf2 rfl rfl HH_draft rfl ?_ | refine ev_gf2 rfl rfl (by with_reducible assumption) rfl ?_)
      refine ev_cs rfl rfl rfl (e_lowest sc _ _ h0) ?_
      repeat (first | refine ev_gos 99 rfl ?_ | refine ev_gf2 rfl rfl rfl rfl ?_ | refine ev_gf2 rfl rfl HH_land rfl ?_ | refine ev_gf2 rfl rfl HH_draft rfl ?_ | refine ev_gf2 rfl rfl (by with_reducible assumption) rfl ?_)
      refine ev_cv rfl rfl rfl (e_mgroup hM hX (lo_spec h0).2.1) ?_
      rw [show grpS W (W * H) X (bit (lo X)) = fgS W (W * H) X by unfold fgS; rw [lowbit h0]; rfl]
      repeat (first | refine ev_gos 99 rfl ?_ | refine ev_gf2 rfl rfl rfl rfl ?_ | refine ev_gf2 rfl rfl HH_land rfl ?_ | refine ev_gf2 rfl rfl HH_draft rfl ?_ | refine ev_gf2 rfl rfl (by with_reducible assumption) rfl ?_)
      refine ev_cs rfl rfl rfl (e_bits sc _ _ _) ?_
      repeat (first | refine ev_gos 99 rfl ?_ | refine ev_gf2 rfl rfl rfl rfl ?_ | refine ev_gf2 rfl rfl HH_land rfl ?_ | refine ev_gf2 rfl rfl HH_draft rfl ?_ | refine ev_gf2 rfl rfl (by with_reducible assumption) rfl ?_)
      rw [gfd_s h0]
      have hpl := pop_le (fgS W (W * H) X)
      have h3 := ih (gpF W H a (fgS W (W * H) X)) (X &&& (fgS W (W * H) X ^^^ (-1))) (by have := rest_lt W (W * H) h0; omega) (SB_WI (rest_sub X _) hX) (by unfold gpF; dsimp only; split <;> omega)
      generalize gfd W (W * H) (gpF W H) n (X &&& (fgS W (W * H) X ^^^ (-1))) (gpF W H a (fgS W (W * H) X)) = R at h3 ⊢
      unfold gpF at h3
      dsimp only at h3
      rw [lo_fg W (W * H) h0] at h3
      have hmx : (if nI (pop (fgS W (W * H) X)) < nI a.2.2.1 then nI a.2.2.1 else nI (pop (fgS W (W * H) X))) = nI (if a.2.2.1 < pop (fgS W (W * H) X) then pop (fgS W (W * H) X) else a.2.2.1) := by
        by_cases q : a.2.2.1 < pop (fgS W (W * H) X)
        · rw [if_pos q, if_neg (nI_nlt (by omega) (by omega))]
        · rw [if_neg q]
          split
          · rfl
          · rename_i q2
            congr 1
            have q3 : ¬ pop (fgS W (W * H) X) < a.2.2.1 := fun z => q2 ((nI_ltI (a := pop (fgS W (W * H) X)) (b := a.2.2.1) (by omega) (by omega)).mpr z)
            omega
      have tail : ∀ (bb : Int32), (if a.2.2.1 < pop (fgS W (W * H) X) then nI (lo X) else a.2.1) = bb → Ev sc (d + 4) m_M_groups 69 [some (.ref 26), some (.int x), some (.int (nI a.1 + 1)), some (.int bb), some (.int (nI a.2.2.1)), some (.int (nI a.2.2.2)), some (.long X), none, some (.int (nI (lo X))), some (.long (fgS W (W * H) X)), none] [.long (fgS W (W * H) X), .int (nI a.2.2.1)] (HH w s l A B) (some (.int (if x = 0 then nI R.1 else if x = 1 then R.2.1 else nI R.2.2.2))) (HH w s l A B) := by
        intro bb eb
        rw [eb] at h3
        refine ev_cs rfl rfl rfl (e_bits sc _ _ _) ?_
        refine ev_cs rfl rfl rfl (e_greater sc _ _ _ _) ?_
        rw [hmx]
        repeat (first | refine ev_gos 99 rfl ?_ | refine ev_gf2 rfl rfl rfl rfl ?_ | refine ev_gf2 rfl rfl HH_land rfl ?_ | refine ev_gf2 rfl rfl HH_draft rfl ?_ | refine ev_gf2 rfl rfl (by with_reducible assumption) rfl ?_)
        refine ev_cv rfl rfl rfl (e_misShape hM _) ?_
        cases hi : isM W H (fgS W (W * H) X) with
        | true =>
          rw [hi] at h3
          (first | refine ev_ift rfl rfl rfl rfl ?_ | refine ev_iff rfl rfl rfl rfl ?_)
          repeat (first | refine ev_gos 99 rfl ?_ | refine ev_gf2 rfl rfl rfl rfl ?_ | refine ev_gf2 rfl rfl HH_land rfl ?_ | refine ev_gf2 rfl rfl HH_draft rfl ?_ | refine ev_gf2 rfl rfl (by with_reducible assumption) rfl ?_)
          dsimp only [cond_true] at h3
          rw [← nI_1, ← nI_add a.2.2.2 0] at h3
          exact ev_wk2 h3 rfl (by repeat' (first | exact trivial | refine ⟨rfl, ?_⟩))
        | false =>
          rw [hi] at h3
          (first | refine ev_ift rfl rfl rfl rfl ?_ | refine ev_iff rfl rfl rfl rfl ?_)
          repeat (first | refine ev_gos 99 rfl ?_ | refine ev_gf2 rfl rfl rfl rfl ?_ | refine ev_gf2 rfl rfl HH_land rfl ?_ | refine ev_gf2 rfl rfl HH_draft rfl ?_ | refine ev_gf2 rfl rfl (by with_reducible assumption) rfl ?_)
          dsimp only [cond_false] at h3
          rw [← nI_1, ← nI_1] at h3
          exact ev_wk2 h3 rfl (by repeat' (first | exact trivial | refine ⟨rfl, ?_⟩))
      by_cases q : a.2.2.1 < pop (fgS W (W * H) X)
      · refine ev_iff rfl rfl rfl (d_le (nI_lt3 (by omega) (by omega) (by omega))) ?_
        repeat (first | refine ev_gos 99 rfl ?_ | refine ev_gf2 rfl rfl rfl rfl ?_ | refine ev_gf2 rfl rfl HH_land rfl ?_ | refine ev_gf2 rfl rfl HH_draft rfl ?_ | refine ev_gf2 rfl rfl (by with_reducible assumption) rfl ?_)
        exact tail (nI (lo X)) (by rw [if_pos q])
      · refine ev_ift rfl rfl rfl (c_le ((nI_leI (by omega) (by omega)).mpr (by omega))) ?_
        repeat (first | refine ev_gos 99 rfl ?_ | refine ev_gf2 rfl rfl rfl rfl ?_ | refine ev_gf2 rfl rfl HH_land rfl ?_ | refine ev_gf2 rfl rfl HH_draft rfl ?_ | refine ev_gf2 rfl rfl (by with_reducible assumption) rfl ?_)
        exact tail a.2.1 (by rw [if_neg q])
theorem e_mgroups (hM : MN (A 27) rk W H P) (x : Int32) : Ev sc (d + 4) m_M_groups 0 (iniL 11 [.ref 26, .int x]) [] (HH w s l A B) (some (.int (if x = 0 then nI (gfd W (W * H) (gpF W H) 49 (dnS (A 29) 3 (W * H)) (0, -1, 0, 0)).1 else if x = 1 then (gfd W (W * H) (gpF W H) 49 (dnS (A 29) 3 (W * H)) (0, -1, 0, 0)).2.1 else nI (gfd W (W * H) (gpF W H) 49 (dnS (A 29) 3 (W * H)) (0, -1, 0, 0)).2.2.2))) (HH w s l A B) := by
  have h49 := hM.n49
  repeat (first | refine ev_gos 99 rfl ?_ | refine ev_gf2 rfl rfl rfl rfl ?_ | refine ev_gf2 rfl rfl HH_land rfl ?_ | refine ev_gf2 rfl rfl HH_draft rfl ?_ | refine ev_gf2 rfl rfl (by with_reducible assumption) rfl ?_)
  refine ev_cv rfl rfl rfl (e_mdentN hM 3) ?_
  repeat (first | refine ev_gos 99 rfl ?_ | refine ev_gf2 rfl rfl rfl rfl ?_ | refine ev_gf2 rfl rfl HH_land rfl ?_ | refine ev_gf2 rfl rfl HH_draft rfl ?_ | refine ev_gf2 rfl rfl (by with_reducible assumption) rfl ?_)
  exact e_mgroups_loop hM x 49 (0, -1, 0, 0) _ (Nat.le_trans (pop_WI (WI_dn _ _ _) h49) h49) (WI_dn _ _ _) (by decide)
theorem e_misLying {p : Nat} (hp : p < 7) : Ev sc d m_M_isLying 0 (iniL 2 [.ref 26, .int (nI p)]) [] (HH w s l A B) (some (.int (b01 (decide (¬ atM (A 29) p = -1))))) (HH w s l A B) := by
  repeat (first | refine ev_gos 99 rfl ?_ | refine ev_gf2 rfl rfl rfl rfl ?_ | refine ev_gf2 rfl rfl HH_land rfl ?_ | refine ev_gf2 rfl rfl HH_draft rfl ?_ | refine ev_gf2 rfl rfl (by with_reducible assumption) rfl ?_)
  refine ev_ix (49 + p) rfl rfl (nI_add 49 p) (by omega) (by decide) ?_
  repeat (first | refine ev_gos 99 rfl ?_ | refine ev_gf2 rfl rfl rfl rfl ?_ | refine ev_gf2 rfl rfl HH_land rfl ?_ | refine ev_gf2 rfl rfl HH_draft rfl ?_ | refine ev_gf2 rfl rfl (by with_reducible assumption) rfl ?_)
  by_cases q : A 29 (49 + p) = -1
  · refine ev_ift rfl rfl rfl (c_eq q) ?_
    repeat (first | refine ev_gos 99 rfl ?_ | refine ev_gf2 rfl rfl rfl rfl ?_ | refine ev_gf2 rfl rfl HH_land rfl ?_ | refine ev_gf2 rfl rfl HH_draft rfl ?_ | refine ev_gf2 rfl rfl (by with_reducible assumption) rfl ?_)
    exact ev_rz rfl (Or.inl rfl) (by rw [decide_eq_false (fun z => z q)]; rfl) rfl
  · refine ev_iff rfl rfl rfl (d_eq q) ?_
    repeat (first | refine ev_gos 99 rfl ?_ | refine ev_gf2 rfl rfl rfl rfl ?_ | refine ev_gf2 rfl rfl HH_land rfl ?_ | refine ev_gf2 rfl rfl HH_draft rfl ?_ | refine ev_gf2 rfl rfl (by with_reducible assumption) rfl ?_)
    exact ev_rz rfl (Or.inr rfl) (by rw [decide_eq_true (show ¬ atM (A 29) p = -1 from q)]; rfl) rfl
theorem e_mwho_loop (hM : MN (A 27) rk W H P) : ∀ (n i : Nat), i + n = P → Ev sc (d + 1) m_M_whoLies 10 [some (.ref 26), some (.int (whoP (atM (A 29)) i)), some (.int (nI i))] [.int 2, .ref 27, .int (nI i)] (HH w s l A B) (some (.int (whoP (atM (A 29)) P))) (HH w s l A B) := by
  have hP7 : P ≤ 7 := hM.2.2.2.2.2.1
  intro n
  induction n with
  | zero =>
    intro i hi
    have e : i = P := by omega
    refine ev_ix 2 rfl rfl rfl (by decide) (by decide) ?_
    rw [hM.2.2.1, ← e]
    refine ev_ift rfl rfl rfl (c_ge ((nI_leI (by omega) (by omega)).mpr (by omega))) ?_
    repeat (first | refine ev_gos 99 rfl ?_ | refine ev_gf2 rfl rfl rfl rfl ?_ | refine ev_gf2 rfl rfl HH_land rfl ?_ | refine ev_gf2 rfl rfl HH_draft rfl ?_ | refine ev_gf2 rfl rfl (by with_reducible assumption) rfl ?_)
    exact ev_ri rfl rfl rfl
  | succ n ih =>
    intro i hi
    refine ev_ix 2 rfl rfl rfl (by decide) (by decide) ?_
    rw [hM.2.2.1]
    refine ev_iff rfl rfl rfl (d_ge (nI_lt3 (by omega) (by omega) (by omega))) ?_
    repeat (first | refine ev_gos 99 rfl ?_ | refine ev_gf2 rfl rfl rfl rfl ?_ | refine ev_gf2 rfl rfl HH_land rfl ?_ | refine ev_gf2 rfl rfl HH_draft rfl ?_ | refine ev_gf2 rfl rfl (by with_reducible assumption) rfl ?_)
    refine ev_cv rfl rfl rfl (e_misLying (p := i) (by omega)) ?_
    have h3 := ih (i + 1) (by omega)
    rw [← nI_1] at h3
    by_cases q : atM (A 29) i = -1
    · rw [decide_eq_false (fun z => z q)]
      rw [show whoP (atM (A 29)) (i + 1) = whoP (atM (A 29)) i by show (if _ then _ else _) = _; rw [if_pos q]] at h3
      have h4 : Ev sc (d + 1) m_M_whoLies 10 [some (.ref 26), some (.int (whoP (atM (A 29)) i ||| 0)), some (.int (nI i + 1))] [.int 2, .ref 27, .int (nI i + 1)] (HH w s l A B) (some (.int (whoP (atM (A 29)) P))) (HH w s l A B) := by rw [or0i]; exact h3
      (first | refine ev_ift rfl rfl rfl rfl ?_ | refine ev_iff rfl rfl rfl rfl ?_)
      repeat (first | refine ev_gos 99 rfl ?_ | refine ev_gf2 rfl rfl rfl rfl ?_ | refine ev_gf2 rfl rfl HH_land rfl ?_ | refine ev_gf2 rfl rfl HH_draft rfl ?_ | refine ev_gf2 rfl rfl (by with_reducible assumption) rfl ?_)
      exact h4
    · rw [decide_eq_true q]
      rw [show whoP (atM (A 29)) (i + 1) = whoP (atM (A 29)) i ||| ((1 : Int32) <<< (nI i &&& 31)) by show (if _ then _ else _) = _; rw [if_neg q]] at h3
      (first | refine ev_ift rfl rfl rfl rfl ?_ | refine ev_iff rfl rfl rfl rfl ?_)
      repeat (first | refine ev_gos 99 rfl ?_ | refine ev_gf2 rfl rfl rfl rfl ?_ | refine ev_gf2 rfl rfl HH_land rfl ?_ | refine ev_gf2 rfl rfl HH_draft rfl ?_ | refine ev_gf2 rfl rfl (by with_reducible assumption) rfl ?_)
      exact h3
theorem e_mwho (hM : MN (A 27) rk W H P) : Ev sc (d + 1) m_M_whoLies 0 (iniL 3 [.ref 26]) [] (HH w s l A B) (some (.int (whoP (atM (A 29)) P))) (HH w s l A B) := by
  repeat (first | refine ev_gos 99 rfl ?_ | refine ev_gf2 rfl rfl rfl rfl ?_ | refine ev_gf2 rfl rfl HH_land rfl ?_ | refine ev_gf2 rfl rfl HH_draft rfl ?_ | refine ev_gf2 rfl rfl (by with_reducible assumption) rfl ?_)
  exact e_mwho_loop hM P 0 (Nat.zero_add P)
theorem e_mtruly_loop (hM : MN (A 27) rk W H P) : ∀ (n i : Nat), i + n = P → Ev sc (d + 1) m_M_truly 10 [some (.ref 26), some (.int (truP (atM (A 29)) (kdM (A 27)) i)), some (.int (nI i))] [.int 2, .ref 27, .int (nI i)] (HH w s l A B) (some (.int (truP (atM (A 29)) (kdM (A 27)) P))) (HH w s l A B) := by
  have hP7 : P ≤ 7 := hM.2.2.2.2.2.1
  intro n
  induction n with
  | zero =>
    intro i hi
    have e : i = P := by omega
    refine ev_ix 2 rfl rfl rfl (by decide) (by decide) ?_
    rw [hM.2.2.1, ← e]
    refine ev_ift rfl rfl rfl (c_ge ((nI_leI (by omega) (by omega)).mpr (by omega))) ?_
    repeat (first | refine ev_gos 99 rfl ?_ | refine ev_gf2 rfl rfl rfl rfl ?_ | refine ev_gf2 rfl rfl HH_land rfl ?_ | refine ev_gf2 rfl rfl HH_draft rfl ?_ | refine ev_gf2 rfl rfl (by with_reducible assumption) rfl ?_)
    exact ev_ri rfl rfl rfl
  | succ n ih =>
    intro i hi
    refine ev_ix 2 rfl rfl rfl (by decide) (by decide) ?_
    rw [hM.2.2.1]
    refine ev_iff rfl rfl rfl (d_ge (nI_lt3 (by omega) (by omega) (by omega))) ?_
    repeat (first | refine ev_gos 99 rfl ?_ | refine ev_gf2 rfl rfl rfl rfl ?_ | refine ev_gf2 rfl rfl HH_land rfl ?_ | refine ev_gf2 rfl rfl HH_draft rfl ?_ | refine ev_gf2 rfl rfl (by with_reducible assumption) rfl ?_)
    refine ev_cv rfl rfl rfl (e_misLying (p := i) (by omega)) ?_
    have h3 := ih (i + 1) (by omega)
    rw [← nI_1] at h3
    by_cases q : atM (A 29) i = -1
    · rw [decide_eq_false (fun z => z q)]
      rw [show truP (atM (A 29)) (kdM (A 27)) (i + 1) = truP (atM (A 29)) (kdM (A 27)) i by show (if _ then _ else _) = _; rw [if_pos q]] at h3
      have h4 : Ev sc (d + 1) m_M_truly 10 [some (.ref 26), some (.int (truP (atM (A 29)) (kdM (A 27)) i + 0)), some (.int (nI i + 1))] [.int 2, .ref 27, .int (nI i + 1)] (HH w s l A B) (some (.int (truP (atM (A 29)) (kdM (A 27)) P))) (HH w s l A B) := by rw [Int32.add_zero]; exact h3
      (first | refine ev_ift rfl rfl rfl rfl ?_ | refine ev_iff rfl rfl rfl rfl ?_)
      repeat (first | refine ev_gos 99 rfl ?_ | refine ev_gf2 rfl rfl rfl rfl ?_ | refine ev_gf2 rfl rfl HH_land rfl ?_ | refine ev_gf2 rfl rfl HH_draft rfl ?_ | refine ev_gf2 rfl rfl (by with_reducible assumption) rfl ?_)
      exact h4
    · rw [decide_eq_true q]
      rw [show truP (atM (A 29)) (kdM (A 27)) (i + 1) = truP (atM (A 29)) (kdM (A 27)) i + (if kdM (A 27) i = 2 then 2 else 1) by show (if _ then _ else _) = _; rw [if_neg q]] at h3
      (first | refine ev_ift rfl rfl rfl rfl ?_ | refine ev_iff rfl rfl rfl rfl ?_)
      repeat (first | refine ev_gos 99 rfl ?_ | refine ev_gf2 rfl rfl rfl rfl ?_ | refine ev_gf2 rfl rfl HH_land rfl ?_ | refine ev_gf2 rfl rfl HH_draft rfl ?_ | refine ev_gf2 rfl rfl (by with_reducible assumption) rfl ?_)
      refine ev_ix (5 + i) rfl rfl (nI_add 5 i) (by omega) (by decide) ?_
      repeat (first | refine ev_gos 99 rfl ?_ | refine ev_gf2 rfl rfl rfl rfl ?_ | refine ev_gf2 rfl rfl HH_land rfl ?_ | refine ev_gf2 rfl rfl HH_draft rfl ?_ | refine ev_gf2 rfl rfl (by with_reducible assumption) rfl ?_)
      by_cases q2 : A 27 (5 + i) = 2
      · rw [if_pos (show kdM (A 27) i = 2 from q2)] at h3
        refine ev_iff rfl rfl rfl (d_ne q2) ?_
        repeat (first | refine ev_gos 99 rfl ?_ | refine ev_gf2 rfl rfl rfl rfl ?_ | refine ev_gf2 rfl rfl HH_land rfl ?_ | refine ev_gf2 rfl rfl HH_draft rfl ?_ | refine ev_gf2 rfl rfl (by with_reducible assumption) rfl ?_)
        exact h3
      · rw [if_neg (show ¬ kdM (A 27) i = 2 from q2)] at h3
        refine ev_ift rfl rfl rfl (c_ne q2) ?_
        repeat (first | refine ev_gos 99 rfl ?_ | refine ev_gf2 rfl rfl rfl rfl ?_ | refine ev_gf2 rfl rfl HH_land rfl ?_ | refine ev_gf2 rfl rfl HH_draft rfl ?_ | refine ev_gf2 rfl rfl (by with_reducible assumption) rfl ?_)
        exact h3
theorem e_mtruly (hM : MN (A 27) rk W H P) : Ev sc (d + 1) m_M_truly 0 (iniL 3 [.ref 26]) [] (HH w s l A B) (some (.int (truP (atM (A 29)) (kdM (A 27)) P))) (HH w s l A B) := by
  repeat (first | refine ev_gos 99 rfl ?_ | refine ev_gf2 rfl rfl rfl rfl ?_ | refine ev_gf2 rfl rfl HH_land rfl ?_ | refine ev_gf2 rfl rfl HH_draft rfl ?_ | refine ev_gf2 rfl rfl (by with_reducible assumption) rfl ?_)
  exact e_mtruly_loop hM P 0 (Nat.zero_add P)
theorem e_msteps (hM : MN (A 27) rk W H P) (hW : 1 ≤ W) {a b : Nat} (ha : a < 49) (hb : b < 49) : Ev sc d m_M_steps 0 (iniL 5 [.ref 26, .int (nI a), .int (nI b)]) [] (HH w s l A B) (some (.int (nI (dist W a b)))) (HH w s l A B) := by
  have hW7 : W ≤ 7 := hM.2.2.2.1
  have hz : ¬ nI W = 0 := nI_ne hW (by omega)
  have h1 : a % W < 2 ^ 30 := Nat.lt_of_le_of_lt (Nat.mod_le a W) (by omega)
  have h2 : b % W < 2 ^ 30 := Nat.lt_of_le_of_lt (Nat.mod_le b W) (by omega)
  have h3 : a / W < 2 ^ 30 := Nat.lt_of_le_of_lt (Nat.div_le_self a W) (by omega)
  have h4 : b / W < 2 ^ 30 := Nat.lt_of_le_of_lt (Nat.div_le_self b W) (by omega)
  have ex := absM h1 h2
  have ey := absM h3 h4
  unfold dist
  repeat (first | refine ev_gos 99 rfl ?_ | refine ev_gf2 rfl rfl rfl rfl ?_ | refine ev_gf2 rfl rfl HH_land rfl ?_ | refine ev_gf2 rfl rfl HH_draft rfl ?_ | refine ev_gf2 rfl rfl (by with_reducible assumption) rfl ?_)
  refine ev_ix 0 rfl rfl rfl (by decide) (by decide) ?_
  rw [hM.1]
  refine ev_ire rfl hz ?_
  rw [pk_rem (by omega) hW (by omega)]
  repeat (first | refine ev_gos 99 rfl ?_ | refine ev_gf2 rfl rfl rfl rfl ?_ | refine ev_gf2 rfl rfl HH_land rfl ?_ | refine ev_gf2 rfl rfl HH_draft rfl ?_ | refine ev_gf2 rfl rfl (by with_reducible assumption) rfl ?_)
  refine ev_ix 0 rfl rfl rfl (by decide) (by decide) ?_
  rw [hM.1]
  refine ev_ire rfl hz ?_
  rw [pk_rem (by omega) hW (by omega)]
  repeat (first | refine ev_gos 99 rfl ?_ | refine ev_gf2 rfl rfl rfl rfl ?_ | refine ev_gf2 rfl rfl HH_land rfl ?_ | refine ev_gf2 rfl rfl HH_draft rfl ?_ | refine ev_gf2 rfl rfl (by with_reducible assumption) rfl ?_)
  refine ev_ix 0 rfl rfl rfl (by decide) (by decide) ?_
  rw [hM.1]
  refine ev_id rfl hz ?_
  rw [pk_div (by omega) hW (by omega)]
  repeat (first | refine ev_gos 99 rfl ?_ | refine ev_gf2 rfl rfl rfl rfl ?_ | refine ev_gf2 rfl rfl HH_land rfl ?_ | refine ev_gf2 rfl rfl HH_draft rfl ?_ | refine ev_gf2 rfl rfl (by with_reducible assumption) rfl ?_)
  refine ev_ix 0 rfl rfl rfl (by decide) (by decide) ?_
  rw [hM.1]
  refine ev_id rfl hz ?_
  rw [pk_div (by omega) hW (by omega)]
  repeat (first | refine ev_gos 99 rfl ?_ | refine ev_gf2 rfl rfl rfl rfl ?_ | refine ev_gf2 rfl rfl HH_land rfl ?_ | refine ev_gf2 rfl rfl HH_draft rfl ?_ | refine ev_gf2 rfl rfl (by with_reducible assumption) rfl ?_)
  by_cases q1 : nI (a % W) - nI (b % W) < 0
  · rw [if_pos q1] at ex
    refine ev_iff rfl rfl rfl (j_ge (lt0 q1)) ?_
    repeat (first | refine ev_gos 99 rfl ?_ | refine ev_gf2 rfl rfl rfl rfl ?_ | refine ev_gf2 rfl rfl HH_land rfl ?_ | refine ev_gf2 rfl rfl HH_draft rfl ?_ | refine ev_gf2 rfl rfl (by with_reducible assumption) rfl ?_)
    by_cases q2 : nI (a / W) - nI (b / W) < 0
    · rw [if_pos q2] at ey
      refine ev_iff rfl rfl rfl (j_ge (lt0 q2)) ?_
      repeat (first | refine ev_gos 99 rfl ?_ | refine ev_gf2 rfl rfl rfl rfl ?_ | refine ev_gf2 rfl rfl HH_land rfl ?_ | refine ev_gf2 rfl rfl HH_draft rfl ?_ | refine ev_gf2 rfl rfl (by with_reducible assumption) rfl ?_)
      exact ev_ri rfl (by show -(nI (a % W) - nI (b % W)) + -(nI (a / W) - nI (b / W)) = _; rw [ex, ey, nI_add]) rfl
    · rw [if_neg q2] at ey
      refine ev_ift rfl rfl rfl (i_ge (ge0 q2)) ?_
      repeat (first | refine ev_gos 99 rfl ?_ | refine ev_gf2 rfl rfl rfl rfl ?_ | refine ev_gf2 rfl rfl HH_land rfl ?_ | refine ev_gf2 rfl rfl HH_draft rfl ?_ | refine ev_gf2 rfl rfl (by with_reducible assumption) rfl ?_)
      exact ev_ri rfl (by show -(nI (a % W) - nI (b % W)) + (nI (a / W) - nI (b / W)) = _; rw [ex, ey, nI_add]) rfl
  · rw [if_neg q1] at ex
    refine ev_ift rfl rfl rfl (i_ge (ge0 q1)) ?_
    repeat (first | refine ev_gos 99 rfl ?_ | refine ev_gf2 rfl rfl rfl rfl ?_ | refine ev_gf2 rfl rfl HH_land rfl ?_ | refine ev_gf2 rfl rfl HH_draft rfl ?_ | refine ev_gf2 rfl rfl (by with_reducible assumption) rfl ?_)
    by_cases q2 : nI (a / W) - nI (b / W) < 0
    · rw [if_pos q2] at ey
      refine ev_iff rfl rfl rfl (j_ge (lt0 q2)) ?_
      repeat (first | refine ev_gos 99 rfl ?_ | refine ev_gf2 rfl rfl rfl rfl ?_ | refine ev_gf2 rfl rfl HH_land rfl ?_ | refine ev_gf2 rfl rfl HH_draft rfl ?_ | refine ev_gf2 rfl rfl (by with_reducible assumption) rfl ?_)
      exact ev_ri rfl (by show (nI (a % W) - nI (b % W)) + -(nI (a / W) - nI (b / W)) = _; rw [ex, ey, nI_add]) rfl
    · rw [if_neg q2] at ey
      refine ev_ift rfl rfl rfl (i_ge (ge0 q2)) ?_
      repeat (first | refine ev_gos 99 rfl ?_ | refine ev_gf2 rfl rfl rfl rfl ?_ | refine ev_gf2 rfl rfl HH_land rfl ?_ | refine ev_gf2 rfl rfl HH_draft rfl ?_ | refine ev_gf2 rfl rfl (by with_reducible assumption) rfl ?_)
      exact ev_ri rfl (by show (nI (a % W) - nI (b % W)) + (nI (a / W) - nI (b / W)) = _; rw [ex, ey, nI_add]) rfl
end MFA
