/-! Field: nights, thaws, snow, hares, pins; filling and copying rows -/
theorem gs_eq {h : AHp} {q : Nat} {x c : ACell} (hd : h[q]? = some x) : (h.set q c)[q]? = some c := by
  rw [List.getElem?_set, if_pos rfl, if_pos (List.getElem?_eq_some_iff.mp hd).1]
theorem gs_ne {h : AHp} {q p : Nat} {c : ACell} (hne : q ≠ p) : (h.set q c)[p]? = h[p]? := by
  rw [List.getElem?_set, if_neg hne]
theorem e_fill_loop {sc : Scr} {d q m : Nat} {h : AHp} {f : Nat → Int32} (hd : h[q]? = some (aI m f)) (hm : m < 2 ^ 31) (x : Int32) : ∀ (n i : Nat), i + n = m → Ev sc d m_JA_fill 7 [some (.ref q), some (.int x), some (.int (nI i)), some (.int (Int32.ofNat m))] [.int (Int32.ofNat m), .int (nI i)] (h.set q (aI m (mapP (fun _ _ => x) f i))) none (h.set q (aI m (mapP (fun _ _ => x) f m))) := by
  intro n
  induction n with
  | zero =>
    intro i hi
    have e : i = m := by omega
    subst e
    refine ev_ift rfl rfl rfl (c_ge ((nI_leI hm hm).mpr (Nat.le_refl i) : nI i ≤ nI i)) ?_
    exact ev_rv rfl rfl
  | succ n ih =>
    intro i hi
    refine ev_iff rfl rfl rfl (d_ge (nI_lt3 (by omega) hm (by omega) : ¬ nI m ≤ nI i)) ?_
    repeat (first | refine ev_gos 99 rfl ?_ | refine ev_gf2 rfl rfl rfl rfl ?_ | refine ev_gf2 rfl rfl (by with_reducible assumption) rfl ?_)
    refine ev_is rfl (gs_eq hd) (inI (by omega) hm) ?_
    rw [nI_clamp (by omega), List.set_set]
    have h3 := ih (i + 1) (by omega)
    rw [← nI_1, ← mapP_s] at h3
    repeat (first | refine ev_gos 99 rfl ?_ | refine ev_gf2 rfl rfl rfl rfl ?_ | refine ev_gf2 rfl rfl (by with_reducible assumption) rfl ?_)
    exact h3
theorem e_fill {sc : Scr} {d q m : Nat} {h : AHp} {f : Nat → Int32} (hd : h[q]? = some (aI m f)) (hm : m < 2 ^ 31) (x : Int32) : Ev sc d m_JA_fill 0 (iniL 4 [.ref q, .int x]) [] h none (h.set q (aI m (mapP (fun _ _ => x) f m))) := by
  repeat (first | refine ev_gos 99 rfl ?_ | refine ev_gf2 rfl rfl rfl rfl ?_ | refine ev_gf2 rfl rfl (by with_reducible assumption) rfl ?_)
  refine ev_len rfl (Or.inl (rd_of hd)) ?_
  repeat (first | refine ev_gos 99 rfl ?_ | refine ev_gf2 rfl rfl rfl rfl ?_ | refine ev_gf2 rfl rfl (by with_reducible assumption) rfl ?_)
  have h3 := e_fill_loop (sc := sc) (d := d) hd hm x m 0 (Nat.zero_add m)
  have e : h.set q (aI m (mapP (fun _ _ => x) f 0)) = h := by
    rw [mapP_0]
    apply List.ext_getElem?
    intro i
    by_cases hq : q = i
    · subst hq
      rw [gs_eq hd, hd]
    · rw [gs_ne hq]
  rw [e] at h3
  exact h3
section FLH2
variable {sc : Scr} {d : Nat} {w : Bool} {s : Nat → Int32} {l : Nat → Int64} {A : Nat → Nat → Int32} {B : Nat → Nat → Int64} {f : Nat → Int32} {W N : Nat}
theorem e_melt_loop : ∀ (n i : Nat), i + n = 49 → Ev sc (d + 1) m_F_melt 5 [some (.ref 9), some (.int (nI i))] [.int 49, .int (nI i)] (HH w s l (upA A 10 (mapP mlF f i)) B) none (HH w s l (upA A 10 (mapP mlF f 49)) B) := by
  intro n
  induction n with
  | zero =>
    intro i hi
    have e : i = 49 := by omega
    subst e
    refine ev_ift rfl rfl rfl (c_ge (by decide : (49 : Int32) ≤ nI 49)) ?_
    exact ev_rv rfl rfl
  | succ n ih =>
    intro i hi
    refine ev_iff rfl rfl rfl (d_ge (nI_lt3 (by omega) (by decide) (by omega) : ¬ nI 49 ≤ nI i)) ?_
    repeat (first | refine ev_gos 99 rfl ?_ | refine ev_gf2 rfl rfl rfl rfl ?_ | refine ev_gf2 rfl rfl (by with_reducible assumption) rfl ?_)
    refine ev_ia rfl rfl (inI (by omega) (by decide)) ?_
    rw [nI_clamp (by omega), upA_at, mapP_at]
    repeat (first | refine ev_gos 99 rfl ?_ | refine ev_gf2 rfl rfl rfl rfl ?_ | refine ev_gf2 rfl rfl (by with_reducible assumption) rfl ?_)
    refine ev_hw rfl rfl rfl ?_
    refine it_10 rfl (inI (by omega) (by decide)) ?_
    rw [nI_clamp (by omega)]
    have h3 := ih (i + 1) (by omega)
    rw [← nI_1, ← mapP_s] at h3
    repeat (first | refine ev_gos 99 rfl ?_ | refine ev_gf2 rfl rfl rfl rfl ?_ | refine ev_gf2 rfl rfl (by with_reducible assumption) rfl ?_)
    exact h3
theorem e_melt : Ev sc (d + 1) m_F_melt 0 (iniL 2 [.ref 9]) [] (HH w s l A B) none (HH w s l (upA A 10 (mapP mlF (A 10) 49)) B) := by
  repeat (first | refine ev_gos 99 rfl ?_ | refine ev_gf2 rfl rfl rfl rfl ?_ | refine ev_gf2 rfl rfl (by with_reducible assumption) rfl ?_)
  have h3 := e_melt_loop (sc := sc) (d := d) (w := w) (s := s) (l := l) (A := A) (B := B) (f := A 10) 49 0 rfl
  rw [mapP_0, upA_id] at h3
  exact h3
theorem e_snowOver_loop : ∀ (n i : Nat), i + n = 49 → Ev sc (d + 1) m_F_snowOver 5 [some (.ref 9), some (.int (nI i))] [.int 49, .int (nI i)] (HH w s l (upA A 10 (mapP snF f i)) B) none (HH w s l (upA A 10 (mapP snF f 49)) B) := by
  intro n
  induction n with
  | zero =>
    intro i hi
    have e : i = 49 := by omega
    subst e
    refine ev_ift rfl rfl rfl (c_ge (by decide : (49 : Int32) ≤ nI 49)) ?_
    exact ev_rv rfl rfl
  | succ n ih =>
    intro i hi
    refine ev_iff rfl rfl rfl (d_ge (nI_lt3 (by omega) (by decide) (by omega) : ¬ nI 49 ≤ nI i)) ?_
    repeat (first | refine ev_gos 99 rfl ?_ | refine ev_gf2 rfl rfl rfl rfl ?_ | refine ev_gf2 rfl rfl (by with_reducible assumption) rfl ?_)
    refine ev_ia rfl rfl (inI (by omega) (by decide)) ?_
    rw [nI_clamp (by omega), upA_at, mapP_at]
    repeat (first | refine ev_gos 99 rfl ?_ | refine ev_gf2 rfl rfl rfl rfl ?_ | refine ev_gf2 rfl rfl (by with_reducible assumption) rfl ?_)
    have h3 := ih (i + 1) (by omega)
    rw [← nI_1, ← mapP_s] at h3
    by_cases hx : f i ≤ 4
    · refine ev_iff rfl rfl rfl (d_gt (fun z => by rw [Int32.lt_iff_toInt_lt] at z; rw [Int32.le_iff_toInt_le] at hx; omega)) ?_
      repeat (first | refine ev_gos 99 rfl ?_ | refine ev_gf2 rfl rfl rfl rfl ?_ | refine ev_gf2 rfl rfl (by with_reducible assumption) rfl ?_)
      refine it_10 rfl (inI (by omega) (by decide)) ?_
      rw [nI_clamp (by omega)]
      rw [show snF i (f i) = 0 by unfold snF; rw [if_pos hx]] at h3
      repeat (first | refine ev_gos 99 rfl ?_ | refine ev_gf2 rfl rfl rfl rfl ?_ | refine ev_gf2 rfl rfl (by with_reducible assumption) rfl ?_)
      exact h3
    · refine ev_ift rfl rfl rfl (c_gt (by rw [Int32.lt_iff_toInt_lt]; rw [Int32.le_iff_toInt_le] at hx; omega)) ?_
      repeat (first | refine ev_gos 99 rfl ?_ | refine ev_gf2 rfl rfl rfl rfl ?_ | refine ev_gf2 rfl rfl (by with_reducible assumption) rfl ?_)
      refine ev_ia rfl rfl (inI (by omega) (by decide)) ?_
      rw [nI_clamp (by omega), upA_at, mapP_at]
      repeat (first | refine ev_gos 99 rfl ?_ | refine ev_gf2 rfl rfl rfl rfl ?_ | refine ev_gf2 rfl rfl (by with_reducible assumption) rfl ?_)
      refine it_10 rfl (inI (by omega) (by decide)) ?_
      rw [nI_clamp (by omega)]
      rw [show snF i (f i) = f i - 1 by unfold snF; rw [if_neg hx]] at h3
      repeat (first | refine ev_gos 99 rfl ?_ | refine ev_gf2 rfl rfl rfl rfl ?_ | refine ev_gf2 rfl rfl (by with_reducible assumption) rfl ?_)
      exact h3
theorem e_snowOver : Ev sc (d + 1) m_F_snowOver 0 (iniL 2 [.ref 9]) [] (HH w s l A B) none (HH w s l (upA A 10 (mapP snF (A 10) 49)) B) := by
  repeat (first | refine ev_gos 99 rfl ?_ | refine ev_gf2 rfl rfl rfl rfl ?_ | refine ev_gf2 rfl rfl (by with_reducible assumption) rfl ?_)
  have h3 := e_snowOver_loop (sc := sc) (d := d) (w := w) (s := s) (l := l) (A := A) (B := B) (f := A 10) 49 0 rfl
  rw [mapP_0, upA_id] at h3
  exact h3
theorem e_roll_loop (x : Int64) : ∀ (n i : Nat), i + n = 49 → Ev sc (d + 1) m_F_roll 5 [some (.ref 9), some (.long x), none, some (.int (nI i))] [.int 49, .int (nI i)] (HH w s l (upA A 10 (mapP (roF x) f i)) B) none (HH w s l (upA A 10 (mapP (roF x) f 49)) B) := by
  intro n
  induction n with
  | zero =>
    intro i hi
    have e : i = 49 := by omega
    subst e
    refine ev_ift rfl rfl rfl (c_ge (by decide : (49 : Int32) ≤ nI 49)) ?_
    exact ev_rv rfl rfl
  | succ n ih =>
    intro i hi
    refine ev_iff rfl rfl rfl (d_ge (nI_lt3 (by omega) (by decide) (by omega) : ¬ nI 49 ≤ nI i)) ?_
    repeat (first | refine ev_gos 99 rfl ?_ | refine ev_gf2 rfl rfl rfl rfl ?_ | refine ev_gf2 rfl rfl (by with_reducible assumption) rfl ?_)
    refine ev_cs rfl rfl rfl (e_has sc d _ x (k := i) (by omega)) ?_
    have h3 := ih (i + 1) (by omega)
    rw [← nI_1] at h3
    cases hb : bs x i with
    | true =>
      refine ev_iff rfl rfl rfl rfl ?_
      repeat (first | refine ev_gos 99 rfl ?_ | refine ev_gf2 rfl rfl rfl rfl ?_ | refine ev_gf2 rfl rfl (by with_reducible assumption) rfl ?_)
      refine ev_ia rfl rfl (inI (by omega) (by decide)) ?_
      rw [nI_clamp (by omega), upA_at, mapP_at]
      refine ev_hw rfl rfl rfl ?_
      refine it_10 rfl (inI (by omega) (by decide)) ?_
      rw [nI_clamp (by omega)]
      rw [← mapP_s, show roF x i (f i) = (if 5 < f i then f i else 5) by unfold roF; rw [hb]; rfl] at h3
      repeat (first | refine ev_gos 99 rfl ?_ | refine ev_gf2 rfl rfl rfl rfl ?_ | refine ev_gf2 rfl rfl (by with_reducible assumption) rfl ?_)
      exact h3
    | false =>
      refine ev_ift rfl rfl rfl rfl ?_
      repeat (first | refine ev_gos 99 rfl ?_ | refine ev_gf2 rfl rfl rfl rfl ?_ | refine ev_gf2 rfl rfl (by with_reducible assumption) rfl ?_)
      rw [← mapP_n (F := roF x) (f := f) (n := i) (by unfold roF; rw [hb]; rfl)] at h3
      exact h3
theorem e_roll (x : Int64) : Ev sc (d + 1) m_F_roll 0 (iniL 4 [.ref 9, .long x]) [] (HH w s l A B) none (HH w s l (upA A 10 (mapP (roF x) (A 10) 49)) B) := by
  repeat (first | refine ev_gos 99 rfl ?_ | refine ev_gf2 rfl rfl rfl rfl ?_ | refine ev_gf2 rfl rfl (by with_reducible assumption) rfl ?_)
  have h3 := e_roll_loop (sc := sc) (d := d) (w := w) (s := s) (l := l) (A := A) (B := B) (f := A 10) x 49 0 rfl
  rw [mapP_0, upA_id] at h3
  exact h3
theorem e_cross {c : Nat} (hc : c < 49) : Ev sc d m_F_cross 0 (iniL 2 [.ref 9, .int (nI c)]) [] (HH w s l A B) none (HH w s l (upA A 10 (upd (A 10) c (if A 10 c + 2 < 9 then A 10 c + 2 else 9))) B) := by
  repeat (first | refine ev_gos 99 rfl ?_ | refine ev_gf2 rfl rfl rfl rfl ?_ | refine ev_gf2 rfl rfl (by with_reducible assumption) rfl ?_)
  refine ev_iff rfl rfl rfl (j_lt (nI_pos (by omega))) ?_
  repeat (first | refine ev_gos 99 rfl ?_ | refine ev_gf2 rfl rfl rfl rfl ?_ | refine ev_gf2 rfl rfl (by with_reducible assumption) rfl ?_)
  refine ev_iff rfl rfl rfl (d_ge (nI_lt3 (by omega) (by decide) (by omega) : ¬ nI 49 ≤ nI c)) ?_
  repeat (first | refine ev_gos 99 rfl ?_ | refine ev_gf2 rfl rfl rfl rfl ?_ | refine ev_gf2 rfl rfl (by with_reducible assumption) rfl ?_)
  refine ev_ia rfl rfl (inI (by omega) (by decide)) ?_
  rw [nI_clamp (by omega)]
  repeat (first | refine ev_gos 99 rfl ?_ | refine ev_gf2 rfl rfl rfl rfl ?_ | refine ev_gf2 rfl rfl (by with_reducible assumption) rfl ?_)
  refine ev_hw rfl rfl rfl ?_
  refine is_10 rfl (inI (by omega) (by decide)) ?_
  rw [nI_clamp (by omega)]
  exact ev_rv rfl rfl
theorem e_begin (tw : Int32) : Ev sc (d + 1) m_F_begin 0 (iniL 2 [.ref 9, .int tw]) [] (HH w s l A B) none (HH w (upA (upA s 9 tw) 10 0) l (upA (upA A 10 (mapP (fun _ _ => 0) (A 10) 49)) 11 (mapP (fun _ _ => -1) (A 11) 7)) B) := by
  repeat (first | refine ev_gos 99 rfl ?_ | refine ev_gf2 rfl rfl rfl rfl ?_ | refine ev_gf2 rfl rfl (by with_reducible assumption) rfl ?_)
  refine ev_cs rfl rfl rfl (e_fill (h := HH w s l A B) (q := 10) (m := 49) (f := A 10) rfl (by decide) 0) ?_
  rw [HA_10]
  repeat (first | refine ev_gos 99 rfl ?_ | refine ev_gf2 rfl rfl rfl rfl ?_ | refine ev_gf2 rfl rfl (by with_reducible assumption) rfl ?_)
  refine ev_cs rfl rfl rfl (e_fill (h := HH w s l (upA A 10 (mapP (fun _ _ => 0) (A 10) 49)) B) (q := 11) (m := 7) (f := A 11) rfl (by decide) (-1)) ?_
  rw [HA_11]
  repeat (first | refine ev_gos 99 rfl ?_ | refine ev_gf2 rfl rfl rfl rfl ?_ | refine ev_gf2 rfl rfl (by with_reducible assumption) rfl ?_)
  refine pf_F_9 rfl ?_
  repeat (first | refine ev_gos 99 rfl ?_ | refine ev_gf2 rfl rfl rfl rfl ?_ | refine ev_gf2 rfl rfl (by with_reducible assumption) rfl ?_)
  refine pf_F_10 rfl ?_
  exact ev_rv rfl rfl
theorem e_become : Ev sc d m_F_become 0 (iniL 2 [.ref 12, .ref 9]) [] (HH w s l A B) none (HH w (upA (upA s 11 (s 9)) 12 (s 10)) l (upA (upA A 13 (va_cpy (A 10) (A 13) 0 0 49)) 14 (va_cpy (A 11) (A 14) 0 0 7)) B) := by
  repeat (first | refine ev_gos 99 rfl ?_ | refine ev_gf2 rfl rfl rfl rfl ?_ | refine ev_gf2 rfl rfl (by with_reducible assumption) rfl ?_)
  refine ev_hw rfl rfl rfl ?_
  refine (?_ : Ek sc d m_F_become 15 _ _ (HH w s l (upA A 13 (va_cpy (A 10) (A 13) 0 0 49)) B) _ _ _ _)
  repeat (first | refine ev_gos 99 rfl ?_ | refine ev_gf2 rfl rfl rfl rfl ?_ | refine ev_gf2 rfl rfl (by with_reducible assumption) rfl ?_)
  refine ev_hw rfl rfl rfl ?_
  refine (?_ : Ek sc d m_F_become 30 _ _ (HH w s l (upA (upA A 13 (va_cpy (A 10) (A 13) 0 0 49)) 14 (va_cpy (A 11) (A 14) 0 0 7)) B) _ _ _ _)
  repeat (first | refine ev_gos 99 rfl ?_ | refine ev_gf2 rfl rfl rfl rfl ?_ | refine ev_gf2 rfl rfl (by with_reducible assumption) rfl ?_)
  refine pf_T_11 rfl ?_
  repeat (first | refine ev_gos 99 rfl ?_ | refine ev_gf2 rfl rfl rfl rfl ?_ | refine ev_gf2 rfl rfl (by with_reducible assumption) rfl ?_)
  refine pf_T_12 rfl ?_
  exact ev_rv rfl rfl
/-- where the wind doesn't come -/
def shlS (W N : Nat) (rk : Int64) (f : Nat → Int32) (k : Nat) : Int64 := if k = 0 then allS N else mvS W N (rk ||| dnS f 1 49) k
theorem e_passN_loop (x y : Int64) (v3 : Int64) : ∀ (n i : Nat), i + n = 49 → Ev sc (d + 1) m_F_passNight 42 [some (.ref 9), some (.ref (wL w)), some (.long v3), none, some (.long x), none, some (.int (nI i)), none] [.int 49, .int (nI i)] (HH w s l (upA A 10 (mapP (ngF x) f i)) B) none (HH w (upA s 10 (s 10 + 1)) l (upA A 10 (mapP (ngF x) f 49)) B) := by
  intro n
  induction n with
  | zero =>
    intro i hi
    have e : i = 49 := by omega
    subst e
    refine ev_ift rfl rfl rfl (c_ge (by decide : (49 : Int32) ≤ nI 49)) ?_
    repeat (first | refine ev_gos 99 rfl ?_ | refine ev_gf2 rfl rfl rfl rfl ?_ | refine ev_gf2 rfl rfl (by with_reducible assumption) rfl ?_)
    refine pf_F_10 rfl ?_
    exact ev_rv rfl rfl
  | succ n ih =>
    intro i hi
    refine ev_iff rfl rfl rfl (d_ge (nI_lt3 (by omega) (by decide) (by omega) : ¬ nI 49 ≤ nI i)) ?_
    repeat (first | refine ev_gos 99 rfl ?_ | refine ev_gf2 rfl rfl rfl rfl ?_ | refine ev_gf2 rfl rfl (by with_reducible assumption) rfl ?_)
    refine ev_cs rfl rfl rfl (e_has sc d _ x (k := i) (by omega)) ?_
    have h3 := ih (i + 1) (by omega)
    rw [← nI_1, ← mapP_s] at h3
    cases hb : bs x i with
    | true =>
      refine ev_iff rfl rfl rfl rfl ?_
      repeat (first | refine ev_gos 99 rfl ?_ | refine ev_gf2 rfl rfl rfl rfl ?_ | refine ev_gf2 rfl rfl (by with_reducible assumption) rfl ?_)
      refine ev_ia rfl rfl (inI (by omega) (by decide)) ?_
      rw [nI_clamp (by omega), upA_at, mapP_at]
      repeat (first | refine ev_gos 99 rfl ?_ | refine ev_gf2 rfl rfl rfl rfl ?_ | refine ev_gf2 rfl rfl (by with_reducible assumption) rfl ?_)
      refine ev_hw rfl rfl rfl ?_
      refine it_10 rfl (inI (by omega) (by decide)) ?_
      rw [nI_clamp (by omega)]
      rw [show ngF x i (f i) = (if 0 < f i - 1 then f i - 1 else 0) by unfold ngF; rw [hb]; rfl] at h3
      repeat (first | refine ev_gos 99 rfl ?_ | refine ev_gf2 rfl rfl rfl rfl ?_ | refine ev_gf2 rfl rfl (by with_reducible assumption) rfl ?_)
      exact ev_wk2 h3 rfl ⟨rfl, rfl, rfl, rfl, rfl, trivial⟩
    | false =>
      refine ev_ift rfl rfl rfl rfl ?_
      repeat (first | refine ev_gos 99 rfl ?_ | refine ev_gf2 rfl rfl rfl rfl ?_ | refine ev_gf2 rfl rfl (by with_reducible assumption) rfl ?_)
      refine ev_ia rfl rfl (inI (by omega) (by decide)) ?_
      rw [nI_clamp (by omega), upA_at, mapP_at]
      repeat (first | refine ev_gos 99 rfl ?_ | refine ev_gf2 rfl rfl rfl rfl ?_ | refine ev_gf2 rfl rfl (by with_reducible assumption) rfl ?_)
      refine ev_hw rfl rfl rfl ?_
      refine it_10 rfl (inI (by omega) (by decide)) ?_
      rw [nI_clamp (by omega)]
      rw [show ngF x i (f i) = (if 0 < f i - 2 then f i - 2 else 0) by unfold ngF; rw [hb]; rfl] at h3
      repeat (first | refine ev_gos 99 rfl ?_ | refine ev_gf2 rfl rfl rfl rfl ?_ | refine ev_gf2 rfl rfl (by with_reducible assumption) rfl ?_)
      exact ev_wk2 h3 rfl ⟨rfl, rfl, rfl, rfl, rfl, trivial⟩
theorem e_passN (hw : s 15 = nI W) (ha : l 0 = allS N) (hl : l 1 = lefS W N) (hr : l 2 = rigS W N) {k : Nat} (hk : k ≤ 4) (hs : s 9 = nI k) : Ev sc (d + 2) m_F_passNight 0 (iniL 8 [.ref 9, .ref (wL w)]) [] (HH w s l A B) none (HH w (upA s 10 (s 10 + 1)) l (upA A 10 (mapP (ngF (shlS W N (l 3) (A 10) k)) (A 10) 49)) B) := by
  refine ev_gos 99 rfl ?_
  refine ev_gf2 rfl rfl HH_land rfl ?_
  repeat (first | refine ev_gos 99 rfl ?_ | refine ev_gf2 rfl rfl rfl rfl ?_ | refine ev_gf2 rfl rfl (by with_reducible assumption) rfl ?_)
  refine ev_cv rfl rfl rfl (e_dented (p := 9) (pd := 10) (pa := 11) (wd := s 9) (nt := s 10) (f := A 10) rfl rfl) ?_
  repeat (first | refine ev_gos 99 rfl ?_ | refine ev_gf2 rfl rfl rfl rfl ?_ | refine ev_gf2 rfl rfl (by with_reducible assumption) rfl ?_)
  have h3 := fun v3 => e_passN_loop (sc := sc) (d := d + 1) (w := w) (s := s) (l := l) (A := A) (B := B) (f := A 10) (shlS W N (l 3) (A 10) k) 0 v3 49 0 rfl
  by_cases hk0 : k = 0
  · refine ev_iff rfl rfl rfl (j_ne (by rw [hs, hk0]; rfl)) ?_
    refine ev_gos 99 rfl ?_
    refine ev_gf2 rfl rfl HH_land rfl ?_
    repeat (first | refine ev_gos 99 rfl ?_ | refine ev_gf2 rfl rfl rfl rfl ?_ | refine ev_gf2 rfl rfl (by with_reducible assumption) rfl ?_)
    have h4 := h3 (l 3 ||| dnS (A 10) 1 49)
    rw [mapP_0, upA_id] at h4
    have e : shlS W N (l 3) (A 10) k = l 0 := by unfold shlS; rw [if_pos hk0, ha]
    rw [e] at h4 ⊢
    exact h4
  · refine ev_ift rfl rfl rfl (i_ne (by rw [hs]; exact nI_ne (by omega) (by omega))) ?_
    repeat (first | refine ev_gos 99 rfl ?_ | refine ev_gf2 rfl rfl rfl rfl ?_ | refine ev_gf2 rfl rfl (by with_reducible assumption) rfl ?_)
    refine ev_cv rfl rfl HH_land (by rw [hs]; exact e_moved (p := wL w) HH_land hw ha hl hr _ (k := k) (by omega) hk) ?_
    repeat (first | refine ev_gos 99 rfl ?_ | refine ev_gf2 rfl rfl rfl rfl ?_ | refine ev_gf2 rfl rfl (by with_reducible assumption) rfl ?_)
    have h4 := h3 (l 3 ||| dnS (A 10) 1 49)
    rw [mapP_0, upA_id] at h4
    have e : shlS W N (l 3) (A 10) k = mvS W N (l 3 ||| dnS (A 10) 1 49) k := by unfold shlS; rw [if_neg hk0]
    rw [e] at h4 ⊢
    exact h4
theorem e_passT_loop (x y : Int64) (v3 : Int64) : ∀ (n i : Nat), i + n = 49 → Ev sc (d + 1) m_F_passNight 42 [some (.ref 12), some (.ref (wL w)), some (.long v3), none, some (.long x), none, some (.int (nI i)), none] [.int 49, .int (nI i)] (HH w s l (upA A 13 (mapP (ngF x) f i)) B) none (HH w (upA s 12 (s 12 + 1)) l (upA A 13 (mapP (ngF x) f 49)) B) := by
  intro n
  induction n with
  | zero =>
    intro i hi
    have e : i = 49 := by omega
    subst e
    refine ev_ift rfl rfl rfl (c_ge (by decide : (49 : Int32) ≤ nI 49)) ?_
    repeat (first | refine ev_gos 99 rfl ?_ | refine ev_gf2 rfl rfl rfl rfl ?_ | refine ev_gf2 rfl rfl (by with_reducible assumption) rfl ?_)
    refine pf_T_12 rfl ?_
    exact ev_rv rfl rfl
  | succ n ih =>
    intro i hi
    refine ev_iff rfl rfl rfl (d_ge (nI_lt3 (by omega) (by decide) (by omega) : ¬ nI 49 ≤ nI i)) ?_
    repeat (first | refine ev_gos 99 rfl ?_ | refine ev_gf2 rfl rfl rfl rfl ?_ | refine ev_gf2 rfl rfl (by with_reducible assumption) rfl ?_)
    refine ev_cs rfl rfl rfl (e_has sc d _ x (k := i) (by omega)) ?_
    have h3 := ih (i + 1) (by omega)
    rw [← nI_1, ← mapP_s] at h3
    cases hb : bs x i with
    | true =>
      refine ev_iff rfl rfl rfl rfl ?_
      repeat (first | refine ev_gos 99 rfl ?_ | refine ev_gf2 rfl rfl rfl rfl ?_ | refine ev_gf2 rfl rfl (by with_reducible assumption) rfl ?_)
      refine ev_ia rfl rfl (inI (by omega) (by decide)) ?_
      rw [nI_clamp (by omega), upA_at, mapP_at]
      repeat (first | refine ev_gos 99 rfl ?_ | refine ev_gf2 rfl rfl rfl rfl ?_ | refine ev_gf2 rfl rfl (by with_reducible assumption) rfl ?_)
      refine ev_hw rfl rfl rfl ?_
      refine it_13 rfl (inI (by omega) (by decide)) ?_
      rw [nI_clamp (by omega)]
      rw [show ngF x i (f i) = (if 0 < f i - 1 then f i - 1 else 0) by unfold ngF; rw [hb]; rfl] at h3
      repeat (first | refine ev_gos 99 rfl ?_ | refine ev_gf2 rfl rfl rfl rfl ?_ | refine ev_gf2 rfl rfl (by with_reducible assumption) rfl ?_)
      exact ev_wk2 h3 rfl ⟨rfl, rfl, rfl, rfl, rfl, trivial⟩
    | false =>
      refine ev_ift rfl rfl rfl rfl ?_
      repeat (first | refine ev_gos 99 rfl ?_ | refine ev_gf2 rfl rfl rfl rfl ?_ | refine ev_gf2 rfl rfl (by with_reducible assumption) rfl ?_)
      refine ev_ia rfl rfl (inI (by omega) (by decide)) ?_
      rw [nI_clamp (by omega), upA_at, mapP_at]
      repeat (first | refine ev_gos 99 rfl ?_ | refine ev_gf2 rfl rfl rfl rfl ?_ | refine ev_gf2 rfl rfl (by with_reducible assumption) rfl ?_)
      refine ev_hw rfl rfl rfl ?_
      refine it_13 rfl (inI (by omega) (by decide)) ?_
      rw [nI_clamp (by omega)]
      rw [show ngF x i (f i) = (if 0 < f i - 2 then f i - 2 else 0) by unfold ngF; rw [hb]; rfl] at h3
      repeat (first | refine ev_gos 99 rfl ?_ | refine ev_gf2 rfl rfl rfl rfl ?_ | refine ev_gf2 rfl rfl (by with_reducible assumption) rfl ?_)
      exact ev_wk2 h3 rfl ⟨rfl, rfl, rfl, rfl, rfl, trivial⟩
theorem e_passT (hw : s 15 = nI W) (ha : l 0 = allS N) (hl : l 1 = lefS W N) (hr : l 2 = rigS W N) {k : Nat} (hk : k ≤ 4) (hs : s 11 = nI k) : Ev sc (d + 2) m_F_passNight 0 (iniL 8 [.ref 12, .ref (wL w)]) [] (HH w s l A B) none (HH w (upA s 12 (s 12 + 1)) l (upA A 13 (mapP (ngF (shlS W N (l 3) (A 13) k)) (A 13) 49)) B) := by
  refine ev_gos 99 rfl ?_
  refine ev_gf2 rfl rfl HH_land rfl ?_
  repeat (first | refine ev_gos 99 rfl ?_ | refine ev_gf2 rfl rfl rfl rfl ?_ | refine ev_gf2 rfl rfl (by with_reducible assumption) rfl ?_)
  refine ev_cv rfl rfl rfl (e_dented (p := 12) (pd := 13) (pa := 14) (wd := s 11) (nt := s 12) (f := A 13) rfl rfl) ?_
  repeat (first | refine ev_gos 99 rfl ?_ | refine ev_gf2 rfl rfl rfl rfl ?_ | refine ev_gf2 rfl rfl (by with_reducible assumption) rfl ?_)
  have h3 := fun v3 => e_passT_loop (sc := sc) (d := d + 1) (w := w) (s := s) (l := l) (A := A) (B := B) (f := A 13) (shlS W N (l 3) (A 13) k) 0 v3 49 0 rfl
  by_cases hk0 : k = 0
  · refine ev_iff rfl rfl rfl (j_ne (by rw [hs, hk0]; rfl)) ?_
    refine ev_gos 99 rfl ?_
    refine ev_gf2 rfl rfl HH_land rfl ?_
    repeat (first | refine ev_gos 99 rfl ?_ | refine ev_gf2 rfl rfl rfl rfl ?_ | refine ev_gf2 rfl rfl (by with_reducible assumption) rfl ?_)
    have h4 := h3 (l 3 ||| dnS (A 13) 1 49)
    rw [mapP_0, upA_id] at h4
    have e : shlS W N (l 3) (A 13) k = l 0 := by unfold shlS; rw [if_pos hk0, ha]
    rw [e] at h4 ⊢
    exact h4
  · refine ev_ift rfl rfl rfl (i_ne (by rw [hs]; exact nI_ne (by omega) (by omega))) ?_
    repeat (first | refine ev_gos 99 rfl ?_ | refine ev_gf2 rfl rfl rfl rfl ?_ | refine ev_gf2 rfl rfl (by with_reducible assumption) rfl ?_)
    refine ev_cv rfl rfl HH_land (by rw [hs]; exact e_moved (p := wL w) HH_land hw ha hl hr _ (k := k) (by omega) hk) ?_
    repeat (first | refine ev_gos 99 rfl ?_ | refine ev_gf2 rfl rfl rfl rfl ?_ | refine ev_gf2 rfl rfl (by with_reducible assumption) rfl ?_)
    have h4 := h3 (l 3 ||| dnS (A 13) 1 49)
    rw [mapP_0, upA_id] at h4
    have e : shlS W N (l 3) (A 13) k = mvS W N (l 3 ||| dnS (A 13) 1 49) k := by unfold shlS; rw [if_neg hk0]
    rw [e] at h4 ⊢
    exact h4
end FLH2
