/-! Field -/
def dnS (f : Nat → Int32) (x : Int32) (n : Nat) : Int64 := mk64 (fun i => decide (i < n) && decide (x ≤ f i))
theorem dnS_s {f : Nat → Int32} {x : Int32} {n : Nat} (hn : n < 64) : dnS f x (n + 1) = if x ≤ f n then dnS f x n ||| bit n else dnS f x n := by
  apply bs_ext
  intro i hi
  by_cases hx : x ≤ f n
  · rw [if_pos hx, bs_or, bs_bitc hn hi]
    unfold dnS
    rw [bs_mk _ hi, bs_mk _ hi]
    by_cases e : i = n
    · subst e
      simp [hx]
    · by_cases e2 : i < n
      · simp [e2, e, show i < n + 1 by omega]
      · simp [e2, e, show ¬ i < n + 1 by omega]
  · rw [if_neg hx]
    unfold dnS
    rw [bs_mk _ hi, bs_mk _ hi]
    by_cases e : i = n
    · subst e
      simp [hx]
    · by_cases e2 : i < n
      · simp [e2, show i < n + 1 by omega]
      · simp [e2, show ¬ i < n + 1 by omega]
theorem dnS_0 (f : Nat → Int32) (x : Int32) : dnS f x 0 = 0 := bs_ext (fun i hi => by unfold dnS; rw [bs_mk _ hi, bs_0]; simp)
abbrev Fld (pd pa : Nat) (wd nt : Int32) : ACell := oI 0 [.ref pd, .ref pa, .int wd, .int nt]
theorem inI {k m : Nat} (h : k < m) (hm : m < 2 ^ 31) : inB (nI k) m = true := inB_of (by rw [nI_toInt (by omega)]; omega) (by rw [nI_toInt (by omega)]; omega)
section FLD
variable {sc : Scr} {d p pd pa : Nat} {h : AHp} {wd nt : Int32} {f : Nat → Int32}
theorem e_dentedFrom_loop (hF : h[p]? = some (Fld pd pa wd nt)) (hd : h[pd]? = some (aI 49 f)) (x : Int32) : ∀ (n i : Nat), i + n = 49 → Ev sc d m_F_dentedFrom 9 [some (.ref p), some (.int x), some (.long (dnS f x i)), none, some (.int (nI i))] [.int 49, .int (nI i)] h (some (.long (dnS f x 49))) h := by
  intro n
  induction n with
  | zero =>
    intro i hi
    have e : i = 49 := by omega
    subst e
    refine ev_ift rfl rfl rfl (c_ge (by decide : (49 : Int32) ≤ nI 49)) ?_
    repeat (first | refine ev_gos 99 rfl ?_ | refine ev_gf2 rfl rfl rfl rfl ?_ | refine ev_gf2 rfl rfl (by with_reducible assumption) rfl ?_)
    exact ev_rl rfl rfl rfl
  | succ n ih =>
    intro i hi
    refine ev_iff rfl rfl rfl (d_ge (nI_lt3 (by omega) (by decide) (by omega) : ¬ nI 49 ≤ nI i)) ?_
    repeat (first | refine ev_gos 99 rfl ?_ | refine ev_gf2 rfl rfl rfl rfl ?_ | refine ev_gf2 rfl rfl (by with_reducible assumption) rfl ?_)
    refine ev_ia rfl hd (inI (by omega) (by decide)) ?_
    rw [nI_clamp (by omega)]
    repeat (first | refine ev_gos 99 rfl ?_ | refine ev_gf2 rfl rfl rfl rfl ?_ | refine ev_gf2 rfl rfl (by with_reducible assumption) rfl ?_)
    have h3 := ih (i + 1) (by omega)
    rw [← nI_1, dnS_s (by omega)] at h3
    by_cases hx : x ≤ f i
    · rw [if_pos hx] at h3
      refine ev_iff rfl rfl rfl (d_lt (fun z => by rw [Int32.lt_iff_toInt_lt] at z; rw [Int32.le_iff_toInt_le] at hx; omega)) ?_
      repeat (first | refine ev_gos 99 rfl ?_ | refine ev_gf2 rfl rfl rfl rfl ?_ | refine ev_gf2 rfl rfl (by with_reducible assumption) rfl ?_)
      exact h3
    · rw [if_neg hx] at h3
      refine ev_ift rfl rfl rfl (c_lt (by rw [Int32.lt_iff_toInt_lt]; rw [Int32.le_iff_toInt_le] at hx; omega)) ?_
      repeat (first | refine ev_gos 99 rfl ?_ | refine ev_gf2 rfl rfl rfl rfl ?_ | refine ev_gf2 rfl rfl (by with_reducible assumption) rfl ?_)
      exact h3
theorem e_dentedFrom (hF : h[p]? = some (Fld pd pa wd nt)) (hd : h[pd]? = some (aI 49 f)) (x : Int32) : Ev sc d m_F_dentedFrom 0 (iniL 5 [.ref p, .int x]) [] h (some (.long (dnS f x 49))) h := by
  repeat (first | refine ev_gos 99 rfl ?_ | refine ev_gf2 rfl rfl rfl rfl ?_ | refine ev_gf2 rfl rfl (by with_reducible assumption) rfl ?_)
  have h3 := e_dentedFrom_loop (sc := sc) (d := d) hF hd x 49 0 rfl
  rw [dnS_0] at h3
  exact h3
theorem e_dented (hF : h[p]? = some (Fld pd pa wd nt)) (hd : h[pd]? = some (aI 49 f)) : Ev sc (d + 1) m_F_dented 0 (iniL 1 [.ref p]) [] h (some (.long (dnS f 1 49))) h := by
  repeat (first | refine ev_gos 99 rfl ?_ | refine ev_gf2 rfl rfl rfl rfl ?_ | refine ev_gf2 rfl rfl (by with_reducible assumption) rfl ?_)
  refine ev_cv rfl rfl hF (e_dentedFrom hF hd 1) ?_
  exact ev_rl rfl rfl rfl
theorem e_seen (hF : h[p]? = some (Fld pd pa wd nt)) (hd : h[pd]? = some (aI 49 f)) : Ev sc (d + 1) m_F_seen 0 (iniL 1 [.ref p]) [] h (some (.long (dnS f 3 49))) h := by
  repeat (first | refine ev_gos 99 rfl ?_ | refine ev_gf2 rfl rfl rfl rfl ?_ | refine ev_gf2 rfl rfl (by with_reducible assumption) rfl ?_)
  refine ev_cv rfl rfl hF (e_dentedFrom hF hd 3) ?_
  exact ev_rl rfl rfl rfl
end FLD
/-! every place of a row by a rule -/
def mapP (F : Nat → Int32 → Int32) (f : Nat → Int32) (n : Nat) : Nat → Int32 := fun j => if j < n then F j (f j) else f j
theorem mapP_0 (F : Nat → Int32 → Int32) (f : Nat → Int32) : mapP F f 0 = f := by funext j; unfold mapP; rw [if_neg (by omega)]
theorem mapP_at (F : Nat → Int32 → Int32) (f : Nat → Int32) (n : Nat) : mapP F f n n = f n := by unfold mapP; rw [if_neg (by omega)]
theorem mapP_s (F : Nat → Int32 → Int32) (f : Nat → Int32) (n : Nat) : upd (mapP F f n) n (F n (f n)) = mapP F f (n + 1) := by
  funext j
  unfold upd mapP
  by_cases e : j = n
  · subst e
    simp
  · by_cases e2 : j < n
    · simp [e, e2, show j < n + 1 by omega]
    · simp [e, e2, show ¬ j < n + 1 by omega]
theorem mapP_n {F : Nat → Int32 → Int32} {f : Nat → Int32} {n : Nat} (h : F n (f n) = f n) : mapP F f n = mapP F f (n + 1) := by
  funext j
  unfold mapP
  by_cases e : j = n
  · subst e
    simp [h]
  · by_cases e2 : j < n
    · simp [e2, show j < n + 1 by omega]
    · simp [e2, show ¬ j < n + 1 by omega]
def prF (x : Int64) (c : Nat) (v : Int32) : Int32 := bif bs x c then 9 else v
def ngF (x : Int64) (c : Nat) (v : Int32) : Int32 := if 0 < v - (bif bs x c then 1 else 2) then v - (bif bs x c then 1 else 2) else 0
def mlF (_ : Nat) (v : Int32) : Int32 := if 0 < v - 3 then v - 3 else 0
def snF (_ : Nat) (v : Int32) : Int32 := if v ≤ 4 then 0 else v - 1
def roF (x : Int64) (c : Nat) (v : Int32) : Int32 := bif bs x c then (if 5 < v then v else 5) else v
section FLH
variable {sc : Scr} {d : Nat} {w : Bool} {s : Nat → Int32} {l : Nat → Int64} {A : Nat → Nat → Int32} {B : Nat → Nat → Int64} {f : Nat → Int32}
theorem e_press_loop (x : Int64) : ∀ (n i : Nat), i + n = 49 → Ev sc (d + 1) m_F_press 5 [some (.ref 9), some (.long x), none, some (.int (nI i))] [.int 49, .int (nI i)] (HH w s l (upA A 10 (mapP (prF x) f i)) B) none (HH w s l (upA A 10 (mapP (prF x) f 49)) B) := by
  intro n
  induction n with
  | zero =>
    intro i hi
    have e : i = 49 := by omega
    subst e
    refine ev_ift rfl rfl rfl (c_ge (by decide : (49 : Int32) ≤ nI 49)) ?_
    exact ev_rv rfl rfl
  | succ n ih =>
    intro i hi
    refine ev_iff rfl rfl rfl (d_ge (nI_lt3 (by omega) (by decide) (by omega) : ¬ nI 49 ≤ nI i)) ?_
    repeat (first | refine ev_gos 99 rfl ?_ | refine ev_gf2 rfl rfl rfl rfl ?_ | refine ev_gf2 rfl rfl (by with_reducible assumption) rfl ?_)
    refine ev_cs rfl rfl rfl (e_has sc d _ x (k := i) (by omega)) ?_
    have h3 := ih (i + 1) (by omega)
    rw [← nI_1] at h3
    cases hb : bs x i with
    | true =>
      refine ev_iff rfl rfl rfl rfl ?_
      repeat (first | refine ev_gos 99 rfl ?_ | refine ev_gf2 rfl rfl rfl rfl ?_ | refine ev_gf2 rfl rfl (by with_reducible assumption) rfl ?_)
      refine it_10 rfl (inI (by omega) (by decide)) ?_
      rw [nI_clamp (by omega)]
      rw [← mapP_s, show prF x i (f i) = 9 by unfold prF; rw [hb]; rfl] at h3
      repeat (first | refine ev_gos 99 rfl ?_ | refine ev_gf2 rfl rfl rfl rfl ?_ | refine ev_gf2 rfl rfl (by with_reducible assumption) rfl ?_)
      exact h3
    | false =>
      refine ev_ift rfl rfl rfl rfl ?_
      repeat (first | refine ev_gos 99 rfl ?_ | refine ev_gf2 rfl rfl rfl rfl ?_ | refine ev_gf2 rfl rfl (by with_reducible assumption) rfl ?_)
      rw [← mapP_n (F := prF x) (f := f) (n := i) (by unfold prF; rw [hb]; rfl)] at h3
      exact h3
theorem e_press (x : Int64) : Ev sc (d + 1) m_F_press 0 (iniL 4 [.ref 9, .long x]) [] (HH w s l A B) none (HH w s l (upA A 10 (mapP (prF x) (A 10) 49)) B) := by
  repeat (first | refine ev_gos 99 rfl ?_ | refine ev_gf2 rfl rfl rfl rfl ?_ | refine ev_gf2 rfl rfl (by with_reducible assumption) rfl ?_)
  have h3 := e_press_loop (sc := sc) (d := d) (w := w) (s := s) (l := l) (A := A) (B := B) (f := A 10) x 49 0 rfl
  rw [mapP_0, upA_id] at h3
  exact h3
end FLH
