/-! the class: deeds by draws, what is tried, where there is room -/
/-- a loop's result, step by step -/
def fo {α : Type} (g : Nat → α → α) : Nat → α → α
  | 0, a => a
  | n + 1, a => g n (fo g n a)
def rfs (n : Int32) (W : Nat) (nt : Int32) : Int32 := if n < 1 then -1000000002 else if 20 < n then -1000000002 else if W = 0 then -1000000003 else if 9000 < nt then -1000000004 else 0
theorem nlt_le3 {x y : Int32} (h : ¬ x < y) : y ≤ x := by rw [Int32.lt_iff_toInt_lt] at h; rw [Int32.le_iff_toInt_le]; omega
def roomF (sh : Nat → Int64) (dn : Int64) (k : Nat) (c : Nat) : Bool := decide (¬ sh (k * 49 + c) = 0) && decide (sh (k * 49 + c) &&& dn = 0)
/-- where one of kind k can lie -/
def rmS (sh : Nat → Int64) (f : Nat → Int32) (k N : Nat) : Int64 := setP (roomF sh (dnS f 1 49) k) N
/-- what a night's draw does: seed, dents, places, wind -/
def hapD (W H P : Nat) (rk : Int64) (kd_ : Nat → Int32) (sh : Nat → Int64) (x : Int32) (dn at_ : Nat → Int32) (wd : Int32) : Int32 × (Nat → Int32) × (Nat → Int32) × Int32 :=
  if drN x 8 = 0 then (if P = 0 then (dS x, dn, at_, wd) else
    bif bs (rmS sh dn (kd_ (drN (dS x) P)).toNatClampNeg (W * H)) (drN (dS (dS x)) (W * H)) then (dS (dS (dS x)), mapP (prF (sh ((kd_ (drN (dS x) P)).toNatClampNeg * 49 + drN (dS (dS x)) (W * H)))) dn 49, upd at_ (drN (dS x) P) (nI (drN (dS (dS x)) (W * H))), wd) else (dS (dS (dS x)), dn, at_, wd))
  else if drN x 8 = 1 then (bif bs rk (drN (dS x) (W * H)) then (dS (dS x), dn, at_, wd) else (dS (dS x), upd dn (drN (dS x) (W * H)) (if dn (drN (dS x) (W * H)) + 2 < 9 then dn (drN (dS x) (W * H)) + 2 else 9), at_, wd))
  else if drN x 8 = 2 then (dS x, mapP snF dn 49, at_, wd)
  else if drN x 8 = 3 then (dS (dS x), dn, at_, nI (drN (dS x) 5))
  else (dS x, dn, at_, wd)
section DE2
variable {sc : Scr} {d : Nat} {w : Bool} {s : Nat → Int32} {l : Nat → Int64} {A : Nat → Nat → Int32} {B : Nat → Nat → Int64} {W H P : Nat}
theorem e_refusal (hw : s 15 = nI W) (hW : W ≤ 7) (n : Int32) : Ev sc (d + 1) m_C_refusalOfNights 0 (iniL 2 [.ref 0, .int n]) [] (HH w s l A B) (some (.int (rfs n W (s 10)))) (HH w s l A B) := by
  unfold rfs
  repeat (first | refine ev_gos 99 rfl ?_ | refine ev_gf2 rfl rfl rfl rfl ?_ | refine ev_gf2 rfl rfl HH_land rfl ?_ | refine ev_gf2 rfl rfl HH_draft rfl ?_ | refine ev_gf2 rfl rfl (by with_reducible assumption) rfl ?_)
  by_cases h1 : n < 1
  · refine ev_ift rfl rfl rfl (c_lt h1) ?_
    repeat (first | refine ev_gos 99 rfl ?_ | refine ev_gf2 rfl rfl rfl rfl ?_ | refine ev_gf2 rfl rfl HH_land rfl ?_ | refine ev_gf2 rfl rfl HH_draft rfl ?_ | refine ev_gf2 rfl rfl (by with_reducible assumption) rfl ?_)
    exact ev_ri rfl (by rw [if_pos h1]) rfl
  · rw [if_neg h1]
    refine ev_iff rfl rfl rfl (d_lt h1) ?_
    repeat (first | refine ev_gos 99 rfl ?_ | refine ev_gf2 rfl rfl rfl rfl ?_ | refine ev_gf2 rfl rfl HH_land rfl ?_ | refine ev_gf2 rfl rfl HH_draft rfl ?_ | refine ev_gf2 rfl rfl (by with_reducible assumption) rfl ?_)
    by_cases h2 : 20 < n
    · refine ev_iff rfl rfl rfl (d_le (fun z => le_nlt z h2)) ?_
      repeat (first | refine ev_gos 99 rfl ?_ | refine ev_gf2 rfl rfl rfl rfl ?_ | refine ev_gf2 rfl rfl HH_land rfl ?_ | refine ev_gf2 rfl rfl HH_draft rfl ?_ | refine ev_gf2 rfl rfl (by with_reducible assumption) rfl ?_)
      exact ev_ri rfl (by rw [if_pos h2]) rfl
    · rw [if_neg h2]
      refine ev_ift rfl rfl rfl (c_le (nlt_le3 h2)) ?_
      repeat (first | refine ev_gos 99 rfl ?_ | refine ev_gf2 rfl rfl rfl rfl ?_ | refine ev_gf2 rfl rfl HH_land rfl ?_ | refine ev_gf2 rfl rfl HH_draft rfl ?_ | refine ev_gf2 rfl rfl (by with_reducible assumption) rfl ?_)
      refine ev_cv rfl rfl rfl (e_hasNorth hw hW) ?_
      by_cases h3 : W = 0
      · rw [if_pos h3, decide_eq_false (by omega)]
        refine ev_iff rfl rfl rfl rfl ?_
        repeat (first | refine ev_gos 99 rfl ?_ | refine ev_gf2 rfl rfl rfl rfl ?_ | refine ev_gf2 rfl rfl HH_land rfl ?_ | refine ev_gf2 rfl rfl HH_draft rfl ?_ | refine ev_gf2 rfl rfl (by with_reducible assumption) rfl ?_)
        exact ev_ri rfl rfl rfl
      · rw [if_neg h3, decide_eq_true (by omega)]
        refine ev_ift rfl rfl rfl rfl ?_
        repeat (first | refine ev_gos 99 rfl ?_ | refine ev_gf2 rfl rfl rfl rfl ?_ | refine ev_gf2 rfl rfl HH_land rfl ?_ | refine ev_gf2 rfl rfl HH_draft rfl ?_ | refine ev_gf2 rfl rfl (by with_reducible assumption) rfl ?_)
        by_cases h4 : 9000 < s 10
        · refine ev_iff rfl rfl rfl (d_le (fun z => le_nlt z h4)) ?_
          repeat (first | refine ev_gos 99 rfl ?_ | refine ev_gf2 rfl rfl rfl rfl ?_ | refine ev_gf2 rfl rfl HH_land rfl ?_ | refine ev_gf2 rfl rfl HH_draft rfl ?_ | refine ev_gf2 rfl rfl (by with_reducible assumption) rfl ?_)
          exact ev_ri rfl (by rw [if_pos h4]) rfl
        · refine ev_ift rfl rfl rfl (c_le (nlt_le3 h4)) ?_
          repeat (first | refine ev_gos 99 rfl ?_ | refine ev_gf2 rfl rfl rfl rfl ?_ | refine ev_gf2 rfl rfl HH_land rfl ?_ | refine ev_gf2 rfl rfl HH_draft rfl ?_ | refine ev_gf2 rfl rfl (by with_reducible assumption) rfl ?_)
          exact ev_ri rfl (by rw [if_neg h4]) rfl
theorem e_layDown {p c k : Nat} (hp : p < 7) (hc : c < 49) (hk : k < 5) (ek : A 4 p = nI k) : Ev sc (d + 2) m_C_layDown 0 (iniL 3 [.ref 0, .int (nI p), .int (nI c)]) [] (HH w s l A B) none (HH w s l (upA (upA A 11 (upd (A 11) p (nI c))) 10 (mapP (prF (B 5 (k * 49 + c))) (A 10) 49)) B) := by
  repeat (first | refine ev_gos 99 rfl ?_ | refine ev_gf2 rfl rfl rfl rfl ?_ | refine ev_gf2 rfl rfl HH_land rfl ?_ | refine ev_gf2 rfl rfl HH_draft rfl ?_ | refine ev_gf2 rfl rfl (by with_reducible assumption) rfl ?_)
  refine is_11 rfl (inI (by omega) (by decide)) ?_
  rw [nI_clamp (by omega)]
  repeat (first | refine ev_gos 99 rfl ?_ | refine ev_gf2 rfl rfl rfl rfl ?_ | refine ev_gf2 rfl rfl HH_land rfl ?_ | refine ev_gf2 rfl rfl HH_draft rfl ?_ | refine ev_gf2 rfl rfl (by with_reducible assumption) rfl ?_)
  refine ev_ia rfl HH_kinds (inI (by omega) (by decide)) ?_
  rw [nI_clamp (by omega)]
  refine (?_ : Ek sc (d + 2) m_C_layDown 27 _ [.int (A 4 p), _, _] _ _ _ _ _)
  rw [ek]
  repeat (first | refine ev_gos 99 rfl ?_ | refine ev_gf2 rfl rfl rfl rfl ?_ | refine ev_gf2 rfl rfl HH_land rfl ?_ | refine ev_gf2 rfl rfl HH_draft rfl ?_ | refine ev_gf2 rfl rfl (by with_reducible assumption) rfl ?_)
  refine ev_cv rfl rfl HH_land (e_shape HH_land HH_shapes hk hc) ?_
  repeat (first | refine ev_gos 99 rfl ?_ | refine ev_gf2 rfl rfl rfl rfl ?_ | refine ev_gf2 rfl rfl HH_land rfl ?_ | refine ev_gf2 rfl rfl HH_draft rfl ?_ | refine ev_gf2 rfl rfl (by with_reducible assumption) rfl ?_)
  refine ev_cv rfl rfl rfl (e_press _) ?_
  exact ev_rv rfl rfl
theorem e_roomFor_loop (hN : CN s l A B W H P) {p k : Nat} (hp : p < 7) (hk : k < 5) (ek : A 4 p = nI k) : ∀ (n i : Nat), i + n = W * H → Ev sc (d + 1) m_C_roomFor 20 [some (.ref 0), some (.int (nI p)), some (.long (dnS (A 10) 1 49)), none, some (.long (setP (roomF (B 5) (dnS (A 10) 1 49) k) i)), none, some (.int (nI i)), none, none] [.ref (wL w), .int (nI i)] (HH w s l A B) (some (.long (rmS (B 5) (A 10) k (W * H)))) (HH w s l A B) := by
  have h49 := hN.n49
  intro n
  induction n with
  | zero =>
    intro i hi
    have e : i = W * H := by omega
    subst e
    refine ev_cv rfl rfl HH_land (e_cells HH_land) ?_
    rw [hN.cells]
    refine ev_ift rfl rfl rfl (c_ge ((nI_leI (by omega) (by omega)).mpr (by omega))) ?_
    repeat (first | refine ev_gos 99 rfl ?_ | refine ev_gf2 rfl rfl rfl rfl ?_ | refine ev_gf2 rfl rfl HH_land rfl ?_ | refine ev_gf2 rfl rfl HH_draft rfl ?_ | refine ev_gf2 rfl rfl (by with_reducible assumption) rfl ?_)
    exact ev_rl rfl rfl rfl
  | succ n ih =>
    intro i hi
    refine ev_cv rfl rfl HH_land (e_cells HH_land) ?_
    rw [hN.cells]
    refine ev_iff rfl rfl rfl (d_ge (nI_lt3 (by omega) (by omega) (by omega))) ?_
    repeat (first | refine ev_gos 99 rfl ?_ | refine ev_gf2 rfl rfl rfl rfl ?_ | refine ev_gf2 rfl rfl HH_land rfl ?_ | refine ev_gf2 rfl rfl HH_draft rfl ?_ | refine ev_gf2 rfl rfl (by with_reducible assumption) rfl ?_)
    (refine ev_ia rfl HH_kinds (inI (by omega) (by decide)) ?_; rw [nI_clamp (by omega)])
    rw [ek]
    repeat (first | refine ev_gos 99 rfl ?_ | refine ev_gf2 rfl rfl rfl rfl ?_ | refine ev_gf2 rfl rfl HH_land rfl ?_ | refine ev_gf2 rfl rfl HH_draft rfl ?_ | refine ev_gf2 rfl rfl (by with_reducible assumption) rfl ?_)
    refine ev_cv rfl rfl HH_land (e_shape HH_land HH_shapes hk (by omega)) ?_
    repeat (first | refine ev_gos 99 rfl ?_ | refine ev_gf2 rfl rfl rfl rfl ?_ | refine ev_gf2 rfl rfl HH_land rfl ?_ | refine ev_gf2 rfl rfl HH_draft rfl ?_ | refine ev_gf2 rfl rfl (by with_reducible assumption) rfl ?_)
    have h3 := ih (i + 1) (by omega)
    rw [← nI_1] at h3
    by_cases h1 : B 5 (k * 49 + i) = 0
    · rw [setP_f (n := i) (by unfold roomF; rw [decide_eq_false (fun z => z h1)]; rfl)] at h3
      refine ev_ift rfl rfl rfl (i_eq (lc_eq.mpr h1)) ?_
      repeat (first | refine ev_gos 99 rfl ?_ | refine ev_gf2 rfl rfl rfl rfl ?_ | refine ev_gf2 rfl rfl HH_land rfl ?_ | refine ev_gf2 rfl rfl HH_draft rfl ?_ | refine ev_gf2 rfl rfl (by with_reducible assumption) rfl ?_)
      exact ev_wk2 h3 rfl (by repeat' (first | exact trivial | refine ⟨rfl, ?_⟩))
    · refine ev_iff rfl rfl rfl (j_eq (fun z => h1 (lc_eq.mp z))) ?_
      repeat (first | refine ev_gos 99 rfl ?_ | refine ev_gf2 rfl rfl rfl rfl ?_ | refine ev_gf2 rfl rfl HH_land rfl ?_ | refine ev_gf2 rfl rfl HH_draft rfl ?_ | refine ev_gf2 rfl rfl (by with_reducible assumption) rfl ?_)
      by_cases h2 : B 5 (k * 49 + i) &&& dnS (A 10) 1 49 = 0
      · rw [setP_t (n := i) (by omega) (by unfold roomF; rw [decide_eq_true h1, decide_eq_true h2]; rfl)] at h3
        refine ev_iff rfl rfl rfl (j_ne (lc_eq.mpr h2)) ?_
        repeat (first | refine ev_gos 99 rfl ?_ | refine ev_gf2 rfl rfl rfl rfl ?_ | refine ev_gf2 rfl rfl HH_land rfl ?_ | refine ev_gf2 rfl rfl HH_draft rfl ?_ | refine ev_gf2 rfl rfl (by with_reducible assumption) rfl ?_)
        exact ev_wk2 h3 rfl (by repeat' (first | exact trivial | refine ⟨rfl, ?_⟩))
      · rw [setP_f (n := i) (by unfold roomF; rw [decide_eq_false h2, Bool.and_false])] at h3
        refine ev_ift rfl rfl rfl (i_ne (fun z => h2 (lc_eq.mp z))) ?_
        repeat (first | refine ev_gos 99 rfl ?_ | refine ev_gf2 rfl rfl rfl rfl ?_ | refine ev_gf2 rfl rfl HH_land rfl ?_ | refine ev_gf2 rfl rfl HH_draft rfl ?_ | refine ev_gf2 rfl rfl (by with_reducible assumption) rfl ?_)
        exact ev_wk2 h3 rfl (by repeat' (first | exact trivial | refine ⟨rfl, ?_⟩))
theorem e_roomFor (hN : CN s l A B W H P) {p k : Nat} (hp : p < 7) (hk : k < 5) (ek : A 4 p = nI k) : Ev sc (d + 2) m_C_roomFor 0 (iniL 9 [.ref 0, .int (nI p)]) [] (HH w s l A B) (some (.long (rmS (B 5) (A 10) k (W * H)))) (HH w s l A B) := by
  repeat (first | refine ev_gos 99 rfl ?_ | refine ev_gf2 rfl rfl rfl rfl ?_ | refine ev_gf2 rfl rfl HH_land rfl ?_ | refine ev_gf2 rfl rfl HH_draft rfl ?_ | refine ev_gf2 rfl rfl (by with_reducible assumption) rfl ?_)
  refine ev_cv rfl rfl rfl (e_dented (p := 9) (pd := 10) (pa := 11) (wd := s 9) (nt := s 10) (f := A 10) rfl rfl) ?_
  repeat (first | refine ev_gos 99 rfl ?_ | refine ev_gf2 rfl rfl rfl rfl ?_ | refine ev_gf2 rfl rfl HH_land rfl ?_ | refine ev_gf2 rfl rfl HH_draft rfl ?_ | refine ev_gf2 rfl rfl (by with_reducible assumption) rfl ?_)
  have h3 := e_roomFor_loop (sc := sc) (d := d + 1) (w := w) hN hp hk ek (W * H) 0 (Nat.zero_add _)
  rw [setP_0] at h3
  exact h3
theorem e_lieByDraw (hN : CN s l A B W H P) (hW : 2 ≤ W) (hH : 2 ≤ H) : Ev sc (d + 3) m_C_lieByDraw 0 (iniL 3 [.ref 0]) [] (HH w s l A B) none (if P = 0 then HH w s l A B else bif bs (rmS (B 5) (A 10) (A 4 (drN (s 8) P)).toNatClampNeg (W * H)) (drN (dS (s 8)) (W * H)) then HH w (upA s 8 (dS (dS (s 8)))) l (upA (upA A 11 (upd (A 11) (drN (s 8) P) (nI (drN (dS (s 8)) (W * H))))) 10 (mapP (prF (B 5 ((A 4 (drN (s 8) P)).toNatClampNeg * 49 + drN (dS (s 8)) (W * H)))) (A 10) 49)) B else HH w (upA s 8 (dS (dS (s 8)))) l A B) := by
  have h49 := hN.n49
  have h4 : 4 ≤ W * H := Nat.mul_le_mul hW hH
  have hP7 : P ≤ 7 := hN.2.2.2.2.2.1
  repeat (first | refine ev_gos 99 rfl ?_ | refine ev_gf2 rfl rfl rfl rfl ?_ | refine ev_gf2 rfl rfl HH_land rfl ?_ | refine ev_gf2 rfl rfl HH_draft rfl ?_ | refine ev_gf2 rfl rfl (by with_reducible assumption) rfl ?_)
  by_cases h0 : P = 0
  · rw [if_pos h0]
    refine ev_iff rfl rfl rfl (j_ne (by rw [hN.2.2.1, h0]; rfl)) ?_
    exact ev_rv rfl rfl
  · rw [if_neg h0]
    refine ev_ift rfl rfl rfl (i_ne (by rw [hN.2.2.1]; exact nI_ne (by omega) (by omega))) ?_
    repeat (first | refine ev_gos 99 rfl ?_ | refine ev_gf2 rfl rfl rfl rfl ?_ | refine ev_gf2 rfl rfl HH_land rfl ?_ | refine ev_gf2 rfl rfl HH_draft rfl ?_ | refine ev_gf2 rfl rfl (by with_reducible assumption) rfl ?_)
    refine ev_cv rfl rfl rfl (by
      have q := e_draw (sc := sc) (d := d + 2) (w := w) (s := s) (l := l) (A := A) (B := B) (m := P) (by omega) (by omega)
      rw [← hN.2.2.1] at q
      exact q) ?_
    repeat (first | refine ev_gos 99 rfl ?_ | refine ev_gf2 rfl rfl rfl rfl ?_ | refine ev_gf2 rfl rfl HH_land rfl ?_ | refine ev_gf2 rfl rfl HH_draft rfl ?_ | refine ev_gf2 rfl rfl (by with_reducible assumption) rfl ?_)
    refine ev_cv rfl rfl HH_land (e_cells HH_land) ?_
    refine ev_cv rfl rfl rfl (by
      have q := e_draw (sc := sc) (d := d + 2) (w := w) (s := upA s 8 (dS (s 8))) (l := l) (A := A) (B := B) (m := W * H) (by omega) (by omega)
      rw [← hN.cells] at q
      exact q) ?_
    rw [upA_up]
    have hp := Nat.mod_lt ((dS (s 8)).toNatClampNeg / 65536) (show 0 < P by omega)
    have hc := Nat.mod_lt ((dS (dS (s 8))).toNatClampNeg / 65536) (show 0 < W * H by omega)
    refine (?_ : Ek sc (d + 3) m_C_lieByDraw 34 _ [.int (nI (drN (dS (s 8)) (W * H)))] (HH w (upA s 8 (dS (dS (s 8)))) l A B) _ _ _ _)
    have hp2 : drN (s 8) P < P := hp
    have hc2 : drN (dS (s 8)) (W * H) < W * H := hc
    generalize drN (s 8) P = p at *
    generalize drN (dS (s 8)) (W * H) = c at *
    obtain ⟨k, k1, k2⟩ := hN.2.2.2.2.2.2.2.2.2.2.1 p hp2
    rw [k2, nI_clamp (by omega)]
    repeat (first | refine ev_gos 99 rfl ?_ | refine ev_gf2 rfl rfl rfl rfl ?_ | refine ev_gf2 rfl rfl HH_land rfl ?_ | refine ev_gf2 rfl rfl HH_draft rfl ?_ | refine ev_gf2 rfl rfl (by with_reducible assumption) rfl ?_)
    refine ev_cv rfl rfl rfl (e_roomFor (s := upA s 8 (dS (dS (s 8)))) (P := P) (W := W) (H := H) hN (by omega) k1 k2) ?_
    repeat (first | refine ev_gos 99 rfl ?_ | refine ev_gf2 rfl rfl rfl rfl ?_ | refine ev_gf2 rfl rfl HH_land rfl ?_ | refine ev_gf2 rfl rfl HH_draft rfl ?_ | refine ev_gf2 rfl rfl (by with_reducible assumption) rfl ?_)
    refine ev_cs rfl rfl rfl (e_has sc _ _ _ (by omega)) ?_
    refine (?_ : Ek sc (d + 3) m_C_lieByDraw 44 _ [.int (b01 (bs (rmS (B 5) (A 10) k (W * H)) c))] _ _ _ _ _)
    cases hb : bs (rmS (B 5) (A 10) k (W * H)) c with
    | false =>
      refine ev_ift rfl rfl rfl rfl ?_
      exact ev_rv rfl rfl
    | true =>
      refine ev_iff rfl rfl rfl rfl ?_
      repeat (first | refine ev_gos 99 rfl ?_ | refine ev_gf2 rfl rfl rfl rfl ?_ | refine ev_gf2 rfl rfl HH_land rfl ?_ | refine ev_gf2 rfl rfl HH_draft rfl ?_ | refine ev_gf2 rfl rfl (by with_reducible assumption) rfl ?_)
      refine ev_cv rfl rfl rfl (e_layDown (p := p) (c := c) (k := k) (by omega) (by omega) k1 k2) ?_
      exact ev_rv rfl rfl
theorem e_hareByDraw (hN : CN s l A B W H P) (hW : 2 ≤ W) (hH : 2 ≤ H) : Ev sc (d + 2) m_C_hareByDraw 0 (iniL 2 [.ref 0]) [] (HH w s l A B) none (bif bs (l 3) (drN (s 8) (W * H)) then HH w (upA s 8 (dS (s 8))) l A B else HH w (upA s 8 (dS (s 8))) l (upA A 10 (upd (A 10) (drN (s 8) (W * H)) (if A 10 (drN (s 8) (W * H)) + 2 < 9 then A 10 (drN (s 8) (W * H)) + 2 else 9))) B) := by
  have h49 := hN.n49
  have h4 : 4 ≤ W * H := Nat.mul_le_mul hW hH
  repeat (first | refine ev_gos 99 rfl ?_ | refine ev_gf2 rfl rfl rfl rfl ?_ | refine ev_gf2 rfl rfl HH_land rfl ?_ | refine ev_gf2 rfl rfl HH_draft rfl ?_ | refine ev_gf2 rfl rfl (by with_reducible assumption) rfl ?_)
  refine ev_cv rfl rfl HH_land (e_cells HH_land) ?_
  refine ev_cv rfl rfl rfl (by
    have q := e_draw (sc := sc) (d := d + 1) (w := w) (s := s) (l := l) (A := A) (B := B) (m := W * H) (by omega) (by omega)
    rw [← hN.cells] at q
    exact q) ?_
  have hc := Nat.mod_lt ((dS (s 8)).toNatClampNeg / 65536) (show 0 < W * H by omega)
  have hc2 : drN (s 8) (W * H) < W * H := hc
  rw [hN.cells]
  refine (?_ : Ek sc (d + 2) m_C_hareByDraw 11 _ [.int (nI (drN (s 8) (W * H)))] _ _ _ _ _)
  generalize drN (s 8) (W * H) = c at *
  repeat (first | refine ev_gos 99 rfl ?_ | refine ev_gf2 rfl rfl rfl rfl ?_ | refine ev_gf2 rfl rfl HH_land rfl ?_ | refine ev_gf2 rfl rfl HH_draft rfl ?_ | refine ev_gf2 rfl rfl (by with_reducible assumption) rfl ?_)
  refine ev_cv rfl rfl HH_land (e_isRock HH_land (by omega)) ?_
  refine (?_ : Ek sc (d + 2) m_C_hareByDraw 20 _ [.int (b01 (bs (l 3) c))] _ _ _ _ _)
  cases hb : bs (l 3) c with
  | true =>
    refine ev_ift rfl rfl rfl rfl ?_
    exact ev_rv rfl rfl
  | false =>
    refine ev_iff rfl rfl rfl rfl ?_
    repeat (first | refine ev_gos 99 rfl ?_ | refine ev_gf2 rfl rfl rfl rfl ?_ | refine ev_gf2 rfl rfl HH_land rfl ?_ | refine ev_gf2 rfl rfl HH_draft rfl ?_ | refine ev_gf2 rfl rfl (by with_reducible assumption) rfl ?_)
    refine ev_cv rfl rfl rfl (e_cross (by omega)) ?_
    exact ev_rv rfl rfl
theorem e_canTry (h : AHp) (n : Int32) : Ev sc d m_C_canTry 0 (iniL 2 [.ref 0, .int n]) [] h (some (.int (b01 (inR n 21)))) h := by
  repeat (first | refine ev_gos 99 rfl ?_ | refine ev_gf2 rfl rfl rfl rfl ?_ | refine ev_gf2 rfl rfl HH_land rfl ?_ | refine ev_gf2 rfl rfl HH_draft rfl ?_ | refine ev_gf2 rfl rfl (by with_reducible assumption) rfl ?_)
  unfold inR
  by_cases h0 : n < 0
  · refine ev_ift rfl rfl rfl (i_lt h0) ?_
    repeat (first | refine ev_gos 99 rfl ?_ | refine ev_gf2 rfl rfl rfl rfl ?_ | refine ev_gf2 rfl rfl HH_land rfl ?_ | refine ev_gf2 rfl rfl HH_draft rfl ?_ | refine ev_gf2 rfl rfl (by with_reducible assumption) rfl ?_)
    exact ev_rz rfl (Or.inl rfl) (by rw [decide_eq_false (lt0 h0)]; rfl) rfl
  · refine ev_iff rfl rfl rfl (j_lt h0) ?_
    repeat (first | refine ev_gos 99 rfl ?_ | refine ev_gf2 rfl rfl rfl rfl ?_ | refine ev_gf2 rfl rfl HH_land rfl ?_ | refine ev_gf2 rfl rfl HH_draft rfl ?_ | refine ev_gf2 rfl rfl (by with_reducible assumption) rfl ?_)
    have e : n < nI 21 ↔ ¬ 20 < n := by
      rw [Int32.lt_iff_toInt_lt, Int32.lt_iff_toInt_lt]
      show n.toInt < 21 ↔ ¬ (20 : Int) < n.toInt
      omega
    by_cases h1 : 20 < n
    · refine ev_ift rfl rfl rfl (c_gt h1) ?_
      repeat (first | refine ev_gos 99 rfl ?_ | refine ev_gf2 rfl rfl rfl rfl ?_ | refine ev_gf2 rfl rfl HH_land rfl ?_ | refine ev_gf2 rfl rfl HH_draft rfl ?_ | refine ev_gf2 rfl rfl (by with_reducible assumption) rfl ?_)
      exact ev_rz rfl (Or.inl rfl) (by rw [decide_eq_false (fun z => e.mp z h1), Bool.and_false]; rfl) rfl
    · refine ev_iff rfl rfl rfl (d_gt h1) ?_
      repeat (first | refine ev_gos 99 rfl ?_ | refine ev_gf2 rfl rfl rfl rfl ?_ | refine ev_gf2 rfl rfl HH_land rfl ?_ | refine ev_gf2 rfl rfl HH_draft rfl ?_ | refine ev_gf2 rfl rfl (by with_reducible assumption) rfl ?_)
      exact ev_rz rfl (Or.inr rfl) (by rw [decide_eq_true (ge0 h0), decide_eq_true (e.mpr h1)]; rfl) rfl
end DE2
