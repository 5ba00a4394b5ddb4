/-! the draft: cleared, measured, its shapes drawn -/
theorem sRl_up (r : RS) (p : Nat) (x y : Int64) : sRl (sRl r p x) p y = sRl r p y := by unfold sRl; dsimp only; rw [upA_up]
theorem sRl_id {r : RS} {p : Nat} {x : Int64} (h : r.2.1 p = x) : sRl r p x = r := by unfold sRl; rw [← h, upA_id]
theorem sRl_comm (r : RS) {p q : Nat} (h : Nat.beq p q = false) (x y : Int64) : sRl (sRl r p x) q y = sRl (sRl r q y) p x := by unfold sRl; dsimp only; rw [upA_comm _ h]
def mapJ (x : Int64) (f : Nat → Int64) (n : Nat) : Nat → Int64 := fun j => if j < n then x else f j
theorem mapJ_0 (x : Int64) (f : Nat → Int64) : mapJ x f 0 = f := by funext j; unfold mapJ; rw [if_neg (by omega)]
theorem mapJ_s (x : Int64) (f : Nat → Int64) (n : Nat) : vp_updL (mapJ x f n) n x = mapJ x f (n + 1) := by
  funext j
  show (if j = n then x else mapJ x f n j) = _
  unfold mapJ
  by_cases e : j = n
  · subst e
    simp
  · by_cases e2 : j < n
    · simp [e, e2, show j < n + 1 by omega]
    · simp [e, e2, show ¬ j < n + 1 by omega]
theorem e_fillL_loop {sc : Scr} {d q m : Nat} {h : AHp} {f : Nat → Int64} (hd : h[q]? = some (aJ m f)) (hm : m < 2 ^ 31) (x : Int64) : ∀ (n i : Nat), i + n = m → Ev sc d m_JA_fillL 9 [some (.ref q), some (.long x), none, some (.int (nI i)), some (.int (Int32.ofNat m))] [.int (Int32.ofNat m), .int (nI i)] (h.set q (aJ m (mapJ x f i))) none (h.set q (aJ m (mapJ x f m))) := by
  intro n
  induction n with
  | zero =>
    intro i hi
    have e : i = m := by omega
    subst e
    refine ev_ift rfl rfl rfl (c_ge ((nI_leI hm hm).mpr (Nat.le_refl i) : nI i ≤ nI i)) ?_
    exact ev_rv rfl rfl
  | succ n ih =>
    intro i hi
    refine ev_iff rfl rfl rfl (d_ge (nI_lt3 (by omega) hm (by omega) : ¬ nI m ≤ nI i)) ?_
    repeat (first | refine ev_gos 99 rfl ?_ | refine ev_gf2 rfl rfl rfl rfl ?_ | refine ev_gf2 rfl rfl HH_land rfl ?_ | refine ev_gf2 rfl rfl HH_draft rfl ?_ | refine ev_gf2 rfl rfl (by with_reducible assumption) rfl ?_)
    refine ev_lst rfl (gs_eq hd) (inI (by omega) hm) ?_
    rw [nI_clamp (by omega), List.set_set]
    have h3 := ih (i + 1) (by omega)
    rw [← nI_1, ← mapJ_s] at h3
    repeat (first | refine ev_gos 99 rfl ?_ | refine ev_gf2 rfl rfl rfl rfl ?_ | refine ev_gf2 rfl rfl HH_land rfl ?_ | refine ev_gf2 rfl rfl HH_draft rfl ?_ | refine ev_gf2 rfl rfl (by with_reducible assumption) rfl ?_)
    exact h3
theorem e_fillL {sc : Scr} {d q m : Nat} {h : AHp} {f : Nat → Int64} (hd : h[q]? = some (aJ m f)) (hm : m < 2 ^ 31) (x : Int64) : Ev sc d m_JA_fillL 0 (iniL 5 [.ref q, .long x]) [] h none (h.set q (aJ m (mapJ x f m))) := by
  repeat (first | refine ev_gos 99 rfl ?_ | refine ev_gf2 rfl rfl rfl rfl ?_ | refine ev_gf2 rfl rfl HH_land rfl ?_ | refine ev_gf2 rfl rfl HH_draft rfl ?_ | refine ev_gf2 rfl rfl (by with_reducible assumption) rfl ?_)
  refine ev_len rfl (Or.inr (rd_of hd)) ?_
  repeat (first | refine ev_gos 99 rfl ?_ | refine ev_gf2 rfl rfl rfl rfl ?_ | refine ev_gf2 rfl rfl HH_land rfl ?_ | refine ev_gf2 rfl rfl HH_draft rfl ?_ | refine ev_gf2 rfl rfl (by with_reducible assumption) rfl ?_)
  have h3 := e_fillL_loop (sc := sc) (d := d) hd hm x m 0 (Nat.zero_add m)
  have e : h.set q (aJ m (mapJ x f 0)) = h := by
    rw [mapJ_0]
    apply List.ext_getElem?
    intro i
    by_cases hq : q = i
    · subst hq
      rw [gs_eq hd, hd]
    · rw [gs_ne hq]
  rw [e] at h3
  exact h3
def clrR (r : RS) : RS := sRb (sRl (sRl (sRl (sRl (sR (sR (sR (sR r 19 0) 20 0) 21 0) 22 0) 4 0) 5 0) 6 0) 7 0) (mapJ 0 r.2.2.2 245)
def msR (r : RS) (w h : Nat) : RS := sRl (sRl (sRl (sR (sR r 19 (nI w)) 20 (nI h)) 4 (allS (w * h))) 5 (lefS w (w * h))) 6 (rigS w (w * h))
theorem all_eq {N : Nat} (h : N ≤ 49) : bit N - 1 = allS N := by
  apply mk_eq
  intro i hi
  rw [bitm1 (by omega) hi]
theorem lef_s {w y : Nat} (hw : 1 ≤ w) (h : w * y + w ≤ 49) : lefS w (w * y) ||| bit (w * y) = lefS w (w * (y + 1)) := by
  apply mk_eq
  intro i hi
  rw [bs_or, bs_bitc (by omega) hi]
  unfold lefS
  rw [bs_mk _ hi, show w * (y + 1) = w * y + w from Nat.mul_succ w y]
  by_cases a : i < w * y
  · simp [a, show ¬ i = w * y by omega, show i < w * y + w by omega]
  · by_cases b : i < w * y + w
    · obtain ⟨k, rfl⟩ : ∃ k, i = w * y + k := ⟨i - w * y, by omega⟩
      rw [Nat.mul_add_mod, Nat.mod_eq_of_lt (show k < w by omega)]
      simp [a, b]
    · simp [a, b]
      omega
theorem rig_s {w y : Nat} (hw : 1 ≤ w) (h : w * y + w ≤ 49) : rigS w (w * y) ||| bit (w * y + w - 1) = rigS w (w * (y + 1)) := by
  apply mk_eq
  intro i hi
  rw [bs_or, bs_bitc (by omega) hi]
  unfold rigS
  rw [bs_mk _ hi, show w * (y + 1) = w * y + w from Nat.mul_succ w y]
  by_cases a : i < w * y
  · simp [a, show ¬ i = w * y + w - 1 by omega, show i < w * y + w by omega]
  · by_cases b : i < w * y + w
    · obtain ⟨k, rfl⟩ : ∃ k, i = w * y + k := ⟨i - w * y, by omega⟩
      rw [Nat.mul_add_mod, Nat.mod_eq_of_lt (show k < w by omega)]
      simp [a, b]
      omega
    · simp [a, b]
      omega
theorem lef_0 (w : Nat) : lefS w 0 = 0 := bs_ext (fun i hi => by unfold lefS; rw [bs_mk _ hi, bs_0]; simp)
theorem rig_0 (w : Nat) : rigS w 0 = 0 := bs_ext (fun i hi => by unfold rigS; rw [bs_mk _ hi, bs_0]; simp)
theorem all_0 : allS 0 = 0 := bs_ext (fun i hi => by unfold allS; rw [bs_mk _ hi, bs_0]; simp)
def dsC (W N : Nat) (rk : Int64) (k c : Nat) (b : Nat → Int64) : Nat → Int64 := vp_updL b (k * 49 + c) (drwS W N rk k c)
def dsK (W N : Nat) (rk : Int64) (k : Nat) (b : Nat → Int64) : Nat → Int64 := fo (dsC W N rk k) N b
theorem dsC_at (W N : Nat) (rk : Int64) (k : Nat) (b : Nat → Int64) : ∀ n j, fo (dsC W N rk k) n b j = if k * 49 ≤ j ∧ j < k * 49 + n then drwS W N rk k (j - k * 49) else b j
  | 0, j => by rw [if_neg (by omega)]; rfl
  | n + 1, j => by
    show (if j = k * 49 + n then drwS W N rk k n else fo (dsC W N rk k) n b j) = _
    rw [dsC_at W N rk k b n j]
    by_cases e : j = k * 49 + n
    · subst e
      rw [if_pos rfl, if_pos (by omega), show k * 49 + n - k * 49 = n by omega]
    · rw [if_neg e]
      by_cases e2 : k * 49 ≤ j ∧ j < k * 49 + n
      · rw [if_pos e2, if_pos (by omega)]
      · rw [if_neg e2, if_neg (by omega)]
theorem dsK_at (W N : Nat) (rk : Int64) (b : Nat → Int64) {c : Nat} (hN : N ≤ 49) (hc : c < 49) : ∀ n k, fo (dsK W N rk) n b (k * 49 + c) = if k < n ∧ c < N then drwS W N rk k c else b (k * 49 + c)
  | 0, k => by rw [if_neg (by omega)]; rfl
  | n + 1, k => by
    show fo (dsC W N rk n) N (fo (dsK W N rk) n b) (k * 49 + c) = _
    rw [dsC_at, dsK_at W N rk b hN hc n k]
    by_cases e : k = n
    · subst e
      by_cases e2 : c < N
      · rw [if_pos (by omega), if_pos (by omega), show k * 49 + c - k * 49 = c by omega]
      · rw [if_neg (by omega), if_neg (by omega), if_neg (by omega)]
    · rw [if_neg (by omega)]
      by_cases e2 : k < n ∧ c < N
      · rw [if_pos e2, if_pos (by omega)]
      · rw [if_neg e2, if_neg (by omega)]
section DFT
variable {sc : Scr} {d : Nat} {w : Bool} {s : Nat → Int32} {l : Nat → Int64} {A : Nat → Nat → Int32} {B : Nat → Nat → Int64} {r : RS} {W H : Nat}
theorem HH_DR : HH w s l A B = DR w s l A B (s, l, A 7, B 8) := by
  have e1 : rsS s (s, l, A 7, B 8) = s := by funext q; show (bif isR q then s q else s q) = s q; cases isR q <;> rfl
  have e2 : rsL l (s, l, A 7, B 8) = l := by funext q; show (bif isRl q then l q else l q) = l q; cases isRl q <;> rfl
  show _ = HH w (rsS s (s, l, A 7, B 8)) (rsL l (s, l, A 7, B 8)) (upA A 7 (A 7)) (upA B 8 (B 8))
  rw [e1, e2, upA_id, upA_id]
theorem e_clear : Ev sc (d + 1) m_L_clear 0 (iniL 1 [.ref (wL (!w))]) [] (DR w s l A B r) none (DR w s l A B (clrR r)) := by
  refine ev_gos 99 rfl ?_
  refine pD_19 rfl ?_
  refine ev_gos 99 rfl ?_
  refine pD_20 rfl ?_
  refine ev_gos 99 rfl ?_
  refine pD_21 rfl ?_
  refine ev_gos 99 rfl ?_
  refine pD_22 rfl ?_
  refine ev_gos 99 rfl ?_
  refine pDl_4 rfl ?_
  refine ev_gos 99 rfl ?_
  refine pDl_5 rfl ?_
  refine ev_gos 99 rfl ?_
  refine pDl_6 rfl ?_
  refine ev_gos 99 rfl ?_
  refine pDl_7 rfl ?_
  repeat (first | refine ev_gos 99 rfl ?_ | refine ev_gf2 rfl rfl rfl rfl ?_ | refine ev_gf2 rfl rfl HH_land rfl ?_ | refine ev_gf2 rfl rfl HH_draft rfl ?_ | refine ev_gf2 rfl rfl (by with_reducible assumption) rfl ?_)
  refine ev_cs rfl rfl rfl (e_fillL (q := wS (!w)) (m := 245) (f := r.2.2.2) HH_dshapes (by decide) 0) ?_
  rw [HA_ds, upA_up]
  exact ev_rv rfl rfl
theorem e_measure_loop (hW : 1 ≤ W) (hW7 : W ≤ 7) (hH : H ≤ 7) : ∀ (n y : Nat), y + n = H → Ev sc d m_L_measure 25 [some (.ref (wL (!w))), some (.int (nI W)), some (.int (nI H)), some (.int (nI y))] [.int (nI H), .int (nI y)] (DR w s l A B (sRl (sRl r 5 (lefS W (W * y))) 6 (rigS W (W * y)))) none (DR w s l A B (sRl (sRl r 5 (lefS W (W * H))) 6 (rigS W (W * H)))) := by
  have h49 := WH49 hW7 hH
  intro n
  induction n with
  | zero =>
    intro y hy
    have e : y = H := by omega
    subst e
    refine ev_ift rfl rfl rfl (c_ge ((nI_leI (by omega) (by omega)).mpr (by omega))) ?_
    exact ev_rv rfl rfl
  | succ n ih =>
    intro y hy
    have hb : W * y + W ≤ 49 := by
      have : W * (y + 1) ≤ W * H := Nat.mul_le_mul_left W (by omega)
      rw [Nat.mul_succ] at this
      omega
    refine ev_iff rfl rfl rfl (d_ge (nI_lt3 (by omega) (by omega) (by omega))) ?_
    repeat (first | refine ev_gos 99 rfl ?_ | refine ev_gf2 rfl rfl rfl rfl ?_ | refine ev_gf2 rfl rfl HH_land rfl ?_ | refine ev_gf2 rfl rfl HH_draft rfl ?_ | refine ev_gf2 rfl rfl (by with_reducible assumption) rfl ?_)
    refine pDl_5 rfl ?_
    refine (?_ : Ek sc d m_L_measure 42 _ _ (DR w s l A B (sRl (sRl (sRl r 5 (lefS W (W * y))) 6 (rigS W (W * y))) 5 (lefS W (W * y) ||| (1 : Int64) <<< ((nI W * nI y).toInt64 &&& 63)))) _ _ _ _)
    rw [pk_mul, show (1 : Int64) <<< ((nI (W * y)).toInt64 &&& 63) = bit (W * y) from rfl, lef_s hW hb, sRl_comm _ (p := 6) (q := 5) rfl, sRl_up]
    repeat (first | refine ev_gos 99 rfl ?_ | refine ev_gf2 rfl rfl rfl rfl ?_ | refine ev_gf2 rfl rfl HH_land rfl ?_ | refine ev_gf2 rfl rfl HH_draft rfl ?_ | refine ev_gf2 rfl rfl (by with_reducible assumption) rfl ?_)
    refine pDl_6 rfl ?_
    refine (?_ : Ek sc d m_L_measure 60 _ _ (DR w s l A B (sRl (sRl (sRl r 5 (lefS W (W * (y + 1)))) 6 (rigS W (W * y))) 6 (rigS W (W * y) ||| (1 : Int64) <<< ((nI W * nI y + nI W - 1).toInt64 &&& 63)))) _ _ _ _)
    rw [pk_mul, nI_add, show (1 : Int32) = nI 1 from rfl, pk_sub (by omega), show (1 : Int64) <<< ((nI (W * y + W - 1)).toInt64 &&& 63) = bit (W * y + W - 1) from rfl, rig_s hW hb, sRl_up]
    repeat (first | refine ev_gos 99 rfl ?_ | refine ev_gf2 rfl rfl rfl rfl ?_ | refine ev_gf2 rfl rfl HH_land rfl ?_ | refine ev_gf2 rfl rfl HH_draft rfl ?_ | refine ev_gf2 rfl rfl (by with_reducible assumption) rfl ?_)
    have h3 := ih (y + 1) (by omega)
    rw [← nI_1] at h3
    exact h3
theorem e_measure (hW : 1 ≤ W) (hW7 : W ≤ 7) (hH : H ≤ 7) (h5 : r.2.1 5 = 0) (h6 : r.2.1 6 = 0) : Ev sc d m_L_measure 0 (iniL 4 [.ref (wL (!w)), .int (nI W), .int (nI H)]) [] (DR w s l A B r) none (DR w s l A B (msR r W H)) := by
  have h49 := WH49 hW7 hH
  refine ev_gos 99 rfl ?_
  refine pD_19 rfl ?_
  refine ev_gos 99 rfl ?_
  refine pD_20 rfl ?_
  refine ev_gos 99 rfl ?_
  refine pDl_4 rfl ?_
  refine (?_ : Ek sc d m_L_measure 21 _ _ (DR w s l A B (sRl (sR (sR r 19 (nI W)) 20 (nI H)) 4 ((1 : Int64) <<< ((nI W * nI H).toInt64 &&& 63) - 1))) _ _ _ _)
  rw [pk_mul, show (1 : Int64) <<< ((nI (W * H)).toInt64 &&& 63) - 1 = bit (W * H) - 1 from rfl, all_eq h49]
  repeat (first | refine ev_gos 99 rfl ?_ | refine ev_gf2 rfl rfl rfl rfl ?_ | refine ev_gf2 rfl rfl HH_land rfl ?_ | refine ev_gf2 rfl rfl HH_draft rfl ?_ | refine ev_gf2 rfl rfl (by with_reducible assumption) rfl ?_)
  have h3 := e_measure_loop (sc := sc) (d := d) (w := w) (s := s) (l := l) (A := A) (B := B) (r := sRl (sR (sR r 19 (nI W)) 20 (nI H)) 4 (allS (W * H))) hW hW7 hH H 0 (Nat.zero_add H)
  rw [Nat.mul_zero, lef_0, rig_0, sRl_id (p := 5) (by exact h5), sRl_id (p := 6) (by exact h6)] at h3
  exact h3
theorem e_draw_in (hW7 : W ≤ 7) (hH : H ≤ 7) (h19 : r.1 19 = nI W) (h20 : r.1 20 = nI H) (h4 : r.2.1 4 = allS (W * H)) (h5 : r.2.1 5 = lefS W (W * H)) (h6 : r.2.1 6 = rigS W (W * H)) {k : Nat} (hk : k < 5) (b : Nat → Int64) {h' : AHp} (hout : Ev sc (d + 2) m_L_drawShapes 4 [some (.ref (wL (!w))), some (.int (nI (k + 1))), none] [.int 5, .int (nI (k + 1))] (DR w s l A B (sRb r (dsK W (W * H) (r.2.1 7) k b))) none h') : ∀ (n c : Nat), c + n = W * H → Ev sc (d + 2) m_L_drawShapes 11 [some (.ref (wL (!w))), some (.int (nI k)), some (.int (nI c))] [.ref (wL (!w)), .int (nI c)] (DR w s l A B (sRb r (fo (dsC W (W * H) (r.2.1 7) k) c b))) none h' := by
  have h49 := WH49 hW7 hH
  have hcells : r.1 19 * r.1 20 = nI (W * H) := by rw [h19, h20, pk_mul]
  intro n
  induction n with
  | zero =>
    intro c hc
    have e : c = W * H := by omega
    subst e
    refine ev_cv rfl rfl HH_draft (e_cells HH_draft) ?_
    refine ev_ift rfl rfl rfl (c_ge (by show r.1 19 * r.1 20 ≤ nI (W * H); rw [hcells]; exact (nI_leI (by omega) (by omega)).mpr (by omega))) ?_
    repeat (first | refine ev_gos 99 rfl ?_ | refine ev_gf2 rfl rfl rfl rfl ?_ | refine ev_gf2 rfl rfl HH_land rfl ?_ | refine ev_gf2 rfl rfl HH_draft rfl ?_ | refine ev_gf2 rfl rfl (by with_reducible assumption) rfl ?_)
    have h3 := hout
    rw [← nI_1] at h3
    exact ev_wk2 h3 rfl (by repeat' (first | exact trivial | refine ⟨rfl, ?_⟩))
  | succ n ih =>
    intro c hc
    refine ev_cv rfl rfl HH_draft (e_cells HH_draft) ?_
    refine ev_iff rfl rfl rfl (d_ge (by show ¬ r.1 19 * r.1 20 ≤ nI c; rw [hcells]; exact nI_lt3 (by omega) (by omega) (by omega))) ?_
    repeat (first | refine ev_gos 99 rfl ?_ | refine ev_gf2 rfl rfl rfl rfl ?_ | refine ev_gf2 rfl rfl HH_land rfl ?_ | refine ev_gf2 rfl rfl HH_draft rfl ?_ | refine ev_gf2 rfl rfl (by with_reducible assumption) rfl ?_)
    refine ev_iff rfl rfl rfl (d_ge (nI_lt3 (b := 49) (by omega) (by omega) (by omega))) ?_
    repeat (first | refine ev_gos 99 rfl ?_ | refine ev_gf2 rfl rfl rfl rfl ?_ | refine ev_gf2 rfl rfl HH_land rfl ?_ | refine ev_gf2 rfl rfl HH_draft rfl ?_ | refine ev_gf2 rfl rfl (by with_reducible assumption) rfl ?_)
    refine ev_cv rfl rfl HH_draft (e_drawnShape (sc := sc) (h := DR w s l A B (sRb r (fo (dsC W (W * H) (r.2.1 7) k) c b))) (W := W) (N := W * H) (p := wL (!w)) (pk := wK (!w)) (ps := wS (!w)) (xw := r.1 19) (xh := r.1 20) (xp := r.1 21) (tw := r.1 22) (al := r.2.1 4) (le := r.2.1 5) (re := r.2.1 6) (rk := r.2.1 7) HH_draft h19 h4 h5 h6 rfl hk) ?_
    have e1 : nI k * 49 + nI c = nI (k * 49 + c) := by rw [show (49 : Int32) = nI 49 from rfl, pk_mul, nI_add]
    refine sD_b (r := sRb r (fo (dsC W (W * H) (r.2.1 7) k) c b)) rfl (by show inB (nI k * 49 + nI c) 245 = true; rw [e1]; exact inI (by omega) (by decide)) ?_
    refine (?_ : Ek sc (d + 2) m_L_drawShapes 40 _ _ (DR w s l A B (sRb r (vp_updL (fo (dsC W (W * H) (r.2.1 7) k) c b) (nI k * 49 + nI c).toNatClampNeg (drwS W (W * H) (r.2.1 7) k c)))) _ _ _ _)
    rw [e1, nI_clamp (by omega)]
    repeat (first | refine ev_gos 99 rfl ?_ | refine ev_gf2 rfl rfl rfl rfl ?_ | refine ev_gf2 rfl rfl HH_land rfl ?_ | refine ev_gf2 rfl rfl HH_draft rfl ?_ | refine ev_gf2 rfl rfl (by with_reducible assumption) rfl ?_)
    have h3 := ih (c + 1) (by omega)
    rw [← nI_1] at h3
    exact h3
theorem e_draw_out (hW7 : W ≤ 7) (hH : H ≤ 7) (h19 : r.1 19 = nI W) (h20 : r.1 20 = nI H) (h4 : r.2.1 4 = allS (W * H)) (h5 : r.2.1 5 = lefS W (W * H)) (h6 : r.2.1 6 = rigS W (W * H)) (b : Nat → Int64) : ∀ (n k : Nat), k + n = 5 → Ev sc (d + 2) m_L_drawShapes 4 [some (.ref (wL (!w))), some (.int (nI k)), none] [.int 5, .int (nI k)] (DR w s l A B (sRb r (fo (dsK W (W * H) (r.2.1 7)) k b))) none (DR w s l A B (sRb r (fo (dsK W (W * H) (r.2.1 7)) 5 b))) := by
  intro n
  induction n with
  | zero =>
    intro k hk
    have e : k = 5 := by omega
    subst e
    refine ev_ift rfl rfl rfl (c_ge (by decide : (5 : Int32) ≤ nI 5)) ?_
    exact ev_rv rfl rfl
  | succ n ih =>
    intro k hk
    refine ev_iff rfl rfl rfl (d_ge (nI_lt3 (b := 5) (by omega) (by omega) (by omega))) ?_
    repeat (first | refine ev_gos 99 rfl ?_ | refine ev_gf2 rfl rfl rfl rfl ?_ | refine ev_gf2 rfl rfl HH_land rfl ?_ | refine ev_gf2 rfl rfl HH_draft rfl ?_ | refine ev_gf2 rfl rfl (by with_reducible assumption) rfl ?_)
    exact e_draw_in hW7 hH h19 h20 h4 h5 h6 (k := k) (by omega) (fo (dsK W (W * H) (r.2.1 7)) k b) (ih (k + 1) (by omega)) (W * H) 0 (Nat.zero_add _)
theorem e_drawShapes (hW7 : W ≤ 7) (hH : H ≤ 7) (h19 : r.1 19 = nI W) (h20 : r.1 20 = nI H) (h4 : r.2.1 4 = allS (W * H)) (h5 : r.2.1 5 = lefS W (W * H)) (h6 : r.2.1 6 = rigS W (W * H)) : Ev sc (d + 2) m_L_drawShapes 0 (iniL 3 [.ref (wL (!w))]) [] (DR w s l A B r) none (DR w s l A B (sRb r (fo (dsK W (W * H) (r.2.1 7)) 5 r.2.2.2))) := by
  repeat (first | refine ev_gos 99 rfl ?_ | refine ev_gf2 rfl rfl rfl rfl ?_ | refine ev_gf2 rfl rfl HH_land rfl ?_ | refine ev_gf2 rfl rfl HH_draft rfl ?_ | refine ev_gf2 rfl rfl (by with_reducible assumption) rfl ?_)
  exact e_draw_out (r := r) hW7 hH h19 h20 h4 h5 h6 r.2.2.2 5 0 rfl
end DFT
