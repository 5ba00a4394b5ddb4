/-! both sides: where one can lie -/
theorem cntd_le (n : Nat) : cntd n ≤ n := by
  unfold cntd
  split
  · exact Nat.le_refl n
  · split <;> omega
theorem gfd_le {W N : Nat} : ∀ (n : Nat) (X : Int64) (a : Nat), gfd W N (fun a g => a + cntd (pop g)) n X a ≤ a + 64 * n
  | 0, _, a => Nat.le_refl a
  | n + 1, X, a => by
    by_cases h0 : X = 0
    · subst h0
      rw [gfd_0]
      omega
    · rw [gfd_s h0]
      have h1 := gfd_le (W := W) (N := N) n (X &&& (fgS W N X ^^^ (-1))) (a + cntd (pop (fgS W N X)))
      have h2 := cntd_le (pop (fgS W N X))
      have h3 := pop_le (fgS W N X)
      omega
theorem cnt_le (W N : Nat) (X : Int64) : cntS W N X ≤ 4000 := by
  have := gfd_le (W := W) (N := N) 49 X 0
  unfold cntS
  omega
def clF (may : Nat → Bool) (cnt : Nat → Nat) (c : Nat) (a : Nat × Int32 × (Int32 × Int32) × (Int32 × Int32)) : Nat × Int32 × (Int32 × Int32) × (Int32 × Int32) := bif may c then (a.1 + 1, (if a.2.1 = -1 then nI c else a.2.1), (if a.2.2.1.2 < nI (cnt c) then (nI c, nI (cnt c)) else a.2.2.1), (if nI (cnt c) < a.2.2.2.2 then (nI c, nI (cnt c)) else a.2.2.2)) else a
def cl0 : Nat × Int32 × (Int32 × Int32) × (Int32 × Int32) := (0, -1, (-1, -1), (-1, 100000000))
theorem clF_t {may : Nat → Bool} {cnt : Nat → Nat} {c : Nat} (h : may c = true) (a : Nat × Int32 × (Int32 × Int32) × (Int32 × Int32)) : clF may cnt c a = (a.1 + 1, (if a.2.1 = -1 then nI c else a.2.1), (if a.2.2.1.2 < nI (cnt c) then (nI c, nI (cnt c)) else a.2.2.1), (if nI (cnt c) < a.2.2.2.2 then (nI c, nI (cnt c)) else a.2.2.2)) := by
  unfold clF
  rw [h]
  rfl
theorem clF_f {may : Nat → Bool} {cnt : Nat → Nat} {c : Nat} (h : may c = false) (a : Nat × Int32 × (Int32 × Int32) × (Int32 × Int32)) : clF may cnt c a = a := by
  unfold clF
  rw [h]
  rfl
theorem cl_n (may : Nat → Bool) (cnt : Nat → Nat) : ∀ n, (fo (clF may cnt) n cl0).1 = fb_ct may n
  | 0 => rfl
  | n + 1 => by
    show (clF may cnt n (fo (clF may cnt) n cl0)).1 = _
    rw [fb_ct_succ]
    cases h : may n with
    | true =>
      rw [clF_t h]
      show (fo (clF may cnt) n cl0).1 + 1 = _
      rw [cl_n may cnt n]
      rfl
    | false =>
      rw [clF_f h, cl_n may cnt n]
      rfl
theorem cl_first (may : Nat → Bool) (cnt : Nat → Nat) : ∀ n, n ≤ 49 → ((∀ i, i < n → may i = false) ∧ (fo (clF may cnt) n cl0).2.1 = -1) ∨ ∃ j, j < n ∧ may j = true ∧ (∀ i, i < j → may i = false) ∧ (fo (clF may cnt) n cl0).2.1 = nI j
  | 0, _ => Or.inl ⟨fun i hi => absurd hi (Nat.not_lt_zero i), rfl⟩
  | n + 1, hn => by
    have e : fo (clF may cnt) (n + 1) cl0 = clF may cnt n (fo (clF may cnt) n cl0) := rfl
    rw [e]
    rcases cl_first may cnt n (by omega) with ⟨h1, h2⟩ | ⟨j, j1, j2, j3, j4⟩
    · cases h : may n with
      | true =>
        rw [clF_t h]
        refine Or.inr ⟨n, by omega, h, h1, ?_⟩
        show (if (fo (clF may cnt) n cl0).2.1 = -1 then nI n else _) = _
        rw [if_pos h2]
      | false =>
        rw [clF_f h]
        refine Or.inl ⟨fun i hi => ?_, h2⟩
        by_cases q : i = n
        · rw [q]; exact h
        · exact h1 i (by omega)
    · refine Or.inr ⟨j, by omega, j2, j3, ?_⟩
      cases h : may n with
      | true =>
        rw [clF_t h]
        show (if (fo (clF may cnt) n cl0).2.1 = -1 then nI n else (fo (clF may cnt) n cl0).2.1) = _
        rw [if_neg (by rw [j4]; exact enc_ne (by omega)), j4]
      | false =>
        rw [clF_f h]
        exact j4
theorem neg_lt : ∀ {a b : Nat}, a ≤ 4000 → b ≤ 4000 → ((-1 : Int32) * nI a < -1 * nI b ↔ nI b < nI a) := by
  intro a b ha hb
  have m : ∀ x, x ≤ 4000 → ((-1 : Int32) * nI x).toInt = -(x : Int) := fun x hx => by
    rw [fb_mulI (by rw [nI_toInt (by omega), show (-1 : Int32).toInt = -1 from rfl]; omega) (by rw [nI_toInt (by omega), show (-1 : Int32).toInt = -1 from rfl]; omega), nI_toInt (by omega), show (-1 : Int32).toInt = -1 from rfl]
    omega
  rw [Int32.lt_iff_toInt_lt, Int32.lt_iff_toInt_lt, m a ha, m b hb, nI_toInt (by omega), nI_toInt (by omega)]
  omega
theorem brF_f {W N k c : Nat} {room seen : Int64} {sh : Nat → Int64} {sg : Int32} (h : bs room c = false) (a : Int32 × Int32) : brF W N room seen sh k sg c a = a := by
  unfold brF
  rw [h]
  rfl
theorem brF_t {W N k c m : Nat} {room seen : Int64} {sh : Nat → Int64} {sg : Int32} (h : bs room c = true) (hc : cntS W N (seen ||| sh (k * 49 + c)) = m) (a : Int32 × Int32) : brF W N room seen sh k sg c a = if a.1 = -1 ∨ a.2 < sg * nI m then (nI c, sg * nI m) else a := by
  unfold brF
  rw [h, hc]
  rfl
section BRE
variable {W N k : Nat} {room seen : Int64} {sh : Nat → Int64} {may : Nat → Bool} {cnt : Nat → Nat}
theorem br_up (h49 : N ≤ 49) (hm : ∀ c, c < N → bs room c = may c) (hc : ∀ c, c < N → may c = true → cntS W N (seen ||| sh (k * 49 + c)) = cnt c) (hb : ∀ c, cnt c ≤ 4000) : ∀ n, n ≤ N → (fo (brF W N room seen sh k 1) n (-1, 0) = (-1, 0) ∧ (fo (clF may cnt) n cl0).2.2.1 = (-1, -1)) ∨ ∃ q v, q < 49 ∧ v ≤ 4000 ∧ fo (brF W N room seen sh k 1) n (-1, 0) = (nI q, nI v) ∧ (fo (clF may cnt) n cl0).2.2.1 = (nI q, nI v)
  | 0, _ => Or.inl ⟨rfl, rfl⟩
  | n + 1, hn => by
    have e1 : fo (brF W N room seen sh k 1) (n + 1) (-1, 0) = brF W N room seen sh k 1 n (fo (brF W N room seen sh k 1) n (-1, 0)) := rfl
    have e2 : fo (clF may cnt) (n + 1) cl0 = clF may cnt n (fo (clF may cnt) n cl0) := rfl
    have ih := br_up h49 hm hc hb n (by omega)
    rw [e1, e2]
    have hmn := hm n (by omega)
    cases h : may n with
    | false =>
      rw [clF_f h, brF_f (hmn.trans h)]
      exact ih
    | true =>
      rw [clF_t h, brF_t (hmn.trans h) (hc n (by omega) h), Int32.one_mul]
      have h40 := hb n
      rcases ih with ⟨i1, i2⟩ | ⟨q, v, q1, v1, i1, i2⟩
      · refine Or.inr ⟨n, cnt n, by omega, h40, ?_, ?_⟩
        · rw [i1]
          exact if_pos (Or.inl rfl)
        · show (if (fo (clF may cnt) n cl0).2.2.1.2 < nI (cnt n) then (nI n, nI (cnt n)) else _) = _
          rw [i2, if_pos]
          show (-1 : Int32) < nI (cnt n)
          rw [Int32.lt_iff_toInt_lt, nI_toInt (by omega)]
          show (-1 : Int) < _
          omega
      · rw [i1]
        by_cases hv : nI v < nI (cnt n)
        · refine Or.inr ⟨n, cnt n, by omega, h40, if_pos (Or.inr hv), ?_⟩
          show (if (fo (clF may cnt) n cl0).2.2.1.2 < nI (cnt n) then (nI n, nI (cnt n)) else _) = _
          rw [i2, if_pos hv]
        · refine Or.inr ⟨q, v, q1, v1, if_neg (fun z => z.elim (enc_ne (by omega)) hv), ?_⟩
          show (if (fo (clF may cnt) n cl0).2.2.1.2 < nI (cnt n) then (nI n, nI (cnt n)) else (fo (clF may cnt) n cl0).2.2.1) = _
          rw [i2, if_neg hv]
theorem br_dn (h49 : N ≤ 49) (hm : ∀ c, c < N → bs room c = may c) (hc : ∀ c, c < N → may c = true → cntS W N (seen ||| sh (k * 49 + c)) = cnt c) (hb : ∀ c, cnt c ≤ 4000) : ∀ n, n ≤ N → (fo (brF W N room seen sh k (-1)) n (-1, 0) = (-1, 0) ∧ (fo (clF may cnt) n cl0).2.2.2 = (-1, 100000000)) ∨ ∃ q v, q < 49 ∧ v ≤ 4000 ∧ fo (brF W N room seen sh k (-1)) n (-1, 0) = (nI q, -1 * nI v) ∧ (fo (clF may cnt) n cl0).2.2.2 = (nI q, nI v)
  | 0, _ => Or.inl ⟨rfl, rfl⟩
  | n + 1, hn => by
    have e1 : fo (brF W N room seen sh k (-1)) (n + 1) (-1, 0) = brF W N room seen sh k (-1) n (fo (brF W N room seen sh k (-1)) n (-1, 0)) := rfl
    have e2 : fo (clF may cnt) (n + 1) cl0 = clF may cnt n (fo (clF may cnt) n cl0) := rfl
    have ih := br_dn h49 hm hc hb n (by omega)
    rw [e1, e2]
    have hmn := hm n (by omega)
    cases h : may n with
    | false =>
      rw [clF_f h, brF_f (hmn.trans h)]
      exact ih
    | true =>
      rw [clF_t h, brF_t (hmn.trans h) (hc n (by omega) h)]
      have h40 := hb n
      rcases ih with ⟨i1, i2⟩ | ⟨q, v, q1, v1, i1, i2⟩
      · refine Or.inr ⟨n, cnt n, by omega, h40, ?_, ?_⟩
        · rw [i1]
          exact if_pos (Or.inl rfl)
        · show (if nI (cnt n) < (fo (clF may cnt) n cl0).2.2.2.2 then (nI n, nI (cnt n)) else _) = _
          rw [i2, if_pos]
          show nI (cnt n) < nI 100000000
          exact (nI_ltI (by omega) (by decide)).mpr (by omega)
      · rw [i1]
        by_cases hv : nI (cnt n) < nI v
        · refine Or.inr ⟨n, cnt n, by omega, h40, if_pos (Or.inr ((neg_lt v1 h40).mpr hv)), ?_⟩
          show (if nI (cnt n) < (fo (clF may cnt) n cl0).2.2.2.2 then (nI n, nI (cnt n)) else _) = _
          rw [i2, if_pos hv]
        · refine Or.inr ⟨q, v, q1, v1, if_neg (fun z => z.elim (enc_ne (by omega)) (fun y => hv ((neg_lt v1 h40).mp y))), ?_⟩
          show (if nI (cnt n) < (fo (clF may cnt) n cl0).2.2.2.2 then (nI n, nI (cnt n)) else (fo (clF may cnt) n cl0).2.2.2) = _
          rw [i2, if_neg hv]
end BRE
theorem press_dn {N : Nat} (h49 : N ≤ 49) {x : Int64} (hx : WI x N) {f f2 : Nat → Int32} (hf : ∀ i, i < N → f2 i = f i) : dnS (mapP (prF x) f2 N) 3 N = dnS f 3 N ||| x := by
  refine bs_ext (fun i hi => ?_)
  rw [bs_or]
  unfold dnS
  rw [bs_mk _ hi, bs_mk _ hi]
  by_cases q : i < N
  · rw [decide_eq_true q, mapP_in q]
    unfold prF
    cases hb : bs x i with
    | true =>
      rw [Bool.or_true]
      rfl
    | false =>
      rw [hf i q, Bool.or_false]
      rfl
  · rw [decide_eq_false q, Bool.false_and, Bool.false_and, Bool.false_or]
    cases hb : bs x i with
    | true => exact absurd (hx i hb) q
    | false => rfl
theorem e_leastOf0 (sc : Scr) (d : Nat) (h : AHp) : Ev sc (d + 1) m_C_leastOf 0 (iniL 2 [.long 0]) [] h (some (.int (-1))) h := by
  refine ev_gos 99 rfl ?_
  refine ev_iff rfl rfl rfl (j_ne (lc_eq.mpr rfl)) ?_
  refine ev_gos 99 rfl ?_
  exact ev_ri rfl rfl rfl
section CAN
variable {sc : Scr} {d : Nat} {w : Bool} {s : Nat → Int32} {l : Nat → Int64} {A : Nat → Nat → Int32} {B : Nat → Nat → Int64} {W H P fi c : Nat} {rk : Int64}
def clV (y : Int32) (a : Nat × Int32 × (Int32 × Int32) × (Int32 × Int32)) : Int32 := if y = 0 then nI a.1 else if y = 1 then a.2.1 else if y = 2 then a.2.2.1.1 else a.2.2.2.1
theorem e_mcan_loop (hM : MN (A 27) rk W H P) {p k : Nat} (hp : p < P) (hk : k < 5) (ek : A 27 (5 + p) = nI k) (y : Int32) {may : Nat → Bool} {cnt : Nat → Nat} (h1 : ∀ c, c < W * H → mayB W H rk (A 29) k c = may c) (h2 : ∀ c, c < W * H → cntS W (W * H) (dnS (A 29) 3 (W * H) ||| shpM W H k c) = cnt c) : ∀ (m i : Nat) (g : Nat → Int32), i + m = W * H → ∃ g', Ev sc (d + 6) m_M_canLie 50 [some (.ref 26), some (.int (nI p)), some (.int y), some (.int (nI (fo (clF may cnt) i cl0).1)), some (.int (fo (clF may cnt) i cl0).2.1), some (.int (fo (clF may cnt) i cl0).2.2.1.1), some (.int (fo (clF may cnt) i cl0).2.2.2.1), some (.int (fo (clF may cnt) i cl0).2.2.1.2), some (.int (fo (clF may cnt) i cl0).2.2.2.2), some (.int (nI i)), none] [.ref 26, .int (nI i)] (HH w s l (upA A 30 g) B) (some (.int (clV y (fo (clF may cnt) (W * H) cl0)))) (HH w s l (upA A 30 g') B) := by
  have h49 := hM.n49
  have hP7 : P ≤ 7 := hM.2.2.2.2.2.1
  intro m
  induction m with
  | zero =>
    intro i g hi
    have e : i = W * H := by omega
    refine ⟨g, ?_⟩
    refine ev_cv rfl rfl rfl (e_mcells (A := upA A 30 _) hM) ?_
    rw [← e]
    refine ev_ift rfl rfl rfl (c_ge ((nI_leI (by omega) (by omega)).mpr (by omega))) ?_
    generalize fo (clF may cnt) i cl0 = a
    repeat (first | refine ev_gos 99 rfl ?_ | refine ev_gf2 rfl rfl rfl rfl ?_ | refine ev_gf2 rfl rfl HH_land rfl ?_ | refine ev_gf2 rfl rfl HH_draft rfl ?_ | refine ev_gf2 rfl rfl (by with_reducible assumption) rfl ?_)
    unfold clV
    by_cases y0 : y = 0
    · rw [if_pos y0]
      refine ev_iff rfl rfl rfl (j_ne y0) ?_
      repeat (first | refine ev_gos 99 rfl ?_ | refine ev_gf2 rfl rfl rfl rfl ?_ | refine ev_gf2 rfl rfl HH_land rfl ?_ | refine ev_gf2 rfl rfl HH_draft rfl ?_ | refine ev_gf2 rfl rfl (by with_reducible assumption) rfl ?_)
      exact ev_ri rfl rfl rfl
    · rw [if_neg y0]
      refine ev_ift rfl rfl rfl (i_ne y0) ?_
      repeat (first | refine ev_gos 99 rfl ?_ | refine ev_gf2 rfl rfl rfl rfl ?_ | refine ev_gf2 rfl rfl HH_land rfl ?_ | refine ev_gf2 rfl rfl HH_draft rfl ?_ | refine ev_gf2 rfl rfl (by with_reducible assumption) rfl ?_)
      by_cases y1 : y = 1
      · rw [if_pos y1]
        refine ev_iff rfl rfl rfl (d_ne y1) ?_
        repeat (first | refine ev_gos 99 rfl ?_ | refine ev_gf2 rfl rfl rfl rfl ?_ | refine ev_gf2 rfl rfl HH_land rfl ?_ | refine ev_gf2 rfl rfl HH_draft rfl ?_ | refine ev_gf2 rfl rfl (by with_reducible assumption) rfl ?_)
        exact ev_ri rfl rfl rfl
      · rw [if_neg y1]
        refine ev_ift rfl rfl rfl (c_ne y1) ?_
        repeat (first | refine ev_gos 99 rfl ?_ | refine ev_gf2 rfl rfl rfl rfl ?_ | refine ev_gf2 rfl rfl HH_land rfl ?_ | refine ev_gf2 rfl rfl HH_draft rfl ?_ | refine ev_gf2 rfl rfl (by with_reducible assumption) rfl ?_)
        by_cases y2 : y = 2
        · rw [if_pos y2]
          refine ev_iff rfl rfl rfl (d_ne y2) ?_
          repeat (first | refine ev_gos 99 rfl ?_ | refine ev_gf2 rfl rfl rfl rfl ?_ | refine ev_gf2 rfl rfl HH_land rfl ?_ | refine ev_gf2 rfl rfl HH_draft rfl ?_ | refine ev_gf2 rfl rfl (by with_reducible assumption) rfl ?_)
          exact ev_ri rfl rfl rfl
        · rw [if_neg y2]
          refine ev_ift rfl rfl rfl (c_ne y2) ?_
          repeat (first | refine ev_gos 99 rfl ?_ | refine ev_gf2 rfl rfl rfl rfl ?_ | refine ev_gf2 rfl rfl HH_land rfl ?_ | refine ev_gf2 rfl rfl HH_draft rfl ?_ | refine ev_gf2 rfl rfl (by with_reducible assumption) rfl ?_)
          exact ev_ri rfl rfl rfl
  | succ m ih =>
    intro i g hi
    have hic : i < W * H := by omega
    obtain ⟨hW, hH⟩ := hM.pos (by omega)
    have e2 : fo (clF may cnt) (i + 1) cl0 = clF may cnt i (fo (clF may cnt) i cl0) := rfl
    cases hm : may i with
    | false =>
      obtain ⟨g', h3⟩ := ih (i + 1) g (by omega)
      rw [e2, clF_f hm, ← nI_1] at h3
      refine ⟨g', ?_⟩
      refine ev_cv rfl rfl rfl (e_mcells (A := upA A 30 _) hM) ?_
      refine ev_iff rfl rfl rfl (d_ge (nI_lt3 (by omega) (by omega) (by omega))) ?_
      repeat (first | refine ev_gos 99 rfl ?_ | refine ev_gf2 rfl rfl rfl rfl ?_ | refine ev_gf2 rfl rfl HH_land rfl ?_ | refine ev_gf2 rfl rfl HH_draft rfl ?_ | refine ev_gf2 rfl rfl (by with_reducible assumption) rfl ?_)
      refine ev_ix (5 + p) rfl rfl (nI_add 5 p) (by omega) (by decide) ?_
      refine (?_ : Ek sc _ m_M_canLie 69 _ (.int (A 27 (5 + p)) :: _) _ _ _ _ _)
      rw [ek]
      repeat (first | refine ev_gos 99 rfl ?_ | refine ev_gf2 rfl rfl rfl rfl ?_ | refine ev_gf2 rfl rfl HH_land rfl ?_ | refine ev_gf2 rfl rfl HH_draft rfl ?_ | refine ev_gf2 rfl rfl (by with_reducible assumption) rfl ?_)
      refine ev_cv rfl rfl rfl (e_mmayLie (A := upA A 30 g) hM hk hic) ?_
      refine (?_ : Ek sc _ m_M_canLie 74 _ [.int (b01 (mayB W H rk (A 29) k i))] _ _ _ _ _)
      rw [h1 i hic, hm]
      (first | refine ev_ift rfl rfl rfl rfl ?_ | refine ev_iff rfl rfl rfl rfl ?_)
      repeat (first | refine ev_gos 99 rfl ?_ | refine ev_gf2 rfl rfl rfl rfl ?_ | refine ev_gf2 rfl rfl HH_land rfl ?_ | refine ev_gf2 rfl rfl HH_draft rfl ?_ | refine ev_gf2 rfl rfl (by with_reducible assumption) rfl ?_)
      exact ev_wk2 h3 rfl (by repeat' (first | exact trivial | refine ⟨rfl, ?_⟩))
    | true =>
      obtain ⟨g', h3⟩ := ih (i + 1) (mapP (prF (shpM W H k i)) (upd (va_cpy (A 29) g 0 0 58) (49 + p) (nI i)) (W * H)) (by omega)
      rw [e2, clF_t hm, ← nI_1 i] at h3
      refine ⟨g', ?_⟩
      have hcn : cntS W (W * H) (dnS (mapP (prF (shpM W H k i)) (upd (va_cpy (A 29) g 0 0 58) (49 + p) (nI i)) (W * H)) 3 (W * H)) = cnt i := by
        rw [press_dn h49 (shp_WI hW hM.2.2.2.1 hH hM.2.2.2.2.1 hic) (f := A 29) (fun j hj => by rw [pk_un (by omega), pk_cpy_in (by omega) (by omega), Nat.sub_zero, Nat.zero_add])]
        exact h2 i hic
      refine ev_cv rfl rfl rfl (e_mcells (A := upA A 30 _) hM) ?_
      refine ev_iff rfl rfl rfl (d_ge (nI_lt3 (by omega) (by omega) (by omega))) ?_
      repeat (first | refine ev_gos 99 rfl ?_ | refine ev_gf2 rfl rfl rfl rfl ?_ | refine ev_gf2 rfl rfl HH_land rfl ?_ | refine ev_gf2 rfl rfl HH_draft rfl ?_ | refine ev_gf2 rfl rfl (by with_reducible assumption) rfl ?_)
      refine ev_ix (5 + p) rfl rfl (nI_add 5 p) (by omega) (by decide) ?_
      refine (?_ : Ek sc _ m_M_canLie 69 _ (.int (A 27 (5 + p)) :: _) _ _ _ _ _)
      rw [ek]
      repeat (first | refine ev_gos 99 rfl ?_ | refine ev_gf2 rfl rfl rfl rfl ?_ | refine ev_gf2 rfl rfl HH_land rfl ?_ | refine ev_gf2 rfl rfl HH_draft rfl ?_ | refine ev_gf2 rfl rfl (by with_reducible assumption) rfl ?_)
      refine ev_cv rfl rfl rfl (e_mmayLie (A := upA A 30 g) hM hk hic) ?_
      refine (?_ : Ek sc _ m_M_canLie 74 _ [.int (b01 (mayB W H rk (A 29) k i))] _ _ _ _ _)
      rw [h1 i hic, hm]
      (first | refine ev_ift rfl rfl rfl rfl ?_ | refine ev_iff rfl rfl rfl rfl ?_)
      generalize fo (clF may cnt) i cl0 = a at h3 ⊢
      obtain ⟨a1, a2, ⟨a3, a4⟩, ⟨a5, a6⟩⟩ := a
      dsimp only at h3 ⊢
      rw [← nI_1 a1] at h3
      have key : ∀ x2 : Int32, (if a2 = -1 then nI i else a2) = x2 → Ev sc (d + 6) m_M_canLie 95 [some (.ref 26), some (.int (nI p)), some (.int y), some (.int (nI a1 + 1)), some (.int x2), some (.int a3), some (.int a5), some (.int a4), some (.int a6), some (.int (nI i)), none] [] (HH w s l (upA A 30 g) B) (some (.int (clV y (fo (clF may cnt) (W * H) cl0)))) (HH w s l (upA A 30 g') B) := by
        intro x2 hx2
        rw [hx2] at h3
        repeat (first | refine ev_gos 99 rfl ?_ | refine ev_gf2 rfl rfl rfl rfl ?_ | refine ev_gf2 rfl rfl HH_land rfl ?_ | refine ev_gf2 rfl rfl HH_draft rfl ?_ | refine ev_gf2 rfl rfl (by with_reducible assumption) rfl ?_)
        refine ev_cv rfl rfl rfl e_mlayAside ?_
        refine (?_ : Ek sc _ m_M_canLie 99 _ _ (HH w s l (upA (upA A 30 g) 30 (va_cpy (A 29) g 0 0 58)) B) _ _ _ _)
        rw [upA_up]
        repeat (first | refine ev_gos 99 rfl ?_ | refine ev_gf2 rfl rfl rfl rfl ?_ | refine ev_gf2 rfl rfl HH_land rfl ?_ | refine ev_gf2 rfl rfl HH_draft rfl ?_ | refine ev_gf2 rfl rfl (by with_reducible assumption) rfl ?_)
        refine ev_cv rfl rfl rfl (e_mliesS (A := upA A 30 (va_cpy (A 29) g 0 0 58)) hM hp hic hk ek) ?_
        rw [upA_up, upA_at]
        repeat (first | refine ev_gos 99 rfl ?_ | refine ev_gf2 rfl rfl rfl rfl ?_ | refine ev_gf2 rfl rfl HH_land rfl ?_ | refine ev_gf2 rfl rfl HH_draft rfl ?_ | refine ev_gf2 rfl rfl (by with_reducible assumption) rfl ?_)
        refine ev_cv rfl rfl rfl (e_mcountS (A := upA A 30 _) hM) ?_
        refine (?_ : Ek sc _ m_M_canLie 118 _ [.int (nI (cntS W (W * H) (dnS (mapP (prF (shpM W H k i)) (upd (va_cpy (A 29) g 0 0 58) (49 + p) (nI i)) (W * H)) 3 (W * H))))] _ _ _ _ _)
        rw [hcn]
        repeat (first | refine ev_gos 99 rfl ?_ | refine ev_gf2 rfl rfl rfl rfl ?_ | refine ev_gf2 rfl rfl HH_land rfl ?_ | refine ev_gf2 rfl rfl HH_draft rfl ?_ | refine ev_gf2 rfl rfl (by with_reducible assumption) rfl ?_)
        have key2 : ∀ x3 x4 : Int32, (if a4 < nI (cnt i) then (nI i, nI (cnt i)) else (a3, a4)) = (x3, x4) → Ev sc (d + 6) m_M_canLie 145 [some (.ref 26), some (.int (nI p)), some (.int y), some (.int (nI a1 + 1)), some (.int x2), some (.int x3), some (.int a5), some (.int x4), some (.int a6), some (.int (nI i)), some (.int (nI (cnt i)))] [] (HH w s l (upA A 30 (mapP (prF (shpM W H k i)) (upd (va_cpy (A 29) g 0 0 58) (49 + p) (nI i)) (W * H))) B) (some (.int (clV y (fo (clF may cnt) (W * H) cl0)))) (HH w s l (upA A 30 g') B) := by
          intro x3 x4 hx34
          rw [hx34] at h3
          repeat (first | refine ev_gos 99 rfl ?_ | refine ev_gf2 rfl rfl rfl rfl ?_ | refine ev_gf2 rfl rfl HH_land rfl ?_ | refine ev_gf2 rfl rfl HH_draft rfl ?_ | refine ev_gf2 rfl rfl (by with_reducible assumption) rfl ?_)
          by_cases q : nI (cnt i) < a6
          · rw [if_pos q] at h3
            refine ev_iff rfl rfl rfl (d_ge (fun z => le_nlt z q)) ?_
            repeat (first | refine ev_gos 99 rfl ?_ | refine ev_gf2 rfl rfl rfl rfl ?_ | refine ev_gf2 rfl rfl HH_land rfl ?_ | refine ev_gf2 rfl rfl HH_draft rfl ?_ | refine ev_gf2 rfl rfl (by with_reducible assumption) rfl ?_)
            refine ev_cs rfl rfl rfl (e_lesser sc _ _ _ _) ?_
            rw [if_neg (fun z => by rw [Int32.lt_iff_toInt_lt] at q z; omega)]
            repeat (first | refine ev_gos 99 rfl ?_ | refine ev_gf2 rfl rfl rfl rfl ?_ | refine ev_gf2 rfl rfl HH_land rfl ?_ | refine ev_gf2 rfl rfl HH_draft rfl ?_ | refine ev_gf2 rfl rfl (by with_reducible assumption) rfl ?_)
            exact ev_wk2 h3 rfl (by repeat' (first | exact trivial | refine ⟨rfl, ?_⟩))
          · rw [if_neg q] at h3
            refine ev_ift rfl rfl rfl (c_ge (nlt_le3 q)) ?_
            repeat (first | refine ev_gos 99 rfl ?_ | refine ev_gf2 rfl rfl rfl rfl ?_ | refine ev_gf2 rfl rfl HH_land rfl ?_ | refine ev_gf2 rfl rfl HH_draft rfl ?_ | refine ev_gf2 rfl rfl (by with_reducible assumption) rfl ?_)
            refine ev_cs rfl rfl rfl (e_lesser sc _ _ _ _) ?_
            have e9 : (if a6 < nI (cnt i) then a6 else nI (cnt i)) = a6 := by
              by_cases z : a6 < nI (cnt i)
              · exact if_pos z
              · rw [if_neg z, fa_eq]
                rw [Int32.lt_iff_toInt_lt] at q z
                omega
            rw [e9]
            repeat (first | refine ev_gos 99 rfl ?_ | refine ev_gf2 rfl rfl rfl rfl ?_ | refine ev_gf2 rfl rfl HH_land rfl ?_ | refine ev_gf2 rfl rfl HH_draft rfl ?_ | refine ev_gf2 rfl rfl (by with_reducible assumption) rfl ?_)
            exact ev_wk2 h3 rfl (by repeat' (first | exact trivial | refine ⟨rfl, ?_⟩))
        by_cases q : a4 < nI (cnt i)
        · refine ev_iff rfl rfl rfl (d_le (fun z => le_nlt z q)) ?_
          repeat (first | refine ev_gos 99 rfl ?_ | refine ev_gf2 rfl rfl rfl rfl ?_ | refine ev_gf2 rfl rfl HH_land rfl ?_ | refine ev_gf2 rfl rfl HH_draft rfl ?_ | refine ev_gf2 rfl rfl (by with_reducible assumption) rfl ?_)
          refine ev_cs rfl rfl rfl (e_greater sc _ _ _ _) ?_
          rw [if_neg (fun z => by rw [Int32.lt_iff_toInt_lt] at q z; omega)]
          refine ev_gos 1 rfl ?_
          exact key2 _ _ (if_pos q)
        · refine ev_ift rfl rfl rfl (c_le (nlt_le3 q)) ?_
          repeat (first | refine ev_gos 99 rfl ?_ | refine ev_gf2 rfl rfl rfl rfl ?_ | refine ev_gf2 rfl rfl HH_land rfl ?_ | refine ev_gf2 rfl rfl HH_draft rfl ?_ | refine ev_gf2 rfl rfl (by with_reducible assumption) rfl ?_)
          refine ev_cs rfl rfl rfl (e_greater sc _ _ _ _) ?_
          have e9 : (if nI (cnt i) < a4 then a4 else nI (cnt i)) = a4 := by
            by_cases z : nI (cnt i) < a4
            · exact if_pos z
            · rw [if_neg z, fa_eq]
              rw [Int32.lt_iff_toInt_lt] at q z
              omega
          rw [e9]
          refine ev_gos 1 rfl ?_
          exact key2 _ _ (if_neg q)
      refine ev_gos 3 rfl ?_
      by_cases q : a2 = -1
      · refine ev_iff rfl rfl rfl (d_ne q) ?_
        refine ev_gos 3 rfl ?_
        exact key _ (if_pos q)
      · refine ev_ift rfl rfl rfl (c_ne q) ?_
        refine ev_gos 2 rfl ?_
        exact key _ (if_neg q)
end CAN
