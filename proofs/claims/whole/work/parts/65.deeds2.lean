/-! both sides: lying down, pins, deeds undone, images -/
section DE5
variable {sc : Scr} {d : Nat} {w : Bool} {s : Nat → Int32} {l : Nat → Int64} {A : Nat → Nat → Int32} {B : Nat → Nat → Int64} {W H P fi c : Nat}
theorem may_t {rk : Int64} {f : Nat → Int32} {k q : Nat} (h : mayB W H rk f k q = true) : ¬ shpM W H k q = 0 ∧ shpM W H k q &&& rk = 0 ∧ shpM W H k q &&& dnS f 1 (W * H) = 0 := by
  unfold mayB at h
  obtain ⟨h1, h2⟩ := andE h
  have h3 := and_or0.mp (of_decide_eq_true h2)
  exact ⟨of_decide_eq_true h1, h3.1, h3.2⟩
theorem b_lie (h : INV s l A B W H P fi c) (x y : Int32) : Both sc (d + 12) m_C_lie 3 m_M_lie 3 [.int x, .int y] w s l A B := by
  obtain ⟨hN, hM, hR, hK, hS, ⟨d1, d2, d3, d4, d5, d6⟩, hX, hI, hT, hF, hO, hB⟩ := id h
  have h49 := hN.n49
  have hP7 := h.p7
  cases hb : inR x P with
  | false =>
    refine ⟨-1000000001, HH w s l A B, w, s, l, A, B, ?_, ?_, ⟨W, H, P, fi, c, h⟩⟩
    · repeat (first | refine ev_gos 99 rfl ?_ | refine ev_gf2 rfl rfl rfl rfl ?_ | refine ev_gf2 rfl rfl HH_land rfl ?_ | refine ev_gf2 rfl rfl HH_draft rfl ?_ | refine ev_gf2 rfl rfl (by with_reducible assumption) rfl ?_)
      refine ev_cv rfl rfl rfl (e_isPerson hN.2.2.1 x) ?_
      rw [hb]
      (first | refine ev_ift rfl rfl rfl rfl ?_ | refine ev_iff rfl rfl rfl rfl ?_)
      repeat (first | refine ev_gos 99 rfl ?_ | refine ev_gf2 rfl rfl rfl rfl ?_ | refine ev_gf2 rfl rfl HH_land rfl ?_ | refine ev_gf2 rfl rfl HH_draft rfl ?_ | refine ev_gf2 rfl rfl (by with_reducible assumption) rfl ?_)
      exact ev_ri rfl rfl rfl
    · repeat (first | refine ev_gos 99 rfl ?_ | refine ev_gf2 rfl rfl rfl rfl ?_ | refine ev_gf2 rfl rfl HH_land rfl ?_ | refine ev_gf2 rfl rfl HH_draft rfl ?_ | refine ev_gf2 rfl rfl (by with_reducible assumption) rfl ?_)
      refine ev_cv rfl rfl rfl (e_misPerson hM x) ?_
      rw [hb]
      (first | refine ev_ift rfl rfl rfl rfl ?_ | refine ev_iff rfl rfl rfl rfl ?_)
      repeat (first | refine ev_gos 99 rfl ?_ | refine ev_gf2 rfl rfl rfl rfl ?_ | refine ev_gf2 rfl rfl HH_land rfl ?_ | refine ev_gf2 rfl rfl HH_draft rfl ?_ | refine ev_gf2 rfl rfl (by with_reducible assumption) rfl ?_)
      exact ev_ri rfl rfl rfl
  | true =>
    obtain ⟨p, p1, p2⟩ := inR_of (by omega) hb
    subst p2
    cases hb2 : inR y (W * H) with
    | false =>
      refine ⟨-1000000001, HH w s l A B, w, s, l, A, B, ?_, ?_, ⟨W, H, P, fi, c, h⟩⟩
      · repeat (first | refine ev_gos 99 rfl ?_ | refine ev_gf2 rfl rfl rfl rfl ?_ | refine ev_gf2 rfl rfl HH_land rfl ?_ | refine ev_gf2 rfl rfl HH_draft rfl ?_ | refine ev_gf2 rfl rfl (by with_reducible assumption) rfl ?_)
        refine ev_cv rfl rfl rfl (e_isPerson hN.2.2.1 _) ?_
        rw [hb]
        (first | refine ev_ift rfl rfl rfl rfl ?_ | refine ev_iff rfl rfl rfl rfl ?_)
        repeat (first | refine ev_gos 99 rfl ?_ | refine ev_gf2 rfl rfl rfl rfl ?_ | refine ev_gf2 rfl rfl HH_land rfl ?_ | refine ev_gf2 rfl rfl HH_draft rfl ?_ | refine ev_gf2 rfl rfl (by with_reducible assumption) rfl ?_)
        refine ev_cv rfl rfl rfl (e_isCell hN.cells y) ?_
        rw [hb2]
        (first | refine ev_ift rfl rfl rfl rfl ?_ | refine ev_iff rfl rfl rfl rfl ?_)
        repeat (first | refine ev_gos 99 rfl ?_ | refine ev_gf2 rfl rfl rfl rfl ?_ | refine ev_gf2 rfl rfl HH_land rfl ?_ | refine ev_gf2 rfl rfl HH_draft rfl ?_ | refine ev_gf2 rfl rfl (by with_reducible assumption) rfl ?_)
        exact ev_ri rfl rfl rfl
      · repeat (first | refine ev_gos 99 rfl ?_ | refine ev_gf2 rfl rfl rfl rfl ?_ | refine ev_gf2 rfl rfl HH_land rfl ?_ | refine ev_gf2 rfl rfl HH_draft rfl ?_ | refine ev_gf2 rfl rfl (by with_reducible assumption) rfl ?_)
        refine ev_cv rfl rfl rfl (e_misPerson hM _) ?_
        rw [hb]
        (first | refine ev_ift rfl rfl rfl rfl ?_ | refine ev_iff rfl rfl rfl rfl ?_)
        repeat (first | refine ev_gos 99 rfl ?_ | refine ev_gf2 rfl rfl rfl rfl ?_ | refine ev_gf2 rfl rfl HH_land rfl ?_ | refine ev_gf2 rfl rfl HH_draft rfl ?_ | refine ev_gf2 rfl rfl (by with_reducible assumption) rfl ?_)
        refine ev_cv rfl rfl rfl (e_misCell hM y) ?_
        rw [hb2]
        (first | refine ev_ift rfl rfl rfl rfl ?_ | refine ev_iff rfl rfl rfl rfl ?_)
        repeat (first | refine ev_gos 99 rfl ?_ | refine ev_gf2 rfl rfl rfl rfl ?_ | refine ev_gf2 rfl rfl HH_land rfl ?_ | refine ev_gf2 rfl rfl HH_draft rfl ?_ | refine ev_gf2 rfl rfl (by with_reducible assumption) rfl ?_)
        exact ev_ri rfl rfl rfl
    | true =>
      obtain ⟨q, q1, q2⟩ := inR_of (by omega) hb2
      subst q2
      obtain ⟨hW, hH⟩ := hN.pos (by omega)
      obtain ⟨k, k1, k2, k3⟩ := h.kd p1
      have hroom := room_eq hN (hS.dnE h49 (by decide)) k1 q1
      cases hm : mayB W H (l 3) (A 29) k q with
      | false =>
        refine ⟨-1000000003, HH w s l A B, w, s, l, A, B, ?_, ?_, ⟨W, H, P, fi, c, h⟩⟩
        · repeat (first | refine ev_gos 99 rfl ?_ | refine ev_gf2 rfl rfl rfl rfl ?_ | refine ev_gf2 rfl rfl HH_land rfl ?_ | refine ev_gf2 rfl rfl HH_draft rfl ?_ | refine ev_gf2 rfl rfl (by with_reducible assumption) rfl ?_)
          refine ev_cv rfl rfl rfl (e_isPerson hN.2.2.1 _) ?_
          rw [hb]
          (first | refine ev_ift rfl rfl rfl rfl ?_ | refine ev_iff rfl rfl rfl rfl ?_)
          repeat (first | refine ev_gos 99 rfl ?_ | refine ev_gf2 rfl rfl rfl rfl ?_ | refine ev_gf2 rfl rfl HH_land rfl ?_ | refine ev_gf2 rfl rfl HH_draft rfl ?_ | refine ev_gf2 rfl rfl (by with_reducible assumption) rfl ?_)
          refine ev_cv rfl rfl rfl (e_isCell hN.cells _) ?_
          rw [hb2]
          (first | refine ev_ift rfl rfl rfl rfl ?_ | refine ev_iff rfl rfl rfl rfl ?_)
          repeat (first | refine ev_gos 99 rfl ?_ | refine ev_gf2 rfl rfl rfl rfl ?_ | refine ev_gf2 rfl rfl HH_land rfl ?_ | refine ev_gf2 rfl rfl HH_draft rfl ?_ | refine ev_gf2 rfl rfl (by with_reducible assumption) rfl ?_)
          refine ev_cv rfl rfl rfl (e_roomFor hN (p := p) (by omega) k1 k2) ?_
          repeat (first | refine ev_gos 99 rfl ?_ | refine ev_gf2 rfl rfl rfl rfl ?_ | refine ev_gf2 rfl rfl HH_land rfl ?_ | refine ev_gf2 rfl rfl HH_draft rfl ?_ | refine ev_gf2 rfl rfl (by with_reducible assumption) rfl ?_)
          refine ev_cs rfl rfl rfl (e_has sc _ _ _ (k := q) (by omega)) ?_
          rw [hroom, hm]
          (first | refine ev_ift rfl rfl rfl rfl ?_ | refine ev_iff rfl rfl rfl rfl ?_)
          repeat (first | refine ev_gos 99 rfl ?_ | refine ev_gf2 rfl rfl rfl rfl ?_ | refine ev_gf2 rfl rfl HH_land rfl ?_ | refine ev_gf2 rfl rfl HH_draft rfl ?_ | refine ev_gf2 rfl rfl (by with_reducible assumption) rfl ?_)
          exact ev_ri rfl rfl rfl
        · repeat (first | refine ev_gos 99 rfl ?_ | refine ev_gf2 rfl rfl rfl rfl ?_ | refine ev_gf2 rfl rfl HH_land rfl ?_ | refine ev_gf2 rfl rfl HH_draft rfl ?_ | refine ev_gf2 rfl rfl (by with_reducible assumption) rfl ?_)
          refine ev_cv rfl rfl rfl (e_misPerson hM _) ?_
          rw [hb]
          (first | refine ev_ift rfl rfl rfl rfl ?_ | refine ev_iff rfl rfl rfl rfl ?_)
          repeat (first | refine ev_gos 99 rfl ?_ | refine ev_gf2 rfl rfl rfl rfl ?_ | refine ev_gf2 rfl rfl HH_land rfl ?_ | refine ev_gf2 rfl rfl HH_draft rfl ?_ | refine ev_gf2 rfl rfl (by with_reducible assumption) rfl ?_)
          refine ev_cv rfl rfl rfl (e_misCell hM _) ?_
          rw [hb2]
          (first | refine ev_ift rfl rfl rfl rfl ?_ | refine ev_iff rfl rfl rfl rfl ?_)
          repeat (first | refine ev_gos 99 rfl ?_ | refine ev_gf2 rfl rfl rfl rfl ?_ | refine ev_gf2 rfl rfl HH_land rfl ?_ | refine ev_gf2 rfl rfl HH_draft rfl ?_ | refine ev_gf2 rfl rfl (by with_reducible assumption) rfl ?_)
          refine ev_ix (5 + p) rfl rfl (nI_add 5 p) (by omega) (by decide) ?_
          rw [k3]
          repeat (first | refine ev_gos 99 rfl ?_ | refine ev_gf2 rfl rfl rfl rfl ?_ | refine ev_gf2 rfl rfl HH_land rfl ?_ | refine ev_gf2 rfl rfl HH_draft rfl ?_ | refine ev_gf2 rfl rfl (by with_reducible assumption) rfl ?_)
          refine ev_cv rfl rfl rfl (e_mmayLie hM k1 q1) ?_
          rw [hm]
          (first | refine ev_ift rfl rfl rfl rfl ?_ | refine ev_iff rfl rfl rfl rfl ?_)
          repeat (first | refine ev_gos 99 rfl ?_ | refine ev_gf2 rfl rfl rfl rfl ?_ | refine ev_gf2 rfl rfl HH_land rfl ?_ | refine ev_gf2 rfl rfl HH_draft rfl ?_ | refine ev_gf2 rfl rfl (by with_reducible assumption) rfl ?_)
          exact ev_ri rfl rfl rfl
      | true =>
        obtain ⟨m1, m2, m3⟩ := may_t hm
        have esh : B 5 (k * 49 + q) = shpM W H k q := by rw [sh_eq hN k1 q1, if_pos m2]
        have hS2 := SP_press (SP_at hS (p := p) (by omega) p1 q1 k1 k2 m1 m2) h49 (shp_WI hW hN.2.2.2.1 hH hN.2.2.2.2.1 q1) m2
        have hsl : slM W H (A 27) (mapP (prF (shpM W H k q)) (upd (A 29) (49 + p) (nI q)) (W * H)) p = shpM W H k q := by
          have e1 : atM (mapP (prF (shpM W H k q)) (upd (A 29) (49 + p) (nI q)) (W * H)) p = nI q := by
            show mapP (prF (shpM W H k q)) (upd (A 29) (49 + p) (nI q)) (W * H) (49 + p) = nI q
            rw [mapP_out (by omega), pk_us]
          unfold slM
          rw [e1, if_neg (enc_ne (by omega)), show kdM (A 27) p = nI k from k3, nI_clamp (by omega), nI_clamp (by omega)]
        refine ⟨nI (pop (shpM W H k q)), HH w (remS s fi c) l (upA (upA (remA A s fi c) 11 (upd (A 11) p (nI q))) 10 (mapP (prF (shpM W H k q)) (A 10) 49)) B, w, upA (remS s fi c) 23 (nI (rmC c + 1)), l, upA (upA (upA (upA (remA A s fi c) 11 (upd (A 11) p (nI q))) 10 (mapP (prF (shpM W H k q)) (A 10) 49)) 32 (pstM (A 32) (A 29) c)) 29 (mapP (prF (shpM W H k q)) (upd (A 29) (49 + p) (nI q)) (W * H)), B, ?_, ?_, ⟨W, H, P, rmF fi c, rmC c + 1, hN, hM, hR, hK, hS2, ⟨rfl, rmF_lt d2, rfl, rmC_le d4, rfl, DD_rem hS d2 d4 d6⟩, hX, hI, hT, hF, hO, hB⟩⟩
        · repeat (first | refine ev_gos 99 rfl ?_ | refine ev_gf2 rfl rfl rfl rfl ?_ | refine ev_gf2 rfl rfl HH_land rfl ?_ | refine ev_gf2 rfl rfl HH_draft rfl ?_ | refine ev_gf2 rfl rfl (by with_reducible assumption) rfl ?_)
          refine ev_cv rfl rfl rfl (e_isPerson hN.2.2.1 _) ?_
          rw [hb]
          (first | refine ev_ift rfl rfl rfl rfl ?_ | refine ev_iff rfl rfl rfl rfl ?_)
          repeat (first | refine ev_gos 99 rfl ?_ | refine ev_gf2 rfl rfl rfl rfl ?_ | refine ev_gf2 rfl rfl HH_land rfl ?_ | refine ev_gf2 rfl rfl HH_draft rfl ?_ | refine ev_gf2 rfl rfl (by with_reducible assumption) rfl ?_)
          refine ev_cv rfl rfl rfl (e_isCell hN.cells _) ?_
          rw [hb2]
          (first | refine ev_ift rfl rfl rfl rfl ?_ | refine ev_iff rfl rfl rfl rfl ?_)
          repeat (first | refine ev_gos 99 rfl ?_ | refine ev_gf2 rfl rfl rfl rfl ?_ | refine ev_gf2 rfl rfl HH_land rfl ?_ | refine ev_gf2 rfl rfl HH_draft rfl ?_ | refine ev_gf2 rfl rfl (by with_reducible assumption) rfl ?_)
          refine ev_cv rfl rfl rfl (e_roomFor hN (p := p) (by omega) k1 k2) ?_
          repeat (first | refine ev_gos 99 rfl ?_ | refine ev_gf2 rfl rfl rfl rfl ?_ | refine ev_gf2 rfl rfl HH_land rfl ?_ | refine ev_gf2 rfl rfl HH_draft rfl ?_ | refine ev_gf2 rfl rfl (by with_reducible assumption) rfl ?_)
          refine ev_cs rfl rfl rfl (e_has sc _ _ _ (k := q) (by omega)) ?_
          rw [hroom, hm]
          (first | refine ev_ift rfl rfl rfl rfl ?_ | refine ev_iff rfl rfl rfl rfl ?_)
          repeat (first | refine ev_gos 99 rfl ?_ | refine ev_gf2 rfl rfl rfl rfl ?_ | refine ev_gf2 rfl rfl HH_land rfl ?_ | refine ev_gf2 rfl rfl HH_draft rfl ?_ | refine ev_gf2 rfl rfl (by with_reducible assumption) rfl ?_)
          refine ev_cv rfl rfl rfl (e_remember d1 d2 d3 d4) ?_
          repeat (first | refine ev_gos 99 rfl ?_ | refine ev_gf2 rfl rfl rfl rfl ?_ | refine ev_gf2 rfl rfl HH_land rfl ?_ | refine ev_gf2 rfl rfl HH_draft rfl ?_ | refine ev_gf2 rfl rfl (by with_reducible assumption) rfl ?_)
          refine ev_cv rfl rfl rfl (e_layDown (A := remA A s fi c) (p := p) (c := q) (by omega) (by omega) k1 k2) ?_
          rw [esh]
          repeat (first | refine ev_gos 99 rfl ?_ | refine ev_gf2 rfl rfl rfl rfl ?_ | refine ev_gf2 rfl rfl HH_land rfl ?_ | refine ev_gf2 rfl rfl HH_draft rfl ?_ | refine ev_gf2 rfl rfl (by with_reducible assumption) rfl ?_)
          (refine ev_ia rfl HH_kinds (inI (by omega) (by decide)) ?_; rw [nI_clamp (by omega)])
          refine (?_ : Ek sc _ m_C_lie 57 _ (.int (A 4 p) :: _) _ _ _ _ _)
          rw [k2]
          repeat (first | refine ev_gos 99 rfl ?_ | refine ev_gf2 rfl rfl rfl rfl ?_ | refine ev_gf2 rfl rfl HH_land rfl ?_ | refine ev_gf2 rfl rfl HH_draft rfl ?_ | refine ev_gf2 rfl rfl (by with_reducible assumption) rfl ?_)
          refine ev_cv rfl rfl HH_land (e_shape HH_land HH_shapes k1 (c := q) (by omega)) ?_
          rw [esh]
          refine ev_cs rfl rfl rfl (e_bitCountL sc _ _ _) ?_
          exact ev_ri rfl rfl rfl
        · repeat (first | refine ev_gos 99 rfl ?_ | refine ev_gf2 rfl rfl rfl rfl ?_ | refine ev_gf2 rfl rfl HH_land rfl ?_ | refine ev_gf2 rfl rfl HH_draft rfl ?_ | refine ev_gf2 rfl rfl (by with_reducible assumption) rfl ?_)
          refine ev_cv rfl rfl rfl (e_misPerson (A := upA (upA (remA A s fi c) 11 _) 10 _) hM _) ?_
          rw [hb]
          (first | refine ev_ift rfl rfl rfl rfl ?_ | refine ev_iff rfl rfl rfl rfl ?_)
          repeat (first | refine ev_gos 99 rfl ?_ | refine ev_gf2 rfl rfl rfl rfl ?_ | refine ev_gf2 rfl rfl HH_land rfl ?_ | refine ev_gf2 rfl rfl HH_draft rfl ?_ | refine ev_gf2 rfl rfl (by with_reducible assumption) rfl ?_)
          refine ev_cv rfl rfl rfl (e_misCell (A := upA (upA (remA A s fi c) 11 _) 10 _) hM _) ?_
          rw [hb2]
          (first | refine ev_ift rfl rfl rfl rfl ?_ | refine ev_iff rfl rfl rfl rfl ?_)
          repeat (first | refine ev_gos 99 rfl ?_ | refine ev_gf2 rfl rfl rfl rfl ?_ | refine ev_gf2 rfl rfl HH_land rfl ?_ | refine ev_gf2 rfl rfl HH_draft rfl ?_ | refine ev_gf2 rfl rfl (by with_reducible assumption) rfl ?_)
          refine ev_ix (5 + p) rfl rfl (nI_add 5 p) (by omega) (by decide) ?_
          refine (?_ : Ek sc _ m_M_lie 32 _ (.int (A 27 (5 + p)) :: _) _ _ _ _ _)
          rw [k3]
          repeat (first | refine ev_gos 99 rfl ?_ | refine ev_gf2 rfl rfl rfl rfl ?_ | refine ev_gf2 rfl rfl HH_land rfl ?_ | refine ev_gf2 rfl rfl HH_draft rfl ?_ | refine ev_gf2 rfl rfl (by with_reducible assumption) rfl ?_)
          refine ev_cv rfl rfl rfl (e_mmayLie (A := upA (upA (remA A s fi c) 11 _) 10 _) hM k1 q1) ?_
          refine (?_ : Ek sc _ m_M_lie 36 _ [.int (b01 (mayB W H (l 3) (A 29) k q))] _ _ _ _ _)
          rw [hm]
          (first | refine ev_ift rfl rfl rfl rfl ?_ | refine ev_iff rfl rfl rfl rfl ?_)
          repeat (first | refine ev_gos 99 rfl ?_ | refine ev_gf2 rfl rfl rfl rfl ?_ | refine ev_gf2 rfl rfl HH_land rfl ?_ | refine ev_gf2 rfl rfl HH_draft rfl ?_ | refine ev_gf2 rfl rfl (by with_reducible assumption) rfl ?_)
          refine ev_cv rfl rfl rfl (e_mremember (s := remS s fi c) (c := c) d5 d4) ?_
          repeat (first | refine ev_gos 99 rfl ?_ | refine ev_gf2 rfl rfl rfl rfl ?_ | refine ev_gf2 rfl rfl HH_land rfl ?_ | refine ev_gf2 rfl rfl HH_draft rfl ?_ | refine ev_gf2 rfl rfl (by with_reducible assumption) rfl ?_)
          refine ev_cv rfl rfl rfl (e_mliesN (A := upA (upA (upA (remA A s fi c) 11 _) 10 _) 32 _) hM p1 q1 k1 k3) ?_
          repeat (first | refine ev_gos 99 rfl ?_ | refine ev_gf2 rfl rfl rfl rfl ?_ | refine ev_gf2 rfl rfl HH_land rfl ?_ | refine ev_gf2 rfl rfl HH_draft rfl ?_ | refine ev_gf2 rfl rfl (by with_reducible assumption) rfl ?_)
          refine ev_cv rfl rfl rfl (e_mshapeOf (A := upA (upA (upA (upA (remA A s fi c) 11 _) 10 _) 32 _) 29 _) hM hS2.lfm p1) ?_
          refine (?_ : Ek sc _ m_M_lie 61 _ [.long (slM W H (A 27) (mapP (prF (shpM W H k q)) (upd (A 29) (49 + p) (nI q)) (W * H)) p)] _ _ _ _ _)
          rw [hsl]
          refine ev_cs rfl rfl rfl (e_bits sc _ _ _) ?_
          exact ev_ri rfl rfl rfl
/-! pins -/
def rwP (F : Nat → Int32 → Int32) (f : Nat → Int32) (a b : Nat) : Nat → Int32 := fun j => if a ≤ j ∧ j < b then F j (f j) else f j
theorem rwP_0 (F : Nat → Int32 → Int32) (f : Nat → Int32) (a : Nat) : rwP F f a a = f := by funext j; unfold rwP; rw [if_neg (by omega)]
theorem rwP_at (F : Nat → Int32 → Int32) (f : Nat → Int32) (a b : Nat) : rwP F f a b b = f b := by unfold rwP; rw [if_neg (by omega)]
theorem rwP_s (F : Nat → Int32 → Int32) (f : Nat → Int32) {a b : Nat} (h : a ≤ b) : upd (rwP F f a b) b (F b (f b)) = rwP F f a (b + 1) := by
  funext j
  by_cases e : j = b
  · subst e
    rw [pk_us]
    unfold rwP
    rw [if_pos (by omega)]
  · rw [pk_un e]
    unfold rwP
    by_cases q : a ≤ j ∧ j < b
    · rw [if_pos q, if_pos (by omega)]
    · rw [if_neg q, if_neg (by omega)]
def pnF (rk : Int64) (c : Nat) (v : Int32) : Int32 := bif bs rk c then 0 else (if v < 5 then 5 else v)
theorem e_mpin_loop {rk : Int64} (hM : MN (A 27) rk W H P) (f : Nat → Int32) {y : Nat} (hy : W * y + W ≤ W * H) {r : Option Value} {h' : AHp} (hout : Ev sc (d + 4) m_M_pin 86 [some (.ref 26), some (.int (nI y)), none] [] (HH w s l (upA A 29 (rwP (pnF rk) f (W * y) (W * y + W))) B) r h') : ∀ (n i : Nat), i + n = W * y + W → W * y ≤ i → Ev sc (d + 4) m_M_pin 43 [some (.ref 26), some (.int (nI y)), some (.int (nI i))] [.int 0, .ref 27, .int (nI y + 1), .int (nI i)] (HH w s l (upA A 29 (rwP (pnF rk) f (W * y) i)) B) r h' := by
  have h49 := hM.n49
  have hyw : nI (y + 1) * nI W = nI (W * y + W) := by rw [pk_mul, Nat.mul_comm, Nat.mul_succ]
  intro n
  induction n with
  | zero =>
    intro i hi h0
    have e : i = W * y + W := by omega
    refine ev_ix 0 rfl rfl rfl (by decide) (by decide) ?_
    refine (?_ : Ek sc _ m_M_pin 44 _ (.int (A 27 0) :: _) _ _ _ _ _)
    rw [hM.1, nI_1]
    repeat (first | refine ev_gos 99 rfl ?_ | refine ev_gf2 rfl rfl rfl rfl ?_ | refine ev_gf2 rfl rfl HH_land rfl ?_ | refine ev_gf2 rfl rfl HH_draft rfl ?_ | refine ev_gf2 rfl rfl (by with_reducible assumption) rfl ?_)
    refine (?_ : Ek sc _ m_M_pin 45 _ [.int (nI (y + 1) * nI W), .int (nI i)] _ _ _ _ _)
    rw [hyw, ← e]
    refine ev_ift rfl rfl rfl (c_ge ((nI_leI (by omega) (by omega)).mpr (by omega))) ?_
    rw [← e] at hout
    exact ev_wk2 hout rfl (by repeat' (first | exact trivial | refine ⟨rfl, ?_⟩))
  | succ n ih =>
    intro i hi h0
    refine ev_ix 0 rfl rfl rfl (by decide) (by decide) ?_
    refine (?_ : Ek sc _ m_M_pin 44 _ (.int (A 27 0) :: _) _ _ _ _ _)
    rw [hM.1, nI_1]
    repeat (first | refine ev_gos 99 rfl ?_ | refine ev_gf2 rfl rfl rfl rfl ?_ | refine ev_gf2 rfl rfl HH_land rfl ?_ | refine ev_gf2 rfl rfl HH_draft rfl ?_ | refine ev_gf2 rfl rfl (by with_reducible assumption) rfl ?_)
    refine (?_ : Ek sc _ m_M_pin 45 _ [.int (nI (y + 1) * nI W), .int (nI i)] _ _ _ _ _)
    rw [hyw]
    refine ev_iff rfl rfl rfl (d_ge (nI_lt3 (by omega) (by omega) (by omega))) ?_
    repeat (first | refine ev_gos 99 rfl ?_ | refine ev_gf2 rfl rfl rfl rfl ?_ | refine ev_gf2 rfl rfl HH_land rfl ?_ | refine ev_gf2 rfl rfl HH_draft rfl ?_ | refine ev_gf2 rfl rfl (by with_reducible assumption) rfl ?_)
    refine ev_cv rfl rfl rfl (e_misRock (A := upA A 29 _) hM (c := i) (by omega)) ?_
    have h3 := ih (i + 1) (by omega) (by omega)
    rw [← nI_1, ← rwP_s _ _ h0] at h3
    cases hb : bs rk i with
    | true =>
      have e9 : pnF rk i (f i) = 0 := by unfold pnF; rw [hb]; rfl
      rw [e9] at h3
      (first | refine ev_ift rfl rfl rfl rfl ?_ | refine ev_iff rfl rfl rfl rfl ?_)
      repeat (first | refine ev_gos 99 rfl ?_ | refine ev_gf2 rfl rfl rfl rfl ?_ | refine ev_gf2 rfl rfl HH_land rfl ?_ | refine ev_gf2 rfl rfl HH_draft rfl ?_ | refine ev_gf2 rfl rfl (by with_reducible assumption) rfl ?_)
      refine iw_29 i rfl (Int32.zero_add _) (by omega) ?_
      repeat (first | refine ev_gos 99 rfl ?_ | refine ev_gf2 rfl rfl rfl rfl ?_ | refine ev_gf2 rfl rfl HH_land rfl ?_ | refine ev_gf2 rfl rfl HH_draft rfl ?_ | refine ev_gf2 rfl rfl (by with_reducible assumption) rfl ?_)
      exact h3
    | false =>
      have e9 : pnF rk i (f i) = if f i < 5 then 5 else f i := by unfold pnF; rw [hb]; rfl
      rw [e9] at h3
      (first | refine ev_ift rfl rfl rfl rfl ?_ | refine ev_iff rfl rfl rfl rfl ?_)
      repeat (first | refine ev_gos 99 rfl ?_ | refine ev_gf2 rfl rfl rfl rfl ?_ | refine ev_gf2 rfl rfl HH_land rfl ?_ | refine ev_gf2 rfl rfl HH_draft rfl ?_ | refine ev_gf2 rfl rfl (by with_reducible assumption) rfl ?_)
      refine ev_ix i rfl rfl (Int32.zero_add _) (by omega) (by decide) ?_
      rw [upA_at, rwP_at]
      refine ev_cs rfl rfl rfl (e_greater sc _ _ _ _) ?_
      refine iw_29 i rfl (Int32.zero_add _) (by omega) ?_
      repeat (first | refine ev_gos 99 rfl ?_ | refine ev_gf2 rfl rfl rfl rfl ?_ | refine ev_gf2 rfl rfl HH_land rfl ?_ | refine ev_gf2 rfl rfl HH_draft rfl ?_ | refine ev_gf2 rfl rfl (by with_reducible assumption) rfl ?_)
      exact h3
theorem SP_pin {rk : Int64} {kd_ dn at_ f : Nat → Int32} {wd nt : Int32} (h : SP W H P rk kd_ dn at_ wd nt f) (h49 : W * H ≤ 49) {y : Nat} (hy : W * y + W ≤ W * H) : SP W H P rk kd_ (mapP (roF (rowS W y &&& (rk ^^^ (-1)))) dn 49) at_ wd nt (rwP (pnF rk) f (W * y) (W * y + W)) := by
  have hbit : ∀ i, i < 49 → bs (rowS W y &&& (rk ^^^ (-1))) i = (decide (W * y ≤ i) && decide (i < W * y + W) && !bs rk i) := fun i hi => by
    rw [bs_and, bs_not _ (by omega)]
    unfold rowS
    rw [bs_mk _ (by omega)]
  refine SP_gen h (fun q hq => ?_) (fun q hq hz => ?_) (fun q hq => ?_) (fun j hj => ?_)
  · obtain ⟨k, k1, k2⟩ := h.1 q hq
    rw [mapP_in hq, k2]
    unfold roF
    cases bs (rowS W y &&& (rk ^^^ (-1))) q
    · exact ⟨k, k1, rfl⟩
    · exact ⟨max 5 k, by omega, (n_ro k (by omega)).1⟩
  · have e : bs (rowS W y &&& (rk ^^^ (-1))) q = false := by
      rw [hbit q hq]
      rcases hz with z | z
      · rw [decide_eq_false (p := q < W * y + W) (by omega), Bool.and_false, Bool.false_and]
      · rw [z]
        exact Bool.and_false _
    rw [mapP_in hq, h.2.1 q hq hz]
    unfold roF
    rw [e]
    rfl
  · rw [mapP_in hq]
    unfold roF rwP
    rw [hbit q hq]
    by_cases z : W * y ≤ q ∧ q < W * y + W
    · rw [if_pos z, decide_eq_true z.1, decide_eq_true z.2]
      unfold pnF
      cases hb : bs rk q with
      | true =>
        show (0 : Int32) = dn q
        rw [h.2.1 q hq (Or.inr hb)]
      | false =>
        obtain ⟨k, k1, k2⟩ := h.1 q hq
        show (if f q < 5 then 5 else f q) = (if 5 < dn q then dn q else 5)
        rw [h.2.2.2.2.1 q hq, k2, (n_ro k (by omega)).1, (n_ro k (by omega)).2]
    · have e2 : (decide (W * y ≤ q) && decide (q < W * y + W)) = false := by
        cases e3 : (decide (W * y ≤ q) && decide (q < W * y + W)) with
        | false => rfl
        | true =>
          obtain ⟨a1, a2⟩ := andE e3
          exact absurd ⟨of_decide_eq_true a1, of_decide_eq_true a2⟩ z
      rw [if_neg z, e2]
      exact h.2.2.2.2.1 q hq
  · unfold rwP
    rw [if_neg (by omega)]
theorem b_pin (h : INV s l A B W H P fi c) (x : Int32) : Both sc (d + 12) m_C_pin 2 m_M_pin 3 [.int x] w s l A B := by
  obtain ⟨hN, hM, hR, hK, hS, ⟨d1, d2, d3, d4, d5, d6⟩, hX, hI, hT, hF, hO, hB⟩ := id h
  have h49 := hN.n49
  have hH7 : H ≤ 7 := hN.2.2.2.2.1
  have eH : in3 x 0 (nI H - 1) = inR x H := in3_R x (N := H) (by omega)
  cases hb : inR x H with
  | false =>
    refine ⟨-1000000002, HH w s l A B, w, s, l, A, B, ?_, ?_, ⟨W, H, P, fi, c, h⟩⟩
    · repeat (first | refine ev_gos 99 rfl ?_ | refine ev_gf2 rfl rfl rfl rfl ?_ | refine ev_gf2 rfl rfl HH_land rfl ?_ | refine ev_gf2 rfl rfl HH_draft rfl ?_ | refine ev_gf2 rfl rfl (by with_reducible assumption) rfl ?_)
      rcases inR_f hb with q | ⟨q, q2⟩
      · refine ev_ift rfl rfl rfl (i_lt q) ?_
        repeat (first | refine ev_gos 99 rfl ?_ | refine ev_gf2 rfl rfl rfl rfl ?_ | refine ev_gf2 rfl rfl HH_land rfl ?_ | refine ev_gf2 rfl rfl HH_draft rfl ?_ | refine ev_gf2 rfl rfl (by with_reducible assumption) rfl ?_)
        exact ev_ri rfl rfl rfl
      · refine ev_iff rfl rfl rfl (j_lt q) ?_
        repeat (first | refine ev_gos 99 rfl ?_ | refine ev_gf2 rfl rfl rfl rfl ?_ | refine ev_gf2 rfl rfl HH_land rfl ?_ | refine ev_gf2 rfl rfl HH_draft rfl ?_ | refine ev_gf2 rfl rfl (by with_reducible assumption) rfl ?_)
        refine ev_iff rfl rfl rfl (d_lt (by rw [hN.2.1]; exact q2)) ?_
        repeat (first | refine ev_gos 99 rfl ?_ | refine ev_gf2 rfl rfl rfl rfl ?_ | refine ev_gf2 rfl rfl HH_land rfl ?_ | refine ev_gf2 rfl rfl HH_draft rfl ?_ | refine ev_gf2 rfl rfl (by with_reducible assumption) rfl ?_)
        exact ev_ri rfl rfl rfl
    · repeat (first | refine ev_gos 99 rfl ?_ | refine ev_gf2 rfl rfl rfl rfl ?_ | refine ev_gf2 rfl rfl HH_land rfl ?_ | refine ev_gf2 rfl rfl HH_draft rfl ?_ | refine ev_gf2 rfl rfl (by with_reducible assumption) rfl ?_)
      refine ev_ix 1 rfl rfl rfl (by decide) (by decide) ?_
      rw [hM.2.1]
      repeat (first | refine ev_gos 99 rfl ?_ | refine ev_gf2 rfl rfl rfl rfl ?_ | refine ev_gf2 rfl rfl HH_land rfl ?_ | refine ev_gf2 rfl rfl HH_draft rfl ?_ | refine ev_gf2 rfl rfl (by with_reducible assumption) rfl ?_)
      refine ev_cs rfl rfl rfl (e_inB x 0 (nI H - 1) rfl (by decide) rfl) ?_
      rw [eH, hb]
      (first | refine ev_ift rfl rfl rfl rfl ?_ | refine ev_iff rfl rfl rfl rfl ?_)
      repeat (first | refine ev_gos 99 rfl ?_ | refine ev_gf2 rfl rfl rfl rfl ?_ | refine ev_gf2 rfl rfl HH_land rfl ?_ | refine ev_gf2 rfl rfl HH_draft rfl ?_ | refine ev_gf2 rfl rfl (by with_reducible assumption) rfl ?_)
      exact ev_ri rfl rfl rfl
  | true =>
    obtain ⟨y, y1, y2⟩ := inR_of (by omega) hb
    subst y2
    have hy : W * y + W ≤ W * H := by
      have := Nat.mul_le_mul_left W (show y + 1 ≤ H by omega)
      rw [Nat.mul_succ] at this
      exact this
    have hS2 := SP_pin hS h49 hy
    refine ⟨nI (cntS W (W * H) (dnS (mapP (roF (rowS W y &&& (l 3 ^^^ (-1)))) (A 10) 49) 3 49)), HH w (remS s fi c) l (upA (remA A s fi c) 10 (mapP (roF (rowS W y &&& (l 3 ^^^ (-1)))) (A 10) 49)) B, w, upA (remS s fi c) 23 (nI (rmC c + 1)), l, upA (upA (upA (remA A s fi c) 10 (mapP (roF (rowS W y &&& (l 3 ^^^ (-1)))) (A 10) 49)) 32 (pstM (A 32) (A 29) c)) 29 (rwP (pnF (l 3)) (A 29) (W * y) (W * y + W)), B, ?_, ?_, ⟨W, H, P, rmF fi c, rmC c + 1, hN, hM, hR, hK, hS2, ⟨rfl, rmF_lt d2, rfl, rmC_le d4, rfl, DD_rem hS d2 d4 d6⟩, hX, hI, hT, hF, hO, hB⟩⟩
    · repeat (first | refine ev_gos 99 rfl ?_ | refine ev_gf2 rfl rfl rfl rfl ?_ | refine ev_gf2 rfl rfl HH_land rfl ?_ | refine ev_gf2 rfl rfl HH_draft rfl ?_ | refine ev_gf2 rfl rfl (by with_reducible assumption) rfl ?_)
      refine ev_iff rfl rfl rfl (j_lt (nI_pos (by omega))) ?_
      repeat (first | refine ev_gos 99 rfl ?_ | refine ev_gf2 rfl rfl rfl rfl ?_ | refine ev_gf2 rfl rfl HH_land rfl ?_ | refine ev_gf2 rfl rfl HH_draft rfl ?_ | refine ev_gf2 rfl rfl (by with_reducible assumption) rfl ?_)
      refine ev_ift rfl rfl rfl (c_lt (by rw [hN.2.1]; exact (nI_ltI (by omega) (by omega)).mpr y1)) ?_
      repeat (first | refine ev_gos 99 rfl ?_ | refine ev_gf2 rfl rfl rfl rfl ?_ | refine ev_gf2 rfl rfl HH_land rfl ?_ | refine ev_gf2 rfl rfl HH_draft rfl ?_ | refine ev_gf2 rfl rfl (by with_reducible assumption) rfl ?_)
      refine ev_cv rfl rfl rfl (e_remember d1 d2 d3 d4) ?_
      repeat (first | refine ev_gos 99 rfl ?_ | refine ev_gf2 rfl rfl rfl rfl ?_ | refine ev_gf2 rfl rfl HH_land rfl ?_ | refine ev_gf2 rfl rfl HH_draft rfl ?_ | refine ev_gf2 rfl rfl (by with_reducible assumption) rfl ?_)
      refine ev_cv rfl rfl HH_land (e_row (HH_land (s := remS s fi c)) hN.1 (y := y) (by omega)) ?_
      repeat (first | refine ev_gos 99 rfl ?_ | refine ev_gf2 rfl rfl rfl rfl ?_ | refine ev_gf2 rfl rfl HH_land rfl ?_ | refine ev_gf2 rfl rfl HH_draft rfl ?_ | refine ev_gf2 rfl rfl (by with_reducible assumption) rfl ?_)
      refine ev_cv rfl rfl rfl (e_roll _) ?_
      repeat (first | refine ev_gos 99 rfl ?_ | refine ev_gf2 rfl rfl rfl rfl ?_ | refine ev_gf2 rfl rfl HH_land rfl ?_ | refine ev_gf2 rfl rfl HH_draft rfl ?_ | refine ev_gf2 rfl rfl (by with_reducible assumption) rfl ?_)
      refine ev_cv rfl rfl rfl (e_countNow (W := W) (N := W * H) hN.1 hN.2.2.2.2.2.2.2.1 hN.2.2.2.2.2.2.2.2.1 hN.2.2.2.2.2.2.2.2.2.1) ?_
      exact ev_ri rfl rfl rfl
    · repeat (first | refine ev_gos 99 rfl ?_ | refine ev_gf2 rfl rfl rfl rfl ?_ | refine ev_gf2 rfl rfl HH_land rfl ?_ | refine ev_gf2 rfl rfl HH_draft rfl ?_ | refine ev_gf2 rfl rfl (by with_reducible assumption) rfl ?_)
      refine ev_ix 1 rfl rfl rfl (by decide) (by decide) ?_
      refine (?_ : Ek sc _ m_M_pin 9 _ (.int (A 27 1) :: _) _ _ _ _ _)
      rw [hM.2.1]
      repeat (first | refine ev_gos 99 rfl ?_ | refine ev_gf2 rfl rfl rfl rfl ?_ | refine ev_gf2 rfl rfl HH_land rfl ?_ | refine ev_gf2 rfl rfl HH_draft rfl ?_ | refine ev_gf2 rfl rfl (by with_reducible assumption) rfl ?_)
      refine ev_cs rfl rfl rfl (e_inB (nI y) 0 (nI H - 1) rfl (by decide) rfl) ?_
      rw [eH, hb]
      (first | refine ev_ift rfl rfl rfl rfl ?_ | refine ev_iff rfl rfl rfl rfl ?_)
      repeat (first | refine ev_gos 99 rfl ?_ | refine ev_gf2 rfl rfl rfl rfl ?_ | refine ev_gf2 rfl rfl HH_land rfl ?_ | refine ev_gf2 rfl rfl HH_draft rfl ?_ | refine ev_gf2 rfl rfl (by with_reducible assumption) rfl ?_)
      refine ev_cv rfl rfl rfl (e_mremember (s := remS s fi c) (c := c) d5 d4) ?_
      repeat (first | refine ev_gos 99 rfl ?_ | refine ev_gf2 rfl rfl rfl rfl ?_ | refine ev_gf2 rfl rfl HH_land rfl ?_ | refine ev_gf2 rfl rfl HH_draft rfl ?_ | refine ev_gf2 rfl rfl (by with_reducible assumption) rfl ?_)
      refine ev_ix 0 rfl rfl rfl (by decide) (by decide) ?_
      refine (?_ : Ek sc _ m_M_pin 32 _ (.int (A 27 0) :: _) _ _ _ _ _)
      rw [hM.1]
      repeat (first | refine ev_gos 99 rfl ?_ | refine ev_gf2 rfl rfl rfl rfl ?_ | refine ev_gf2 rfl rfl HH_land rfl ?_ | refine ev_gf2 rfl rfl HH_draft rfl ?_ | refine ev_gf2 rfl rfl (by with_reducible assumption) rfl ?_)
      have eyw : nI y * nI W = nI (W * y) := by rw [pk_mul, Nat.mul_comm]
      have q : Ev sc (d + 12) m_M_pin 86 [some (.ref 26), some (.int (nI y)), none] [] (HH w (upA (remS s fi c) 23 (nI (rmC c + 1))) l (upA (upA (upA (remA A s fi c) 10 (mapP (roF (rowS W y &&& (l 3 ^^^ (-1)))) (A 10) 49)) 32 (pstM (A 32) (A 29) c)) 29 (rwP (pnF (l 3)) (A 29) (W * y) (W * y + W))) B) (some (.int (nI (cntS W (W * H) (dnS (mapP (roF (rowS W y &&& (l 3 ^^^ (-1)))) (A 10) 49) 3 49))))) (HH w (upA (remS s fi c) 23 (nI (rmC c + 1))) l (upA (upA (upA (remA A s fi c) 10 (mapP (roF (rowS W y &&& (l 3 ^^^ (-1)))) (A 10) 49)) 32 (pstM (A 32) (A 29) c)) 29 (rwP (pnF (l 3)) (A 29) (W * y) (W * y + W))) B) := by
        repeat (first | refine ev_gos 99 rfl ?_ | refine ev_gf2 rfl rfl rfl rfl ?_ | refine ev_gf2 rfl rfl HH_land rfl ?_ | refine ev_gf2 rfl rfl HH_draft rfl ?_ | refine ev_gf2 rfl rfl (by with_reducible assumption) rfl ?_)
        refine ev_cv rfl rfl rfl (e_mcountN (A := upA (upA (upA (remA A s fi c) 10 _) 32 _) 29 _) hM) ?_
        refine (?_ : Ek sc _ m_M_pin 94 _ [.int (nI (cntS W (W * H) (dnS (rwP (pnF (l 3)) (A 29) (W * y) (W * y + W)) 3 (W * H))))] _ _ _ _ _)
        exact ev_ri rfl (by rw [cnt_eq hN hS2]) rfl
      have z := e_mpin_loop (A := upA (upA (remA A s fi c) 10 (mapP (roF (rowS W y &&& (l 3 ^^^ (-1)))) (A 10) 49)) 32 (pstM (A 32) (A 29) c)) (rk := l 3) (W := W) (H := H) (P := P) hM (A 29) hy q W (W * y) rfl (Nat.le_refl _)
      rw [rwP_0, show upA (upA (upA (remA A s fi c) 10 (mapP (roF (rowS W y &&& (l 3 ^^^ (-1)))) (A 10) 49)) 32 (pstM (A 32) (A 29) c)) 29 (A 29) = upA (upA (remA A s fi c) 10 (mapP (roF (rowS W y &&& (l 3 ^^^ (-1)))) (A 10) 49)) 32 (pstM (A 32) (A 29) c) from upA_id _ 29, ← eyw] at z
      exact z
end DE5
