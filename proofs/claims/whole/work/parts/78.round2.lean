/-! both sides: a round -/
section RD2
variable {sc : Scr} {d : Nat} {w : Bool} {s : Nat → Int32} {l : Nat → Int64} {A : Nat → Nat → Int32} {B : Nat → Nat → Int64} {W H P fi c : Nat}
theorem cntB_hi {t P : Nat} (h : ∀ p, P ≤ p → Nat.testBit t p = false) : ∀ n, cntB (Nat.testBit t) (P + n) = cntB (Nat.testBit t) P
  | 0 => rfl
  | n + 1 => by
    show cntB (Nat.testBit t) (P + n) + (bif Nat.testBit t (P + n) then 1 else 0) = _
    rw [cntB_hi h n, h (P + n) (by omega)]
    rfl
theorem okO_t {t m : Nat} {l : List (List Nat)} (h : okO t m l = true) : ∃ r, l = srL t 7 :: r ∧ chn (srL t 7) r = true ∧ ascB 0 (srL t 7 :: r) = true ∧ ∀ M, M ∈ srL t 7 :: r → M.length = m ∧ ∀ p, p ∈ M → Nat.testBit t p = true ∧ p < 7 := by
  cases l with
  | nil => cases h
  | cons L r =>
    obtain ⟨h1, h2⟩ := andE h
    obtain ⟨h2, h3⟩ := andE h2
    obtain ⟨h3, h4⟩ := andE h3
    have e := leq_t h1
    subst e
    refine ⟨r, rfl, h2, h3, fun M hM => ?_⟩
    have h5 := List.all_eq_true.mp h4 M hM
    obtain ⟨h6, h7⟩ := andE h5
    refine ⟨Nat.eq_of_beq_eq_true h6, fun p hp => ?_⟩
    have h8 := List.all_eq_true.mp h7 p hp
    obtain ⟨h9, h10⟩ := andE h8
    exact ⟨h9, Nat.le_of_ble_eq_true h10⟩
theorem okR_t {t : Nat} (ht : t < 128) (h1 : 1 ≤ cntB (Nat.testBit t) 7) (h5 : cntB (Nat.testBit t) 7 ≤ 5) : okO t (cntB (Nat.testBit t) 7) (lexP (cntB (Nat.testBit t) 7) t) = true := by
  have h := okR_all t ht
  unfold okR at h
  rw [show Nat.blt 0 (cntB (Nat.testBit t) 7) = true from Nat.ble_eq_true_of_le h1, show Nat.blt (cntB (Nat.testBit t) 7) 6 = true from Nat.ble_eq_true_of_le (show cntB (Nat.testBit t) 7 + 1 ≤ 6 by omega)] at h
  exact h
theorem b_round (h : INV s l A B W H P fi c) (x y z : Int32) : Both sc (d + 12) m_C_round 7 m_M_round 12 [.int x, .int y, .int z] w s l A B := by
  obtain ⟨hN, hM, hR, hK, hS, hD, hX, hI, hT, hF, hO, hB⟩ := id h
  have h49 := hN.n49
  have hP7 := h.p7
  obtain ⟨k1, k2, k3⟩ := mask_nI P (by omega)
  have eC : ((1 : Int32) <<< (s 17 &&& 31)) - 1 = nI (2 ^ P - 1) := by rw [hN.2.2.1]; exact k2
  have eM : ((1 : Int32) <<< (A 27 2 &&& 31)) - 1 = nI (2 ^ P - 1) := by rw [hM.2.2.1]; exact k2
  cases hb : inR x (W * H) with
  | false =>
    refine ⟨-1000000001, HH w s l A B, w, s, l, A, B, ?_, ?_, ⟨W, H, P, fi, c, h⟩⟩
    · repeat (first | refine ev_gos 99 rfl ?_ | refine ev_gf2 rfl rfl rfl rfl ?_ | refine ev_gf2 rfl rfl HH_land rfl ?_ | refine ev_gf2 rfl rfl HH_draft rfl ?_ | refine ev_gf2 rfl rfl (by with_reducible assumption) rfl ?_)
      refine ev_cv rfl rfl rfl (e_isCell hN.cells x) ?_
      rw [hb]
      (first | refine ev_ift rfl rfl rfl rfl ?_ | refine ev_iff rfl rfl rfl rfl ?_)
      repeat (first | refine ev_gos 99 rfl ?_ | refine ev_gf2 rfl rfl rfl rfl ?_ | refine ev_gf2 rfl rfl HH_land rfl ?_ | refine ev_gf2 rfl rfl HH_draft rfl ?_ | refine ev_gf2 rfl rfl (by with_reducible assumption) rfl ?_)
      exact ev_ri rfl rfl rfl
    · repeat (first | refine ev_gos 99 rfl ?_ | refine ev_gf2 rfl rfl rfl rfl ?_ | refine ev_gf2 rfl rfl HH_land rfl ?_ | refine ev_gf2 rfl rfl HH_draft rfl ?_ | refine ev_gf2 rfl rfl (by with_reducible assumption) rfl ?_)
      refine ev_cv rfl rfl rfl (e_misCell hM x) ?_
      rw [hb]
      (first | refine ev_ift rfl rfl rfl rfl ?_ | refine ev_iff rfl rfl rfl rfl ?_)
      repeat (first | refine ev_gos 99 rfl ?_ | refine ev_gf2 rfl rfl rfl rfl ?_ | refine ev_gf2 rfl rfl HH_land rfl ?_ | refine ev_gf2 rfl rfl HH_draft rfl ?_ | refine ev_gf2 rfl rfl (by with_reducible assumption) rfl ?_)
      exact ev_ri rfl rfl rfl
  | true =>
    obtain ⟨q, q1, q2⟩ := inR_of (by omega) hb
    subst q2
    obtain ⟨hW, hH⟩ := hN.pos (by omega)
    rcases set_ok hP7 y with ⟨t, t1, t2⟩ | ⟨t1, t2⟩
    rotate_left
    · refine ⟨-1000000001, HH w s l A B, w, s, l, A, B, ?_, ?_, ⟨W, H, P, fi, c, h⟩⟩
      · repeat (first | refine ev_gos 99 rfl ?_ | refine ev_gf2 rfl rfl rfl rfl ?_ | refine ev_gf2 rfl rfl HH_land rfl ?_ | refine ev_gf2 rfl rfl HH_draft rfl ?_ | refine ev_gf2 rfl rfl (by with_reducible assumption) rfl ?_)
        refine ev_cv rfl rfl rfl (e_isCell hN.cells _) ?_
        rw [hb]
        (first | refine ev_ift rfl rfl rfl rfl ?_ | refine ev_iff rfl rfl rfl rfl ?_)
        repeat (first | refine ev_gos 99 rfl ?_ | refine ev_gf2 rfl rfl rfl rfl ?_ | refine ev_gf2 rfl rfl HH_land rfl ?_ | refine ev_gf2 rfl rfl HH_draft rfl ?_ | refine ev_gf2 rfl rfl (by with_reducible assumption) rfl ?_)
        refine ev_cv rfl rfl rfl e_everybody ?_
        rw [eC]
        repeat (first | refine ev_gos 99 rfl ?_ | refine ev_gf2 rfl rfl rfl rfl ?_ | refine ev_gf2 rfl rfl HH_land rfl ?_ | refine ev_gf2 rfl rfl HH_draft rfl ?_ | refine ev_gf2 rfl rfl (by with_reducible assumption) rfl ?_)
        refine ev_iff rfl rfl rfl (j_eq t1) ?_
        repeat (first | refine ev_gos 99 rfl ?_ | refine ev_gf2 rfl rfl rfl rfl ?_ | refine ev_gf2 rfl rfl HH_land rfl ?_ | refine ev_gf2 rfl rfl HH_draft rfl ?_ | refine ev_gf2 rfl rfl (by with_reducible assumption) rfl ?_)
        exact ev_ri rfl rfl rfl
      · repeat (first | refine ev_gos 99 rfl ?_ | refine ev_gf2 rfl rfl rfl rfl ?_ | refine ev_gf2 rfl rfl HH_land rfl ?_ | refine ev_gf2 rfl rfl HH_draft rfl ?_ | refine ev_gf2 rfl rfl (by with_reducible assumption) rfl ?_)
        refine ev_cv rfl rfl rfl (e_misCell hM _) ?_
        rw [hb]
        (first | refine ev_ift rfl rfl rfl rfl ?_ | refine ev_iff rfl rfl rfl rfl ?_)
        repeat (first | refine ev_gos 99 rfl ?_ | refine ev_gf2 rfl rfl rfl rfl ?_ | refine ev_gf2 rfl rfl HH_land rfl ?_ | refine ev_gf2 rfl rfl HH_draft rfl ?_ | refine ev_gf2 rfl rfl (by with_reducible assumption) rfl ?_)
        refine ev_ix 2 rfl rfl rfl (by decide) (by decide) ?_
        repeat (first | refine ev_gos 99 rfl ?_ | refine ev_gf2 rfl rfl rfl rfl ?_ | refine ev_gf2 rfl rfl HH_land rfl ?_ | refine ev_gf2 rfl rfl HH_draft rfl ?_ | refine ev_gf2 rfl rfl (by with_reducible assumption) rfl ?_)
        refine ev_cs rfl rfl rfl (e_inB y 0 (nI (2 ^ P - 1)) rfl (by decide) (congrArg Int32.toInt64 eM)) ?_
        rw [t2]
        (first | refine ev_ift rfl rfl rfl rfl ?_ | refine ev_iff rfl rfl rfl rfl ?_)
        repeat (first | refine ev_gos 99 rfl ?_ | refine ev_gf2 rfl rfl rfl rfl ?_ | refine ev_gf2 rfl rfl HH_land rfl ?_ | refine ev_gf2 rfl rfl HH_draft rfl ?_ | refine ev_gf2 rfl rfl (by with_reducible assumption) rfl ?_)
        exact ev_ri rfl rfl rfl
    · subst t2
      have hpw : 2 ^ P ≤ 128 := Nat.pow_le_pow_right (show 0 < 2 by decide) hP7
      have ht : t < 128 := by omega
      have hset := set_in P (by omega) t ht t1
      have hin : in3 (nI t) 0 (nI (2 ^ P - 1)) = true := by
        unfold in3
        rw [decide_eq_true (ge0 (nI_pos (by omega))), decide_eq_true ((nI_leI (by omega) k3).mpr (by omega))]
        rfl
      have hhi : ∀ p, P ≤ p → Nat.testBit t p = false := fun p hp => Nat.testBit_lt_two_pow (Nat.lt_of_lt_of_le t1 (Nat.pow_le_pow_right (show 0 < 2 by decide) hp))
      have hcc : cntB (Nat.testBit t) 7 = cntB (Nat.testBit t) P := by
        have := cntB_hi hhi (7 - P)
        rw [show P + (7 - P) = 7 by omega] at this
        exact this
      have hcl := cntB_le (Nat.testBit t) P
      rcases sw_rng (y := z) (b := 1) (by decide) (hi := 1) rfl with o | ⟨j, j1, j2⟩
      · have z0 : ¬ z = 0 := fun e => by rw [e] at o; exact absurd o (by decide)
        have z1 : ¬ z = 1 := fun e => by rw [e] at o; exact absurd o (by decide)
        refine ⟨-1000000002, HH w s l A B, w, s, l, A, B, ?_, ?_, ⟨W, H, P, fi, c, h⟩⟩
        · repeat (first | refine ev_gos 99 rfl ?_ | refine ev_gf2 rfl rfl rfl rfl ?_ | refine ev_gf2 rfl rfl HH_land rfl ?_ | refine ev_gf2 rfl rfl HH_draft rfl ?_ | refine ev_gf2 rfl rfl (by with_reducible assumption) rfl ?_)
          refine ev_cv rfl rfl rfl (e_isCell hN.cells _) ?_
          rw [hb]
          (first | refine ev_ift rfl rfl rfl rfl ?_ | refine ev_iff rfl rfl rfl rfl ?_)
          repeat (first | refine ev_gos 99 rfl ?_ | refine ev_gf2 rfl rfl rfl rfl ?_ | refine ev_gf2 rfl rfl HH_land rfl ?_ | refine ev_gf2 rfl rfl HH_draft rfl ?_ | refine ev_gf2 rfl rfl (by with_reducible assumption) rfl ?_)
          refine ev_cv rfl rfl rfl e_everybody ?_
          rw [eC]
          repeat (first | refine ev_gos 99 rfl ?_ | refine ev_gf2 rfl rfl rfl rfl ?_ | refine ev_gf2 rfl rfl HH_land rfl ?_ | refine ev_gf2 rfl rfl HH_draft rfl ?_ | refine ev_gf2 rfl rfl (by with_reducible assumption) rfl ?_)
          refine ev_ift rfl rfl rfl (i_eq hset) ?_
          repeat (first | refine ev_gos 99 rfl ?_ | refine ev_gf2 rfl rfl rfl rfl ?_ | refine ev_gf2 rfl rfl HH_land rfl ?_ | refine ev_gf2 rfl rfl HH_draft rfl ?_ | refine ev_gf2 rfl rfl (by with_reducible assumption) rfl ?_)
          refine ev_iff rfl rfl rfl (j_eq z0) ?_
          repeat (first | refine ev_gos 99 rfl ?_ | refine ev_gf2 rfl rfl rfl rfl ?_ | refine ev_gf2 rfl rfl HH_land rfl ?_ | refine ev_gf2 rfl rfl HH_draft rfl ?_ | refine ev_gf2 rfl rfl (by with_reducible assumption) rfl ?_)
          refine ev_iff rfl rfl rfl (d_eq z1) ?_
          repeat (first | refine ev_gos 99 rfl ?_ | refine ev_gf2 rfl rfl rfl rfl ?_ | refine ev_gf2 rfl rfl HH_land rfl ?_ | refine ev_gf2 rfl rfl HH_draft rfl ?_ | refine ev_gf2 rfl rfl (by with_reducible assumption) rfl ?_)
          exact ev_ri rfl rfl rfl
        · repeat (first | refine ev_gos 99 rfl ?_ | refine ev_gf2 rfl rfl rfl rfl ?_ | refine ev_gf2 rfl rfl HH_land rfl ?_ | refine ev_gf2 rfl rfl HH_draft rfl ?_ | refine ev_gf2 rfl rfl (by with_reducible assumption) rfl ?_)
          refine ev_cv rfl rfl rfl (e_misCell hM _) ?_
          rw [hb]
          (first | refine ev_ift rfl rfl rfl rfl ?_ | refine ev_iff rfl rfl rfl rfl ?_)
          repeat (first | refine ev_gos 99 rfl ?_ | refine ev_gf2 rfl rfl rfl rfl ?_ | refine ev_gf2 rfl rfl HH_land rfl ?_ | refine ev_gf2 rfl rfl HH_draft rfl ?_ | refine ev_gf2 rfl rfl (by with_reducible assumption) rfl ?_)
          refine ev_ix 2 rfl rfl rfl (by decide) (by decide) ?_
          repeat (first | refine ev_gos 99 rfl ?_ | refine ev_gf2 rfl rfl rfl rfl ?_ | refine ev_gf2 rfl rfl HH_land rfl ?_ | refine ev_gf2 rfl rfl HH_draft rfl ?_ | refine ev_gf2 rfl rfl (by with_reducible assumption) rfl ?_)
          refine ev_cs rfl rfl rfl (e_inB (nI t) 0 (nI (2 ^ P - 1)) rfl (by decide) (congrArg Int32.toInt64 eM)) ?_
          rw [hin]
          (first | refine ev_ift rfl rfl rfl rfl ?_ | refine ev_iff rfl rfl rfl rfl ?_)
          repeat (first | refine ev_gos 99 rfl ?_ | refine ev_gf2 rfl rfl rfl rfl ?_ | refine ev_gf2 rfl rfl HH_land rfl ?_ | refine ev_gf2 rfl rfl HH_draft rfl ?_ | refine ev_gf2 rfl rfl (by with_reducible assumption) rfl ?_)
          refine ev_cs rfl rfl rfl (e_inB z 0 (nI 1) rfl (by decide) (by decide)) ?_
          rw [in3_out (by decide) rfl o]
          (first | refine ev_ift rfl rfl rfl rfl ?_ | refine ev_iff rfl rfl rfl rfl ?_)
          repeat (first | refine ev_gos 99 rfl ?_ | refine ev_gf2 rfl rfl rfl rfl ?_ | refine ev_gf2 rfl rfl HH_land rfl ?_ | refine ev_gf2 rfl rfl HH_draft rfl ?_ | refine ev_gf2 rfl rfl (by with_reducible assumption) rfl ?_)
          exact ev_ri rfl rfl rfl
      · subst j2
        have hzin : in3 (nI j) 0 (nI 1) = true := by
          rcases (show j = 0 ∨ j = 1 by omega) with rfl | rfl <;> decide
        obtain ⟨R', r1, r2⟩ := e_fill7 (sc := sc) (d := d + 11) (w := w) (s := s) (l := l) (A := A) (B := B) hM ht (nI q) (nI j) P 0 (A 38) (Nat.zero_add P) (fun k hk => absurd hk (Nat.not_lt_zero k))
        have mpre : ∀ (r : Option Value) (h' : AHp), Ev sc (d + 12) m_M_round 88 [some (.ref 26), some (.int (nI q)), some (.int (nI t)), some (.int (nI j)), some (.int (nI (cntB (Nat.testBit t) P))), none, none, none, none, none, none, none] [] (HH w s l (upA A 38 R') B) r h' → Ev sc (d + 12) m_M_round 0 (iniL 12 [.ref 26, .int (nI q), .int (nI t), .int (nI j)]) [] (HH w s l A B) r h' := by
          intro r h' h0
          have h1 := r2 r h' h0
          rw [upA_id] at h1
          repeat (first | refine ev_gos 99 rfl ?_ | refine ev_gf2 rfl rfl rfl rfl ?_ | refine ev_gf2 rfl rfl HH_land rfl ?_ | refine ev_gf2 rfl rfl HH_draft rfl ?_ | refine ev_gf2 rfl rfl (by with_reducible assumption) rfl ?_)
          refine ev_cv rfl rfl rfl (e_misCell hM _) ?_
          rw [hb]
          (first | refine ev_ift rfl rfl rfl rfl ?_ | refine ev_iff rfl rfl rfl rfl ?_)
          repeat (first | refine ev_gos 99 rfl ?_ | refine ev_gf2 rfl rfl rfl rfl ?_ | refine ev_gf2 rfl rfl HH_land rfl ?_ | refine ev_gf2 rfl rfl HH_draft rfl ?_ | refine ev_gf2 rfl rfl (by with_reducible assumption) rfl ?_)
          refine ev_ix 2 rfl rfl rfl (by decide) (by decide) ?_
          repeat (first | refine ev_gos 99 rfl ?_ | refine ev_gf2 rfl rfl rfl rfl ?_ | refine ev_gf2 rfl rfl HH_land rfl ?_ | refine ev_gf2 rfl rfl HH_draft rfl ?_ | refine ev_gf2 rfl rfl (by with_reducible assumption) rfl ?_)
          refine ev_cs rfl rfl rfl (e_inB (nI t) 0 (nI (2 ^ P - 1)) rfl (by decide) (congrArg Int32.toInt64 eM)) ?_
          rw [hin]
          (first | refine ev_ift rfl rfl rfl rfl ?_ | refine ev_iff rfl rfl rfl rfl ?_)
          repeat (first | refine ev_gos 99 rfl ?_ | refine ev_gf2 rfl rfl rfl rfl ?_ | refine ev_gf2 rfl rfl HH_land rfl ?_ | refine ev_gf2 rfl rfl HH_draft rfl ?_ | refine ev_gf2 rfl rfl (by with_reducible assumption) rfl ?_)
          refine ev_cs rfl rfl rfl (e_inB (nI j) 0 (nI 1) rfl (by decide) (by decide)) ?_
          rw [hzin]
          (first | refine ev_ift rfl rfl rfl rfl ?_ | refine ev_iff rfl rfl rfl rfl ?_)
          repeat (first | refine ev_gos 99 rfl ?_ | refine ev_gf2 rfl rfl rfl rfl ?_ | refine ev_gf2 rfl rfl HH_land rfl ?_ | refine ev_gf2 rfl rfl HH_draft rfl ?_ | refine ev_gf2 rfl rfl (by with_reducible assumption) rfl ?_)
          exact h1
        have cpre : ∀ (r : Option Value) (h' : AHp), Ev sc (d + 12) m_C_round 38 [some (.ref 0), some (.int (nI q)), some (.int (nI t)), some (.int (nI j)), none, none, none] [.int (nI (cntB (Nat.testBit t) 7))] (HH w s l A B) r h' → Ev sc (d + 12) m_C_round 0 (iniL 7 [.ref 0, .int (nI q), .int (nI t), .int (nI j)]) [] (HH w s l A B) r h' := by
          intro r h' h0
          repeat (first | refine ev_gos 99 rfl ?_ | refine ev_gf2 rfl rfl rfl rfl ?_ | refine ev_gf2 rfl rfl HH_land rfl ?_ | refine ev_gf2 rfl rfl HH_draft rfl ?_ | refine ev_gf2 rfl rfl (by with_reducible assumption) rfl ?_)
          refine ev_cv rfl rfl rfl (e_isCell hN.cells _) ?_
          rw [hb]
          (first | refine ev_ift rfl rfl rfl rfl ?_ | refine ev_iff rfl rfl rfl rfl ?_)
          repeat (first | refine ev_gos 99 rfl ?_ | refine ev_gf2 rfl rfl rfl rfl ?_ | refine ev_gf2 rfl rfl HH_land rfl ?_ | refine ev_gf2 rfl rfl HH_draft rfl ?_ | refine ev_gf2 rfl rfl (by with_reducible assumption) rfl ?_)
          refine ev_cv rfl rfl rfl e_everybody ?_
          rw [eC]
          repeat (first | refine ev_gos 99 rfl ?_ | refine ev_gf2 rfl rfl rfl rfl ?_ | refine ev_gf2 rfl rfl HH_land rfl ?_ | refine ev_gf2 rfl rfl HH_draft rfl ?_ | refine ev_gf2 rfl rfl (by with_reducible assumption) rfl ?_)
          refine ev_ift rfl rfl rfl (i_eq hset) ?_
          repeat (first | refine ev_gos 99 rfl ?_ | refine ev_gf2 rfl rfl rfl rfl ?_ | refine ev_gf2 rfl rfl HH_land rfl ?_ | refine ev_gf2 rfl rfl HH_draft rfl ?_ | refine ev_gf2 rfl rfl (by with_reducible assumption) rfl ?_)
          rcases (show j = 0 ∨ j = 1 by omega) with rfl | rfl
          · (first | refine ev_ift rfl rfl rfl rfl ?_ | refine ev_iff rfl rfl rfl rfl ?_)
            repeat (first | refine ev_gos 99 rfl ?_ | refine ev_gf2 rfl rfl rfl rfl ?_ | refine ev_gf2 rfl rfl HH_land rfl ?_ | refine ev_gf2 rfl rfl HH_draft rfl ?_ | refine ev_gf2 rfl rfl (by with_reducible assumption) rfl ?_)
            refine ev_cs rfl rfl rfl (e_bitCountI sc _ _ t ht) ?_
            exact h0
          · (first | refine ev_ift rfl rfl rfl rfl ?_ | refine ev_iff rfl rfl rfl rfl ?_)
            repeat (first | refine ev_gos 99 rfl ?_ | refine ev_gf2 rfl rfl rfl rfl ?_ | refine ev_gf2 rfl rfl HH_land rfl ?_ | refine ev_gf2 rfl rfl HH_draft rfl ?_ | refine ev_gf2 rfl rfl (by with_reducible assumption) rfl ?_)
            (first | refine ev_ift rfl rfl rfl rfl ?_ | refine ev_iff rfl rfl rfl rfl ?_)
            repeat (first | refine ev_gos 99 rfl ?_ | refine ev_gf2 rfl rfl rfl rfl ?_ | refine ev_gf2 rfl rfl HH_land rfl ?_ | refine ev_gf2 rfl rfl HH_draft rfl ?_ | refine ev_gf2 rfl rfl (by with_reducible assumption) rfl ?_)
            refine ev_cs rfl rfl rfl (e_bitCountI sc _ _ t ht) ?_
            exact h0
        rw [hcc] at cpre
        have hwho : whoP (atM (A 29)) P = whoP (A 11) P := who_cong P (fun p hp => h.aM (by omega))
        generalize hmm : cntB (Nat.testBit t) P = m at mpre cpre hcl
        have hJn : Jn s l (upA A 38 R') B := ⟨W, H, P, fi, c, h⟩
        by_cases hm : 1 ≤ m ∧ m ≤ 5
        rotate_left
        · have hbad : in3 (nI m) 1 5 = false := by
            cases hq : in3 (nI m) 1 5 with
            | false => rfl
            | true =>
              obtain ⟨u, u1, u2, u3⟩ := rng32 (a := 1) (b := 5) (by decide) (by decide) hq
              have := (nI_eq (by omega) (by omega)).mp u3
              omega
          refine ⟨-1000000003, HH w s l A B, w, s, l, upA A 38 R', B, cpre _ _ ?_, mpre _ _ ?_, hJn⟩
          · repeat (first | refine ev_gos 99 rfl ?_ | refine ev_gf2 rfl rfl rfl rfl ?_ | refine ev_gf2 rfl rfl HH_land rfl ?_ | refine ev_gf2 rfl rfl HH_draft rfl ?_ | refine ev_gf2 rfl rfl (by with_reducible assumption) rfl ?_)
            by_cases h1 : m < 1
            · refine ev_ift rfl rfl rfl (c_lt ((nI_ltI (a := m) (b := 1) (by omega) (by decide)).mpr h1)) ?_
              repeat (first | refine ev_gos 99 rfl ?_ | refine ev_gf2 rfl rfl rfl rfl ?_ | refine ev_gf2 rfl rfl HH_land rfl ?_ | refine ev_gf2 rfl rfl HH_draft rfl ?_ | refine ev_gf2 rfl rfl (by with_reducible assumption) rfl ?_)
              exact ev_ri rfl rfl rfl
            · refine ev_iff rfl rfl rfl (d_lt (nI_nlt (a := m) (b := 1) (by omega) (by omega))) ?_
              repeat (first | refine ev_gos 99 rfl ?_ | refine ev_gf2 rfl rfl rfl rfl ?_ | refine ev_gf2 rfl rfl HH_land rfl ?_ | refine ev_gf2 rfl rfl HH_draft rfl ?_ | refine ev_gf2 rfl rfl (by with_reducible assumption) rfl ?_)
              refine ev_ift rfl rfl rfl (c_gt ((nI_ltI (a := 5) (b := m) (by decide) (by omega)).mpr (by omega))) ?_
              repeat (first | refine ev_gos 99 rfl ?_ | refine ev_gf2 rfl rfl rfl rfl ?_ | refine ev_gf2 rfl rfl HH_land rfl ?_ | refine ev_gf2 rfl rfl HH_draft rfl ?_ | refine ev_gf2 rfl rfl (by with_reducible assumption) rfl ?_)
              exact ev_ri rfl rfl rfl
          · repeat (first | refine ev_gos 99 rfl ?_ | refine ev_gf2 rfl rfl rfl rfl ?_ | refine ev_gf2 rfl rfl HH_land rfl ?_ | refine ev_gf2 rfl rfl HH_draft rfl ?_ | refine ev_gf2 rfl rfl (by with_reducible assumption) rfl ?_)
            refine ev_cs rfl rfl rfl (e_inB (nI m) 1 5 rfl (by decide) (by decide)) ?_
            rw [hbad]
            (first | refine ev_ift rfl rfl rfl rfl ?_ | refine ev_iff rfl rfl rfl rfl ?_)
            repeat (first | refine ev_gos 99 rfl ?_ | refine ev_gf2 rfl rfl rfl rfl ?_ | refine ev_gf2 rfl rfl HH_land rfl ?_ | refine ev_gf2 rfl rfl HH_draft rfl ?_ | refine ev_gf2 rfl rfl (by with_reducible assumption) rfl ?_)
            exact ev_ri rfl rfl rfl
        · have hgood : in3 (nI m) 1 5 = true := by
            unfold in3
            rw [decide_eq_true (show (1 : Int32) ≤ nI m from (nI_leI (a := 1) (by decide) (by omega)).mpr hm.1), decide_eq_true (show nI m ≤ 5 from (nI_leI (b := 5) (by omega) (by decide)).mpr hm.2)]
            rfl
          by_cases hw : nI t &&& (whoP (A 11) P ^^^ (-1)) = 0
          rotate_left
          · refine ⟨-1000000003, HH w s l A B, w, s, l, upA A 38 R', B, cpre _ _ ?_, mpre _ _ ?_, hJn⟩
            · repeat (first | refine ev_gos 99 rfl ?_ | refine ev_gf2 rfl rfl rfl rfl ?_ | refine ev_gf2 rfl rfl HH_land rfl ?_ | refine ev_gf2 rfl rfl HH_draft rfl ?_ | refine ev_gf2 rfl rfl (by with_reducible assumption) rfl ?_)
              refine ev_iff rfl rfl rfl (d_lt (nI_nlt (a := m) (b := 1) (by omega) (by omega))) ?_
              repeat (first | refine ev_gos 99 rfl ?_ | refine ev_gf2 rfl rfl rfl rfl ?_ | refine ev_gf2 rfl rfl HH_land rfl ?_ | refine ev_gf2 rfl rfl HH_draft rfl ?_ | refine ev_gf2 rfl rfl (by with_reducible assumption) rfl ?_)
              refine ev_iff rfl rfl rfl (d_gt (nI_nlt (a := 5) (b := m) (by omega) (by decide))) ?_
              repeat (first | refine ev_gos 99 rfl ?_ | refine ev_gf2 rfl rfl rfl rfl ?_ | refine ev_gf2 rfl rfl HH_land rfl ?_ | refine ev_gf2 rfl rfl HH_draft rfl ?_ | refine ev_gf2 rfl rfl (by with_reducible assumption) rfl ?_)
              refine ev_cv rfl rfl rfl (e_whoLies hN.2.2.1 hP7) ?_
              repeat (first | refine ev_gos 99 rfl ?_ | refine ev_gf2 rfl rfl rfl rfl ?_ | refine ev_gf2 rfl rfl HH_land rfl ?_ | refine ev_gf2 rfl rfl HH_draft rfl ?_ | refine ev_gf2 rfl rfl (by with_reducible assumption) rfl ?_)
              refine ev_iff rfl rfl rfl (j_eq hw) ?_
              repeat (first | refine ev_gos 99 rfl ?_ | refine ev_gf2 rfl rfl rfl rfl ?_ | refine ev_gf2 rfl rfl HH_land rfl ?_ | refine ev_gf2 rfl rfl HH_draft rfl ?_ | refine ev_gf2 rfl rfl (by with_reducible assumption) rfl ?_)
              exact ev_ri rfl rfl rfl
            · repeat (first | refine ev_gos 99 rfl ?_ | refine ev_gf2 rfl rfl rfl rfl ?_ | refine ev_gf2 rfl rfl HH_land rfl ?_ | refine ev_gf2 rfl rfl HH_draft rfl ?_ | refine ev_gf2 rfl rfl (by with_reducible assumption) rfl ?_)
              refine ev_cs rfl rfl rfl (e_inB (nI m) 1 5 rfl (by decide) (by decide)) ?_
              rw [hgood]
              (first | refine ev_ift rfl rfl rfl rfl ?_ | refine ev_iff rfl rfl rfl rfl ?_)
              repeat (first | refine ev_gos 99 rfl ?_ | refine ev_gf2 rfl rfl rfl rfl ?_ | refine ev_gf2 rfl rfl HH_land rfl ?_ | refine ev_gf2 rfl rfl HH_draft rfl ?_ | refine ev_gf2 rfl rfl (by with_reducible assumption) rfl ?_)
              refine ev_cv rfl rfl rfl (e_mwho (A := upA A 38 R') hM) ?_
              refine (?_ : Ek sc _ m_M_round 106 _ (.int (whoP (atM (A 29)) P) :: _) _ _ _ _ _)
              rw [hwho]
              repeat (first | refine ev_gos 99 rfl ?_ | refine ev_gf2 rfl rfl rfl rfl ?_ | refine ev_gf2 rfl rfl HH_land rfl ?_ | refine ev_gf2 rfl rfl HH_draft rfl ?_ | refine ev_gf2 rfl rfl (by with_reducible assumption) rfl ?_)
              refine ev_iff rfl rfl rfl (j_eq hw) ?_
              repeat (first | refine ev_gos 99 rfl ?_ | refine ev_gf2 rfl rfl rfl rfl ?_ | refine ev_gf2 rfl rfl HH_land rfl ?_ | refine ev_gf2 rfl rfl HH_draft rfl ?_ | refine ev_gf2 rfl rfl (by with_reducible assumption) rfl ?_)
              exact ev_ri rfl rfl rfl
          · have hal : ∀ p, p < P → Nat.testBit t p = true → ¬ A 11 p = -1 := fun p hp hb2 => by
              have e := sub32 hw (i := p) (by omega) (by rw [b32_nI (by omega)]; exact hb2)
              exact (who_b32 (A 11) P hP7 p (by omega) e).2
            have hm7 : cntB (Nat.testBit t) 7 = m := hcc.trans hmm
            obtain ⟨rs, o1, o2, o3, o4⟩ := okO_t (okR_t ht (by omega) (by omega))
            have hpl : ∀ p, plA A p < 49 := fun p => Nat.mod_lt _ (by decide)
            have hat : ∀ p, p < P → Nat.testBit t p = true → A 29 (49 + p) = nI (plA A p) := fun p hp hb2 => by
              rw [show A 29 (49 + p) = A 11 p from h.aM (by omega)]
              rcases hS.lf p (by omega) with e | ⟨v, v1, v2⟩
              · exact absurd e (hal p hp hb2)
              · unfold plA
                rw [v2, nI_clamp (by omega), Nat.mod_eq_of_lt (by omega)]
            have hRW : RW R' (srL t 7) := by
              have e : srL t 7 = srL t P := by
                have key : ∀ n, srL t (P + n) = srL t P := by
                  intro n
                  induction n with
                  | zero => rfl
                  | succ n ih =>
                    show srL t (P + n) ++ (bif Nat.testBit t (P + n) then [P + n] else []) = _
                    rw [hhi (P + n) (by omega), ih]
                    exact List.append_nil _
                have := key (7 - P)
                rw [show P + (7 - P) = 7 by omega] at this
                exact this
              rw [e]
              exact r1
            obtain ⟨R2, hmo⟩ := e_rd_out (sc := sc) (d := d + 11) (w := w) (s := s) (l := l) (A := A) (B := B) hM (by omega) hm.1 hm.2 hpl (c0 := q) (by omega) (nI t) (nI j) rs (srL t 7) R' (100000000, 0) hRW o2 (fun M hM2 => ⟨(o4 M hM2).1.trans hm7, fun p hp => by
              obtain ⟨b1, b2⟩ := (o4 M hM2).2 p hp
              have hpP : p < P := by
                by_cases e : p < P
                · exact e
                · rw [hhi p (by omega)] at b1
                  cases b1
              exact ⟨b2, hat p hpP b1⟩⟩) (Nat.le_refl _)
            have hmin := md_min (dist W) (plA A) q (srL t 7 :: rs) (100000000, 0) (by decide) o3
            have hsr := srN_min (dist W) (plA A) 1000000 m q t ht hm7
            rw [← srN_7 hP7 m q t ht hhi, ← hm7, o1, hm7] at hsr
            obtain ⟨u, hu1, hu2⟩ := omin_cons (valL (dist W) (plA A) 1000000 q (srL t 7)) (rs.map (valL (dist W) (plA A) 1000000 q))
            rw [List.map_cons, hu1] at hsr
            rw [List.map_cons, hu1] at hmin
            have hul : u < 100000000 * 1000000 := by
              have s1 := sum_le (W := W) hpl (srL t 7) q (by omega)
              have s2 : (srL t 7).length ≤ 5 := by rw [srL_len]; omega
              have s3 : figL 0 (srL t 7) < 1000000 := Nat.le_of_ble_eq_true (andE (andE o3).2).1
              unfold valL at hu2
              omega
            have hval : (omrg (some (((100000000, 0) : Nat × Nat).1 * 1000000 + ((100000000, 0) : Nat × Nat).2)) (some u)).getD 0 = u := by
              show (if u < 100000000 * 1000000 + 0 then u else 100000000 * 1000000 + 0) = u
              rw [if_pos (by omega)]
            rw [hval] at hmin
            generalize (srL t 7 :: rs).foldl (mdF (dist W) (plA A) q) (100000000, 0) = res at hmo hmin
            obtain ⟨n1, n2⟩ := hmin
            have hround := e_round (sc := sc) (d := d + (10 - m)) (w := w) (s := s) (l := l) (A := A) (B := B) hN (by omega) hS.lf (K := 1000000) rfl m q t hm.2 (by omega) ht hmm hal
            rw [hsr, show d + (10 - m) + m + 1 = d + 11 by omega] at hround
            refine ⟨if nI j = 0 then nI res.1 else nI res.2, HH w s l A B, w, s, l, upA A 38 R2, B, cpre _ _ ?_, mpre _ _ ?_, ⟨W, H, P, fi, c, h⟩⟩
            · repeat (first | refine ev_gos 99 rfl ?_ | refine ev_gf2 rfl rfl rfl rfl ?_ | refine ev_gf2 rfl rfl HH_land rfl ?_ | refine ev_gf2 rfl rfl HH_draft rfl ?_ | refine ev_gf2 rfl rfl (by with_reducible assumption) rfl ?_)
              refine ev_iff rfl rfl rfl (d_lt (nI_nlt (a := m) (b := 1) (by omega) (by omega))) ?_
              repeat (first | refine ev_gos 99 rfl ?_ | refine ev_gf2 rfl rfl rfl rfl ?_ | refine ev_gf2 rfl rfl HH_land rfl ?_ | refine ev_gf2 rfl rfl HH_draft rfl ?_ | refine ev_gf2 rfl rfl (by with_reducible assumption) rfl ?_)
              refine ev_iff rfl rfl rfl (d_gt (nI_nlt (a := 5) (b := m) (by omega) (by decide))) ?_
              repeat (first | refine ev_gos 99 rfl ?_ | refine ev_gf2 rfl rfl rfl rfl ?_ | refine ev_gf2 rfl rfl HH_land rfl ?_ | refine ev_gf2 rfl rfl HH_draft rfl ?_ | refine ev_gf2 rfl rfl (by with_reducible assumption) rfl ?_)
              refine ev_cv rfl rfl rfl (e_whoLies hN.2.2.1 hP7) ?_
              repeat (first | refine ev_gos 99 rfl ?_ | refine ev_gf2 rfl rfl rfl rfl ?_ | refine ev_gf2 rfl rfl HH_land rfl ?_ | refine ev_gf2 rfl rfl HH_draft rfl ?_ | refine ev_gf2 rfl rfl (by with_reducible assumption) rfl ?_)
              refine ev_ift rfl rfl rfl (i_eq hw) ?_
              repeat (first | refine ev_gos 99 rfl ?_ | refine ev_gf2 rfl rfl rfl rfl ?_ | refine ev_gf2 rfl rfl HH_land rfl ?_ | refine ev_gf2 rfl rfl HH_draft rfl ?_ | refine ev_gf2 rfl rfl (by with_reducible assumption) rfl ?_)
              refine ev_cs rfl rfl rfl hround ?_
              repeat (first | refine ev_gos 99 rfl ?_ | refine ev_gf2 rfl rfl rfl rfl ?_ | refine ev_gf2 rfl rfl HH_land rfl ?_ | refine ev_gf2 rfl rfl HH_draft rfl ?_ | refine ev_gf2 rfl rfl (by with_reducible assumption) rfl ?_)
              have d1 : lN u / 1000000 = lN (u / 1000000) := pk_lDiv (b := 1000000) (by omega) (by decide) (by decide)
              have d2 : lN u - lN u / 1000000 * 1000000 = lN (u % 1000000) := pk_lRem (b := 1000000) (by omega) (by decide) (by decide)
              rcases (show j = 0 ∨ j = 1 by omega) with rfl | rfl
              · (first | refine ev_ift rfl rfl rfl rfl ?_ | refine ev_iff rfl rfl rfl rfl ?_)
                repeat (first | refine ev_gos 99 rfl ?_ | refine ev_gf2 rfl rfl rfl rfl ?_ | refine ev_gf2 rfl rfl HH_land rfl ?_ | refine ev_gf2 rfl rfl HH_draft rfl ?_ | refine ev_gf2 rfl rfl (by with_reducible assumption) rfl ?_)
                refine ev_ri rfl ?_ rfl
                show (lN u / 1000000).toInt32 = nI res.1
                rw [d1, lN_i, ← n2]
                congr 1
                omega
              · (first | refine ev_ift rfl rfl rfl rfl ?_ | refine ev_iff rfl rfl rfl rfl ?_)
                repeat (first | refine ev_gos 99 rfl ?_ | refine ev_gf2 rfl rfl rfl rfl ?_ | refine ev_gf2 rfl rfl HH_land rfl ?_ | refine ev_gf2 rfl rfl HH_draft rfl ?_ | refine ev_gf2 rfl rfl (by with_reducible assumption) rfl ?_)
                refine ev_ri rfl ?_ rfl
                show (lN u - lN u / 1000000 * 1000000).toInt32 = nI res.2
                rw [d2, lN_i, ← n2]
                congr 1
                omega
            · repeat (first | refine ev_gos 99 rfl ?_ | refine ev_gf2 rfl rfl rfl rfl ?_ | refine ev_gf2 rfl rfl HH_land rfl ?_ | refine ev_gf2 rfl rfl HH_draft rfl ?_ | refine ev_gf2 rfl rfl (by with_reducible assumption) rfl ?_)
              refine ev_cs rfl rfl rfl (e_inB (nI m) 1 5 rfl (by decide) (by decide)) ?_
              rw [hgood]
              (first | refine ev_ift rfl rfl rfl rfl ?_ | refine ev_iff rfl rfl rfl rfl ?_)
              repeat (first | refine ev_gos 99 rfl ?_ | refine ev_gf2 rfl rfl rfl rfl ?_ | refine ev_gf2 rfl rfl HH_land rfl ?_ | refine ev_gf2 rfl rfl HH_draft rfl ?_ | refine ev_gf2 rfl rfl (by with_reducible assumption) rfl ?_)
              refine ev_cv rfl rfl rfl (e_mwho (A := upA A 38 R') hM) ?_
              refine (?_ : Ek sc _ m_M_round 106 _ (.int (whoP (atM (A 29)) P) :: _) _ _ _ _ _)
              rw [hwho]
              repeat (first | refine ev_gos 99 rfl ?_ | refine ev_gf2 rfl rfl rfl rfl ?_ | refine ev_gf2 rfl rfl HH_land rfl ?_ | refine ev_gf2 rfl rfl HH_draft rfl ?_ | refine ev_gf2 rfl rfl (by with_reducible assumption) rfl ?_)
              refine ev_ift rfl rfl rfl (i_eq hw) ?_
              repeat (first | refine ev_gos 99 rfl ?_ | refine ev_gf2 rfl rfl rfl rfl ?_ | refine ev_gf2 rfl rfl HH_land rfl ?_ | refine ev_gf2 rfl rfl HH_draft rfl ?_ | refine ev_gf2 rfl rfl (by with_reducible assumption) rfl ?_)
              exact ev_wk2 hmo rfl (by repeat' (first | exact trivial | refine ⟨rfl, ?_⟩))
end RD2
