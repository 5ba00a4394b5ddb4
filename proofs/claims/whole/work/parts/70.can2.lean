/-! both sides: where one can lie, the call -/
theorem in3_out {y : Int32} {b : Nat} (hb : b < 2 ^ 31) {hi : Int} (e : hi = (b : Int)) (o : y.toInt < 0 ∨ hi < y.toInt) : in3 y 0 (nI b) = false := by
  unfold in3
  rcases o with o | o
  · rw [decide_eq_false (p := (0 : Int32) ≤ y) (by rw [Int32.le_iff_toInt_le]; show ¬ (0 : Int) ≤ _; omega), Bool.false_and]
  · rw [decide_eq_false (p := y ≤ nI b) (by rw [Int32.le_iff_toInt_le, nI_toInt hb]; omega), Bool.and_false]
section CA2
variable {sc : Scr} {d : Nat} {w : Bool} {s : Nat → Int32} {l : Nat → Int64} {A : Nat → Nat → Int32} {B : Nat → Nat → Int64} {W H P fi c : Nat}
theorem b_canLie (h : INV s l A B W H P fi c) (x y : Int32) : Both sc (d + 12) m_C_canLie 3 m_M_canLie 11 [.int x, .int y] w s l A B := by
  obtain ⟨hN, hM, hR, hK, hS, hD, hX, hI, hT, hF, hO, hB⟩ := id h
  have h49 := hN.n49
  have hP7 := h.p7
  cases hb : inR x P with
  | false =>
    refine ⟨-1000000001, HH w s l A B, w, s, l, A, B, ?_, ?_, ⟨W, H, P, fi, c, h⟩⟩
    · repeat (first | refine ev_gos 99 rfl ?_ | refine ev_gf2 rfl rfl rfl rfl ?_ | refine ev_gf2 rfl rfl HH_land rfl ?_ | refine ev_gf2 rfl rfl HH_draft rfl ?_ | refine ev_gf2 rfl rfl (by with_reducible assumption) rfl ?_)
      refine ev_cv rfl rfl rfl (e_isPerson hN.2.2.1 x) ?_
      rw [hb]
      (first | refine ev_ift rfl rfl rfl rfl ?_ | refine ev_iff rfl rfl rfl rfl ?_)
      repeat (first | refine ev_gos 99 rfl ?_ | refine ev_gf2 rfl rfl rfl rfl ?_ | refine ev_gf2 rfl rfl HH_land rfl ?_ | refine ev_gf2 rfl rfl HH_draft rfl ?_ | refine ev_gf2 rfl rfl (by with_reducible assumption) rfl ?_)
      exact ev_ri rfl rfl rfl
    · repeat (first | refine ev_gos 99 rfl ?_ | refine ev_gf2 rfl rfl rfl rfl ?_ | refine ev_gf2 rfl rfl HH_land rfl ?_ | refine ev_gf2 rfl rfl HH_draft rfl ?_ | refine ev_gf2 rfl rfl (by with_reducible assumption) rfl ?_)
      refine ev_cv rfl rfl rfl (e_misPerson hM x) ?_
      rw [hb]
      (first | refine ev_ift rfl rfl rfl rfl ?_ | refine ev_iff rfl rfl rfl rfl ?_)
      repeat (first | refine ev_gos 99 rfl ?_ | refine ev_gf2 rfl rfl rfl rfl ?_ | refine ev_gf2 rfl rfl HH_land rfl ?_ | refine ev_gf2 rfl rfl HH_draft rfl ?_ | refine ev_gf2 rfl rfl (by with_reducible assumption) rfl ?_)
      exact ev_ri rfl rfl rfl
  | true =>
    obtain ⟨p, p1, p2⟩ := inR_of (by omega) hb
    subst p2
    rcases sw_rng (y := y) (b := 3) (by decide) (hi := 3) rfl with o | ⟨j, j1, j2⟩
    · refine ⟨-1000000002, HH w s l A B, w, s, l, A, B, ?_, ?_, ⟨W, H, P, fi, c, h⟩⟩
      · repeat (first | refine ev_gos 99 rfl ?_ | refine ev_gf2 rfl rfl rfl rfl ?_ | refine ev_gf2 rfl rfl HH_land rfl ?_ | refine ev_gf2 rfl rfl HH_draft rfl ?_ | refine ev_gf2 rfl rfl (by with_reducible assumption) rfl ?_)
        refine ev_cv rfl rfl rfl (e_isPerson hN.2.2.1 _) ?_
        rw [hb]
        (first | refine ev_ift rfl rfl rfl rfl ?_ | refine ev_iff rfl rfl rfl rfl ?_)
        repeat (first | refine ev_gos 99 rfl ?_ | refine ev_gf2 rfl rfl rfl rfl ?_ | refine ev_gf2 rfl rfl HH_land rfl ?_ | refine ev_gf2 rfl rfl HH_draft rfl ?_ | refine ev_gf2 rfl rfl (by with_reducible assumption) rfl ?_)
        refine ev_sw rfl rfl (sw_out o) ?_
        repeat (first | refine ev_gos 99 rfl ?_ | refine ev_gf2 rfl rfl rfl rfl ?_ | refine ev_gf2 rfl rfl HH_land rfl ?_ | refine ev_gf2 rfl rfl HH_draft rfl ?_ | refine ev_gf2 rfl rfl (by with_reducible assumption) rfl ?_)
        exact ev_ri rfl rfl rfl
      · repeat (first | refine ev_gos 99 rfl ?_ | refine ev_gf2 rfl rfl rfl rfl ?_ | refine ev_gf2 rfl rfl HH_land rfl ?_ | refine ev_gf2 rfl rfl HH_draft rfl ?_ | refine ev_gf2 rfl rfl (by with_reducible assumption) rfl ?_)
        refine ev_cv rfl rfl rfl (e_misPerson hM _) ?_
        rw [hb]
        (first | refine ev_ift rfl rfl rfl rfl ?_ | refine ev_iff rfl rfl rfl rfl ?_)
        repeat (first | refine ev_gos 99 rfl ?_ | refine ev_gf2 rfl rfl rfl rfl ?_ | refine ev_gf2 rfl rfl HH_land rfl ?_ | refine ev_gf2 rfl rfl HH_draft rfl ?_ | refine ev_gf2 rfl rfl (by with_reducible assumption) rfl ?_)
        refine ev_cs rfl rfl rfl (e_inB y 0 (nI 3) rfl (by decide) (by decide)) ?_
        rw [in3_out (by decide) rfl o]
        (first | refine ev_ift rfl rfl rfl rfl ?_ | refine ev_iff rfl rfl rfl rfl ?_)
        repeat (first | refine ev_gos 99 rfl ?_ | refine ev_gf2 rfl rfl rfl rfl ?_ | refine ev_gf2 rfl rfl HH_land rfl ?_ | refine ev_gf2 rfl rfl HH_draft rfl ?_ | refine ev_gf2 rfl rfl (by with_reducible assumption) rfl ?_)
        exact ev_ri rfl rfl rfl
    · subst j2
      obtain ⟨k, k1, k2, k3⟩ := h.kd p1
      have hmay : ∀ c, c < W * H → bs (rmS (B 5) (A 10) k (W * H)) c = mayB W H (l 3) (A 29) k c := fun c hc => room_eq hN (hS.dnE h49 (by decide)) k1 hc
      have hcnt : ∀ c, c < W * H → mayB W H (l 3) (A 29) k c = true → cntS W (W * H) (dnS (A 10) 3 49 ||| B 5 (k * 49 + c)) = (fun c => cntS W (W * H) (dnS (A 29) 3 (W * H) ||| shpM W H k c)) c := fun c hc hm => by
        obtain ⟨m1, m2, m3⟩ := may_t hm
        show _ = cntS W (W * H) (dnS (A 29) 3 (W * H) ||| shpM W H k c)
        rw [sh_eq hN k1 hc, if_pos m2, hS.dnE h49 (by decide)]
      have hle : ∀ c, (fun c => cntS W (W * H) (dnS (A 29) 3 (W * H) ||| shpM W H k c)) c ≤ 4000 := fun c => cnt_le W (W * H) _
      obtain ⟨g', hm⟩ := e_mcan_loop (sc := sc) (d := d + 6) (w := w) (s := s) (l := l) (A := A) (B := B) hM p1 k1 k3 (nI j) (may := mayB W H (l 3) (A 29) k) (cnt := fun c => cntS W (W * H) (dnS (A 29) 3 (W * H) ||| shpM W H k c)) (fun _ _ => rfl) (fun _ _ => rfl) (W * H) 0 (A 30) (Nat.zero_add _)
      rw [upA_id] at hm
      have hpop : pop (rmS (B 5) (A 10) k (W * H)) = (fo (clF (mayB W H (l 3) (A 29) k) (fun c => cntS W (W * H) (dnS (A 29) 3 (W * H) ||| shpM W H k c))) (W * H) cl0).1 := by
        rw [cl_n, pop_cut (n := W * H) (by omega) (fun i hi h6 => by unfold rmS setP; rw [bs_mk _ h6, decide_eq_false (by omega), Bool.false_and])]
        exact fb_ct_cong hmay
      have hfst := cl_first (mayB W H (l 3) (A 29) k) (fun c => cntS W (W * H) (dnS (A 29) 3 (W * H) ||| shpM W H k c)) (W * H) h49
      have hup := br_up (W := W) h49 hmay hcnt hle (W * H) (Nat.le_refl _)
      have hdn := br_dn (W := W) h49 hmay hcnt hle (W * H) (Nat.le_refl _)
      have hmod : ∀ v, clV (nI j) (fo (clF (mayB W H (l 3) (A 29) k) (fun c => cntS W (W * H) (dnS (A 29) 3 (W * H) ||| shpM W H k c))) (W * H) cl0) = v → Ev sc (d + 12) m_M_canLie 0 (iniL 11 [.ref 26, .int (nI p), .int (nI j)]) [] (HH w s l A B) (some (.int v)) (HH w s l (upA A 30 g') B) := by
        intro v hv
        rw [hv] at hm
        repeat (first | refine ev_gos 99 rfl ?_ | refine ev_gf2 rfl rfl rfl rfl ?_ | refine ev_gf2 rfl rfl HH_land rfl ?_ | refine ev_gf2 rfl rfl HH_draft rfl ?_ | refine ev_gf2 rfl rfl (by with_reducible assumption) rfl ?_)
        refine ev_cv rfl rfl rfl (e_misPerson hM _) ?_
        rw [hb]
        (first | refine ev_ift rfl rfl rfl rfl ?_ | refine ev_iff rfl rfl rfl rfl ?_)
        repeat (first | refine ev_gos 99 rfl ?_ | refine ev_gf2 rfl rfl rfl rfl ?_ | refine ev_gf2 rfl rfl HH_land rfl ?_ | refine ev_gf2 rfl rfl HH_draft rfl ?_ | refine ev_gf2 rfl rfl (by with_reducible assumption) rfl ?_)
        refine ev_cs rfl rfl rfl (e_inB (nI j) 0 (nI 3) rfl (by decide) (by decide)) ?_
        have e3 : in3 (nI j) 0 (nI 3) = true := by
          rcases (show j = 0 ∨ j = 1 ∨ j = 2 ∨ j = 3 by omega) with rfl | rfl | rfl | rfl <;> decide
        rw [e3]
        (first | refine ev_ift rfl rfl rfl rfl ?_ | refine ev_iff rfl rfl rfl rfl ?_)
        repeat (first | refine ev_gos 99 rfl ?_ | refine ev_gf2 rfl rfl rfl rfl ?_ | refine ev_gf2 rfl rfl HH_land rfl ?_ | refine ev_gf2 rfl rfl HH_draft rfl ?_ | refine ev_gf2 rfl rfl (by with_reducible assumption) rfl ?_)
        exact hm
      generalize fo (clF (mayB W H (l 3) (A 29) k) (fun c => cntS W (W * H) (dnS (A 29) 3 (W * H) ||| shpM W H k c))) (W * H) cl0 = a at hm hpop hfst hup hdn hmod
      rcases (show j = 0 ∨ j = 1 ∨ j = 2 ∨ j = 3 by omega) with rfl | rfl | rfl | rfl
      · refine ⟨nI (pop (rmS (B 5) (A 10) k (W * H))), HH w s l A B, w, s, l, upA A 30 g', B, ?_, hmod _ (by rw [hpop]; rfl), ⟨W, H, P, fi, c, h⟩⟩
        repeat (first | refine ev_gos 99 rfl ?_ | refine ev_gf2 rfl rfl rfl rfl ?_ | refine ev_gf2 rfl rfl HH_land rfl ?_ | refine ev_gf2 rfl rfl HH_draft rfl ?_ | refine ev_gf2 rfl rfl (by with_reducible assumption) rfl ?_)
        refine ev_cv rfl rfl rfl (e_isPerson hN.2.2.1 _) ?_
        rw [hb]
        (first | refine ev_ift rfl rfl rfl rfl ?_ | refine ev_iff rfl rfl rfl rfl ?_)
        repeat (first | refine ev_gos 99 rfl ?_ | refine ev_gf2 rfl rfl rfl rfl ?_ | refine ev_gf2 rfl rfl HH_land rfl ?_ | refine ev_gf2 rfl rfl HH_draft rfl ?_ | refine ev_gf2 rfl rfl (by with_reducible assumption) rfl ?_)
        refine ev_sw rfl rfl (rfl : _ = some 44) ?_
        repeat (first | refine ev_gos 99 rfl ?_ | refine ev_gf2 rfl rfl rfl rfl ?_ | refine ev_gf2 rfl rfl HH_land rfl ?_ | refine ev_gf2 rfl rfl HH_draft rfl ?_ | refine ev_gf2 rfl rfl (by with_reducible assumption) rfl ?_)
        refine ev_cv rfl rfl rfl (e_roomFor hN (p := p) (by omega) k1 k2) ?_
        refine ev_cs rfl rfl rfl (e_bitCountL sc _ _ _) ?_
        exact ev_ri rfl rfl rfl
      · refine ⟨a.2.1, HH w s l A B, w, s, l, upA A 30 g', B, ?_, hmod _ rfl, ⟨W, H, P, fi, c, h⟩⟩
        repeat (first | refine ev_gos 99 rfl ?_ | refine ev_gf2 rfl rfl rfl rfl ?_ | refine ev_gf2 rfl rfl HH_land rfl ?_ | refine ev_gf2 rfl rfl HH_draft rfl ?_ | refine ev_gf2 rfl rfl (by with_reducible assumption) rfl ?_)
        refine ev_cv rfl rfl rfl (e_isPerson hN.2.2.1 _) ?_
        rw [hb]
        (first | refine ev_ift rfl rfl rfl rfl ?_ | refine ev_iff rfl rfl rfl rfl ?_)
        repeat (first | refine ev_gos 99 rfl ?_ | refine ev_gf2 rfl rfl rfl rfl ?_ | refine ev_gf2 rfl rfl HH_land rfl ?_ | refine ev_gf2 rfl rfl HH_draft rfl ?_ | refine ev_gf2 rfl rfl (by with_reducible assumption) rfl ?_)
        refine ev_sw rfl rfl (rfl : _ = some 53) ?_
        repeat (first | refine ev_gos 99 rfl ?_ | refine ev_gf2 rfl rfl rfl rfl ?_ | refine ev_gf2 rfl rfl HH_land rfl ?_ | refine ev_gf2 rfl rfl HH_draft rfl ?_ | refine ev_gf2 rfl rfl (by with_reducible assumption) rfl ?_)
        refine ev_cv rfl rfl rfl (e_roomFor hN (p := p) (by omega) k1 k2) ?_
        rcases hfst with ⟨f1, f2⟩ | ⟨q, q1, q2, q3, q4⟩
        · have e0 : rmS (B 5) (A 10) k (W * H) = 0 := bs_eq0.mpr (fun i hi => by
            by_cases z : i < W * H
            · rw [hmay i z]
              exact f1 i z
            · unfold rmS setP
              rw [bs_mk _ hi, decide_eq_false z, Bool.false_and])
          rw [e0]
          refine ev_cs rfl rfl rfl (e_leastOf0 sc _ _) ?_
          exact ev_ri rfl f2.symm rfl
        · have hbq : bs (rmS (B 5) (A 10) k (W * H)) q = true := (hmay q q1).trans q2
          have hne : ¬ rmS (B 5) (A 10) k (W * H) = 0 := fun z => by rw [z, bs_0] at hbq; cases hbq
          have hlo : lo (rmS (B 5) (A 10) k (W * H)) = q := lo_of (by omega) hbq (fun i hi => (hmay i (by omega)).trans (q3 i hi))
          refine ev_cs rfl rfl rfl (e_leastOf sc _ _ hne) ?_
          exact ev_ri rfl (by rw [hlo, q4]) rfl
      · refine ⟨a.2.2.1.1, HH w s l A B, w, s, l, upA A 30 g', B, ?_, hmod _ rfl, ⟨W, H, P, fi, c, h⟩⟩
        repeat (first | refine ev_gos 99 rfl ?_ | refine ev_gf2 rfl rfl rfl rfl ?_ | refine ev_gf2 rfl rfl HH_land rfl ?_ | refine ev_gf2 rfl rfl HH_draft rfl ?_ | refine ev_gf2 rfl rfl (by with_reducible assumption) rfl ?_)
        refine ev_cv rfl rfl rfl (e_isPerson hN.2.2.1 _) ?_
        rw [hb]
        (first | refine ev_ift rfl rfl rfl rfl ?_ | refine ev_iff rfl rfl rfl rfl ?_)
        repeat (first | refine ev_gos 99 rfl ?_ | refine ev_gf2 rfl rfl rfl rfl ?_ | refine ev_gf2 rfl rfl HH_land rfl ?_ | refine ev_gf2 rfl rfl HH_draft rfl ?_ | refine ev_gf2 rfl rfl (by with_reducible assumption) rfl ?_)
        refine ev_sw rfl rfl (rfl : _ = some 62) ?_
        repeat (first | refine ev_gos 99 rfl ?_ | refine ev_gf2 rfl rfl rfl rfl ?_ | refine ev_gf2 rfl rfl HH_land rfl ?_ | refine ev_gf2 rfl rfl HH_draft rfl ?_ | refine ev_gf2 rfl rfl (by with_reducible assumption) rfl ?_)
        refine ev_cv rfl rfl rfl (e_bestRoom hN (p := p) (by omega) k1 k2 1) ?_
        refine ev_ri rfl ?_ rfl
        rcases hup with ⟨f1, f2⟩ | ⟨q, v, q1, v1, f1, f2⟩
        · rw [f1, f2]
        · rw [f1, f2]
      · refine ⟨a.2.2.2.1, HH w s l A B, w, s, l, upA A 30 g', B, ?_, hmod _ rfl, ⟨W, H, P, fi, c, h⟩⟩
        repeat (first | refine ev_gos 99 rfl ?_ | refine ev_gf2 rfl rfl rfl rfl ?_ | refine ev_gf2 rfl rfl HH_land rfl ?_ | refine ev_gf2 rfl rfl HH_draft rfl ?_ | refine ev_gf2 rfl rfl (by with_reducible assumption) rfl ?_)
        refine ev_cv rfl rfl rfl (e_isPerson hN.2.2.1 _) ?_
        rw [hb]
        (first | refine ev_ift rfl rfl rfl rfl ?_ | refine ev_iff rfl rfl rfl rfl ?_)
        repeat (first | refine ev_gos 99 rfl ?_ | refine ev_gf2 rfl rfl rfl rfl ?_ | refine ev_gf2 rfl rfl HH_land rfl ?_ | refine ev_gf2 rfl rfl HH_draft rfl ?_ | refine ev_gf2 rfl rfl (by with_reducible assumption) rfl ?_)
        refine ev_sw rfl rfl (rfl : _ = some 69) ?_
        repeat (first | refine ev_gos 99 rfl ?_ | refine ev_gf2 rfl rfl rfl rfl ?_ | refine ev_gf2 rfl rfl HH_land rfl ?_ | refine ev_gf2 rfl rfl HH_draft rfl ?_ | refine ev_gf2 rfl rfl (by with_reducible assumption) rfl ?_)
        refine ev_cv rfl rfl rfl (e_bestRoom hN (p := p) (by omega) k1 k2 (-1)) ?_
        refine ev_ri rfl ?_ rfl
        rcases hdn with ⟨f1, f2⟩ | ⟨q, v, q1, v1, f1, f2⟩
        · rw [f1, f2]
        · rw [f1, f2]
end CA2
