/-! both readers side by side: clauses -/
section CLB
variable {sc : Scr} {d : Nat} {w : Bool} {s : Nat → Int32} {l : Nat → Int64} {A : Nat → Nat → Int32} {B : Nat → Nat → Int64} {t : Nat → Int32} {n : Nat} {g f v x : Int32} {rd : Nat → Int32} {r : RS} {W H P R : Nat}
theorem m_person (hT : TT s A t n) (h : RR r rd W H P R) (hW : 2 ≤ W) (hH : 2 ≤ H) (h0 : r.1 1 = 0) (hm : r.1 2 = -1) {bz : Nat → Int64} (hz0 : r.2.2.2 = bz) {i : Nat} (hi : i < n) : ∃ (ok : Bool) (a b : Nat) (g' f' v' wr : Int32) (rd' : Nat → Int32), Ev sc (d + 4) m_M_readsPerson 0 (iniL 2 [.ref 26]) [] (HH w (zS s (nI (i + 1)) (nI i) g f v x) l (upA A 28 rd) B) (some (.int (b01 ok))) (HH w (zS s (nI a) (nI b) g' f' v' wr) l (upA A 28 rd') B) ∧ OUT n i bz (endR t n (psR t n (sR r 3 (nI (i + 1))) (i + 1)) (nE t n (i + 1))) ok a b wr rd' := by
  obtain ⟨a1, a2, a3, a4, a5, a6, a7, a8, a9, a10, a11, a12, a13, a14, a15⟩ := id h
  have hn : n ≤ 240 := hT.1
  by_cases hP : P = 7
  · refine ⟨false, i + 1, i, g, f, v, 3, rd, ?_, Or.inr ⟨rfl, 3, by decide, by decide, rfl, FL_en (by decide) (ps_bad (r := sR r 3 (nI (i + 1))) (i := i + 1) (by show ¬ r.1 21 < 7; rw [a3.1, hP]; decide) h0)⟩⟩
    repeat (first | refine ev_gos 99 rfl ?_ | refine ev_gf2 rfl rfl rfl rfl ?_ | refine ev_gf2 rfl rfl HH_land rfl ?_ | refine ev_gf2 rfl rfl HH_draft rfl ?_ | refine ev_gf2 rfl rfl (by with_reducible assumption) rfl ?_)
    refine ev_ix 2 rfl rfl rfl (by decide) (by decide) ?_
    rw [upA_at, a3.2, hP]
    repeat (first | refine ev_gos 99 rfl ?_ | refine ev_gf2 rfl rfl rfl rfl ?_ | refine ev_gf2 rfl rfl HH_land rfl ?_ | refine ev_gf2 rfl rfl HH_draft rfl ?_ | refine ev_gf2 rfl rfl (by with_reducible assumption) rfl ?_)
    (first | refine ev_ift rfl rfl rfl rfl ?_ | refine ev_iff rfl rfl rfl rfl ?_)
    repeat (first | refine ev_gos 99 rfl ?_ | refine ev_gf2 rfl rfl rfl rfl ?_ | refine ev_gf2 rfl rfl HH_land rfl ?_ | refine ev_gf2 rfl rfl HH_draft rfl ?_ | refine ev_gf2 rfl rfl (by with_reducible assumption) rfl ?_)
    refine ev_cv rfl rfl rfl (e_mfails 3) ?_
    exact ev_rz rfl (Or.inl rfl) rfl rfl
  · have hP7 : r.1 21 < 7 := by
      rw [a3.1]
      exact (nI_ltI (b := 7) (by omega) (by decide)).mpr (by omega)
    have hb1 := nE_b t (show i + 1 ≤ n by omega)
    have pre : ∀ (rr : Option Value) (h' : AHp), Ev sc (d + 4) m_M_readsPerson 35 [some (.ref 26), some (.int (nI P))] [.int 4, .int 0, .int (5 + nI P), .ref 26] (HH w (zS s (nI (i + 1)) (nI i) g f v x) l (upA A 28 (upd rd 2 (nI P + 1))) B) rr h' → Ev sc (d + 4) m_M_readsPerson 0 (iniL 2 [.ref 26]) [] (HH w (zS s (nI (i + 1)) (nI i) g f v x) l (upA A 28 rd) B) rr h' := by
      intro rr h' hh
      repeat (first | refine ev_gos 99 rfl ?_ | refine ev_gf2 rfl rfl rfl rfl ?_ | refine ev_gf2 rfl rfl HH_land rfl ?_ | refine ev_gf2 rfl rfl HH_draft rfl ?_ | refine ev_gf2 rfl rfl (by with_reducible assumption) rfl ?_)
      refine ev_ix 2 rfl rfl rfl (by decide) (by decide) ?_
      rw [upA_at, a3.2]
      repeat (first | refine ev_gos 99 rfl ?_ | refine ev_gf2 rfl rfl rfl rfl ?_ | refine ev_gf2 rfl rfl HH_land rfl ?_ | refine ev_gf2 rfl rfl HH_draft rfl ?_ | refine ev_gf2 rfl rfl (by with_reducible assumption) rfl ?_)
      refine ev_ift rfl rfl rfl (c_ne (show ¬ nI P = nI 7 from fun z => hP ((nI_eq (by omega) (by decide)).mp z))) ?_
      repeat (first | refine ev_gos 99 rfl ?_ | refine ev_gf2 rfl rfl rfl rfl ?_ | refine ev_gf2 rfl rfl HH_land rfl ?_ | refine ev_gf2 rfl rfl HH_draft rfl ?_ | refine ev_gf2 rfl rfl (by with_reducible assumption) rfl ?_)
      refine ev_ix 2 rfl rfl rfl (by decide) (by decide) ?_
      rw [upA_at, a3.2]
      repeat (first | refine ev_gos 99 rfl ?_ | refine ev_gf2 rfl rfl rfl rfl ?_ | refine ev_gf2 rfl rfl HH_land rfl ?_ | refine ev_gf2 rfl rfl HH_draft rfl ?_ | refine ev_gf2 rfl rfl (by with_reducible assumption) rfl ?_)
      refine iw_28 2 rfl rfl (by decide) ?_
      repeat (first | refine ev_gos 99 rfl ?_ | refine ev_gf2 rfl rfl rfl rfl ?_ | refine ev_gf2 rfl rfl HH_land rfl ?_ | refine ev_gf2 rfl rfl HH_draft rfl ?_ | refine ev_gf2 rfl rfl (by with_reducible assumption) rfl ?_)
      exact hh
    obtain ⟨n1, n2⟩ := e_mnum (sc := sc) (d := d + 1) (w := w) (s := s) (l := l) (A := A) (B := B) (b := nI i) (g := g) (f := f) (v := v) (x := x) (rd := upd rd 2 (nI P + 1)) hT (show i + 1 ≤ n by omega) (q := 5 + P) (by omega) (nI_add 5 P) 0 4
    by_cases hc : nmC t n (i + 1) 0 4 = 0
    · have n1 := n1 hc
      obtain ⟨e1, e2⟩ := e_mends (sc := sc) (d := d + 1) (w := w) (s := s) (l := l) (A := upA A 28 (upd (upd rd 2 (nI P + 1)) (5 + P) (nV t n (i + 1)))) (B := B) (b := nI (skN t n (i + 1))) (g := 48) (f := nI (nE t n (i + 1) - skN t n (i + 1))) (v := nV t n (i + 1)) (x := x) hT hb1.2
      have hok := ps_ok (t := t) (n := n) (r := sR r 3 (nI (i + 1))) (i := i + 1) hP7 h0 hc
      rw [hok]
      by_cases he : enC t n (nE t n (i + 1)) = 0
      · have hlt : skN t n (nE t n (i + 1)) + 1 ≤ n := by
          unfold enC at he
          by_cases q : skN t n (nE t n (i + 1)) < n ∧ t (skN t n (nE t n (i + 1))) = 59
          · omega
          · rw [if_neg q] at he
            cases he
        obtain ⟨k, _, k2, k3⟩ := rngN (a := 0) (b := 4) (by decide) (by decide) (nm_rng hc).1 (nm_rng hc).2
        have hadv : i < skN t n (nE t n (i + 1)) + 1 := by
          have q1 := skN_b t (show i + 1 ≤ n by omega)
          have q2 := skN_b t hb1.2
          omega
        rw [en_ok he]
        refine ⟨true, skN t n (nE t n (i + 1)) + 1, skN t n (nE t n (i + 1)), 59, nI (nE t n (nE t n (i + 1)) - skN t n (nE t n (i + 1))), nV t n (nE t n (i + 1)), x, upd (upd rd 2 (nI P + 1)) (5 + P) (nV t n (i + 1)), ?_, Or.inl ⟨rfl, h0, ⟨hm, hz0, hadv⟩, rfl, hlt, W, H, P + 1, R, ?_⟩⟩
        · refine pre _ _ ?_
          refine ev_cv rfl rfl rfl n1 ?_
          (first | refine ev_ift rfl rfl rfl rfl ?_ | refine ev_iff rfl rfl rfl rfl ?_)
          repeat (first | refine ev_gos 99 rfl ?_ | refine ev_gf2 rfl rfl rfl rfl ?_ | refine ev_gf2 rfl rfl HH_land rfl ?_ | refine ev_gf2 rfl rfl HH_draft rfl ?_ | refine ev_gf2 rfl rfl (by with_reducible assumption) rfl ?_)
          refine ev_cv rfl rfl rfl (e1 he) ?_
          (first | refine ev_ift rfl rfl rfl rfl ?_ | refine ev_iff rfl rfl rfl rfl ?_)
          repeat (first | refine ev_gos 99 rfl ?_ | refine ev_gf2 rfl rfl rfl rfl ?_ | refine ev_gf2 rfl rfl HH_land rfl ?_ | refine ev_gf2 rfl rfl HH_draft rfl ?_ | refine ev_gf2 rfl rfl (by with_reducible assumption) rfl ?_)
          exact ev_rz rfl (Or.inr rfl) rfl rfl
        · refine ⟨⟨a1.1, by rw [pk_un (by omega), pk_un (by omega)]; exact a1.2⟩, ⟨a2.1, by rw [pk_un (by omega), pk_un (by omega)]; exact a2.2⟩, ⟨by show r.1 21 + 1 = _; rw [a3.1, nI_1], by rw [pk_un (by omega), pk_us, nI_1]⟩, by rw [pk_un (by omega), pk_un (by omega)]; exact a4, a5, a6, by omega, a8, Or.inr ⟨hW, hH⟩, ?_, ?_, fun p hp => ?_, fun j hj => ?_, ?_, a15⟩
          · obtain ⟨k', q1, q2, q3⟩ := a10
            exact ⟨k', q1, q2, by rw [pk_un (by omega), pk_un (by omega)]; exact q3⟩
          · obtain ⟨b', q1, q2⟩ := a11
            exact ⟨b', q1, by rw [pk_un (by omega), pk_un (by omega)]; exact q2⟩
          · have ecl : (r.1 21).toNatClampNeg = P := by rw [a3.1, nI_clamp (by omega)]
            show ∃ k, k < 5 ∧ upd r.2.2.1 (r.1 21).toNatClampNeg (nV t n (i + 1)) p = nI k ∧ _
            rw [ecl]
            by_cases ep : p = P
            · subst ep
              exact ⟨k, by omega, by rw [pk_us]; exact k3, by rw [pk_us]; exact k3⟩
            · obtain ⟨k', q1, q2, q3⟩ := a12 p (by omega)
              exact ⟨k', q1, by rw [pk_un ep]; exact q2, by rw [pk_un (by omega), pk_un (by omega)]; exact q3⟩
          · rw [pk_un (by omega), pk_un (by omega)]
            exact a13 j hj
          · exact a14.trans (setR_cong (fun j hj => by rw [pk_un (by omega), pk_un (by omega)])).symm
      · refine ⟨false, tkA t n (nE t n (i + 1)), skN t n (nE t n (i + 1)), tkS t n (nE t n (i + 1)), nI (nE t n (nE t n (i + 1)) - skN t n (nE t n (i + 1))), nV t n (nE t n (i + 1)), 1, upd (upd rd 2 (nI P + 1)) (5 + P) (nV t n (i + 1)), ?_, Or.inr ⟨rfl, 1, by decide, by decide, rfl, FL_en0 ?_ he⟩⟩
        · refine pre _ _ ?_
          refine ev_cv rfl rfl rfl n1 ?_
          (first | refine ev_ift rfl rfl rfl rfl ?_ | refine ev_iff rfl rfl rfl rfl ?_)
          repeat (first | refine ev_gos 99 rfl ?_ | refine ev_gf2 rfl rfl rfl rfl ?_ | refine ev_gf2 rfl rfl HH_land rfl ?_ | refine ev_gf2 rfl rfl HH_draft rfl ?_ | refine ev_gf2 rfl rfl (by with_reducible assumption) rfl ?_)
          refine ev_cv rfl rfl rfl (e2 he) ?_
          (first | refine ev_ift rfl rfl rfl rfl ?_ | refine ev_iff rfl rfl rfl rfl ?_)
          repeat (first | refine ev_gos 99 rfl ?_ | refine ev_gf2 rfl rfl rfl rfl ?_ | refine ev_gf2 rfl rfl HH_land rfl ?_ | refine ev_gf2 rfl rfl HH_draft rfl ?_ | refine ev_gf2 rfl rfl (by with_reducible assumption) rfl ?_)
          exact ev_rz rfl (Or.inl rfl) rfl rfl
        · exact h0
    · refine ⟨false, tkA t n (i + 1), skN t n (i + 1), tkS t n (i + 1), nI (nE t n (i + 1) - skN t n (i + 1)), nV t n (i + 1), nI (nmC t n (i + 1) 0 4), upd rd 2 (nI P + 1), ?_, Or.inr ⟨rfl, nmC t n (i + 1) 0 4, (nmC_r t n _ _ _ hc).1, (nmC_r t n _ _ _ hc).2, rfl, FL_en (nmC_3 t n _ _ _ hc) (ps_num (r := sR r 3 (nI (i + 1))) hP7 h0 hc)⟩⟩
      refine pre _ _ ?_
      refine ev_cv rfl rfl rfl (n2 hc) ?_
      (first | refine ev_ift rfl rfl rfl rfl ?_ | refine ev_iff rfl rfl rfl rfl ?_)
      repeat (first | refine ev_gos 99 rfl ?_ | refine ev_gf2 rfl rfl rfl rfl ?_ | refine ev_gf2 rfl rfl HH_land rfl ?_ | refine ev_gf2 rfl rfl HH_draft rfl ?_ | refine ev_gf2 rfl rfl (by with_reducible assumption) rfl ?_)
      exact ev_rz rfl (Or.inl rfl) rfl rfl
theorem m_wind (hT : TT s A t n) (h : RR r rd W H P R) (h0 : r.1 1 = 0) (hm : r.1 2 = -1) {bz : Nat → Int64} (hz0 : r.2.2.2 = bz) {i : Nat} (hi : i < n) : ∃ (ok : Bool) (a b : Nat) (g' f' v' wr : Int32) (rd' : Nat → Int32), Ev sc (d + 4) m_M_readsWind 0 (iniL 1 [.ref 26]) [] (HH w (zS s (nI (i + 1)) (nI i) g f v x) l (upA A 28 rd) B) (some (.int (b01 ok))) (HH w (zS s (nI a) (nI b) g' f' v' wr) l (upA A 28 rd') B) ∧ OUT n i bz (endR t n (wdR t n (sR r 3 (nI (i + 1))) (i + 1)) (nE t n (i + 1))) ok a b wr rd' := by
  obtain ⟨a1, a2, a3, a4, a5, a6, a7, a8, a9, a10, ⟨bb, b1, b2⟩, a12, a13, a14, a15⟩ := id h
  have hn : n ≤ 240 := hT.1
  cases bb with
  | true =>
    refine ⟨false, i + 1, i, g, f, v, 3, rd, ?_, Or.inr ⟨rfl, 3, by decide, by decide, rfl, FL_en (by decide) (wd_bad (r := sR r 3 (nI (i + 1))) (i := i + 1) (by show ¬ r.1 5 = 0; rw [b1]; decide) h0)⟩⟩
    repeat (first | refine ev_gos 99 rfl ?_ | refine ev_gf2 rfl rfl rfl rfl ?_ | refine ev_gf2 rfl rfl HH_land rfl ?_ | refine ev_gf2 rfl rfl HH_draft rfl ?_ | refine ev_gf2 rfl rfl (by with_reducible assumption) rfl ?_)
    refine ev_ix 20 rfl rfl rfl (by decide) (by decide) ?_
    rw [upA_at, b2]
    (first | refine ev_ift rfl rfl rfl rfl ?_ | refine ev_iff rfl rfl rfl rfl ?_)
    repeat (first | refine ev_gos 99 rfl ?_ | refine ev_gf2 rfl rfl rfl rfl ?_ | refine ev_gf2 rfl rfl HH_land rfl ?_ | refine ev_gf2 rfl rfl HH_draft rfl ?_ | refine ev_gf2 rfl rfl (by with_reducible assumption) rfl ?_)
    refine ev_cv rfl rfl rfl (e_mfails 3) ?_
    exact ev_rz rfl (Or.inl rfl) rfl rfl
  | false =>
    have h5 : r.1 5 = 0 := b1
    have hb1 := nE_b t (show i + 1 ≤ n by omega)
    have pre : ∀ (rr : Option Value) (h' : AHp), Ev sc (d + 4) m_M_readsWind 28 [some (.ref 26)] [.int 4, .int 0, .int 4, .ref 26] (HH w (zS s (nI (i + 1)) (nI i) g f v x) l (upA A 28 (upd rd 20 1)) B) rr h' → Ev sc (d + 4) m_M_readsWind 0 (iniL 1 [.ref 26]) [] (HH w (zS s (nI (i + 1)) (nI i) g f v x) l (upA A 28 rd) B) rr h' := by
      intro rr h' hh
      repeat (first | refine ev_gos 99 rfl ?_ | refine ev_gf2 rfl rfl rfl rfl ?_ | refine ev_gf2 rfl rfl HH_land rfl ?_ | refine ev_gf2 rfl rfl HH_draft rfl ?_ | refine ev_gf2 rfl rfl (by with_reducible assumption) rfl ?_)
      refine ev_ix 20 rfl rfl rfl (by decide) (by decide) ?_
      rw [upA_at, b2]
      (first | refine ev_ift rfl rfl rfl rfl ?_ | refine ev_iff rfl rfl rfl rfl ?_)
      repeat (first | refine ev_gos 99 rfl ?_ | refine ev_gf2 rfl rfl rfl rfl ?_ | refine ev_gf2 rfl rfl HH_land rfl ?_ | refine ev_gf2 rfl rfl HH_draft rfl ?_ | refine ev_gf2 rfl rfl (by with_reducible assumption) rfl ?_)
      refine iw_28 20 rfl rfl (by decide) ?_
      repeat (first | refine ev_gos 99 rfl ?_ | refine ev_gf2 rfl rfl rfl rfl ?_ | refine ev_gf2 rfl rfl HH_land rfl ?_ | refine ev_gf2 rfl rfl HH_draft rfl ?_ | refine ev_gf2 rfl rfl (by with_reducible assumption) rfl ?_)
      exact hh
    obtain ⟨n1, n2⟩ := e_mnum (sc := sc) (d := d + 1) (w := w) (s := s) (l := l) (A := A) (B := B) (b := nI i) (g := g) (f := f) (v := v) (x := x) (rd := upd rd 20 1) hT (show i + 1 ≤ n by omega) (q := 4) (pq := 4) (by omega) rfl 0 4
    by_cases hc : nmC t n (i + 1) 0 4 = 0
    · have n1 := n1 hc
      obtain ⟨e1, e2⟩ := e_mends (sc := sc) (d := d + 1) (w := w) (s := s) (l := l) (A := upA A 28 (upd (upd rd 20 1) 4 (nV t n (i + 1)))) (B := B) (b := nI (skN t n (i + 1))) (g := 48) (f := nI (nE t n (i + 1) - skN t n (i + 1))) (v := nV t n (i + 1)) (x := x) hT hb1.2
      have hok := wd_ok (t := t) (n := n) (r := sR r 3 (nI (i + 1))) (i := i + 1) h5 h0 hc
      rw [hok]
      by_cases he : enC t n (nE t n (i + 1)) = 0
      · have hlt : skN t n (nE t n (i + 1)) + 1 ≤ n := by
          unfold enC at he
          by_cases q : skN t n (nE t n (i + 1)) < n ∧ t (skN t n (nE t n (i + 1))) = 59
          · omega
          · rw [if_neg q] at he
            cases he
        obtain ⟨k, _, k2, k3⟩ := rngN (a := 0) (b := 4) (by decide) (by decide) (nm_rng hc).1 (nm_rng hc).2
        have hadv : i < skN t n (nE t n (i + 1)) + 1 := by
          have q1 := skN_b t (show i + 1 ≤ n by omega)
          have q2 := skN_b t hb1.2
          omega
        rw [en_ok he]
        refine ⟨true, skN t n (nE t n (i + 1)) + 1, skN t n (nE t n (i + 1)), 59, nI (nE t n (nE t n (i + 1)) - skN t n (nE t n (i + 1))), nV t n (nE t n (i + 1)), x, upd (upd rd 20 1) 4 (nV t n (i + 1)), ?_, Or.inl ⟨rfl, h0, ⟨hm, hz0, hadv⟩, rfl, hlt, W, H, P, R, ?_⟩⟩
        · refine pre _ _ ?_
          refine ev_cv rfl rfl rfl n1 ?_
          (first | refine ev_ift rfl rfl rfl rfl ?_ | refine ev_iff rfl rfl rfl rfl ?_)
          repeat (first | refine ev_gos 99 rfl ?_ | refine ev_gf2 rfl rfl rfl rfl ?_ | refine ev_gf2 rfl rfl HH_land rfl ?_ | refine ev_gf2 rfl rfl HH_draft rfl ?_ | refine ev_gf2 rfl rfl (by with_reducible assumption) rfl ?_)
          refine ev_cv rfl rfl rfl (e1 he) ?_
          (first | refine ev_ift rfl rfl rfl rfl ?_ | refine ev_iff rfl rfl rfl rfl ?_)
          repeat (first | refine ev_gos 99 rfl ?_ | refine ev_gf2 rfl rfl rfl rfl ?_ | refine ev_gf2 rfl rfl HH_land rfl ?_ | refine ev_gf2 rfl rfl HH_draft rfl ?_ | refine ev_gf2 rfl rfl (by with_reducible assumption) rfl ?_)
          exact ev_rz rfl (Or.inr rfl) rfl rfl
        · refine ⟨⟨a1.1, by rw [pk_un (by omega), pk_un (by omega)]; exact a1.2⟩, ⟨a2.1, by rw [pk_un (by omega), pk_un (by omega)]; exact a2.2⟩, ⟨a3.1, by rw [pk_un (by omega), pk_un (by omega)]; exact a3.2⟩, by rw [pk_un (by omega), pk_un (by omega)]; exact a4, a5, a6, a7, a8, a9, ⟨k, k2, k3, by rw [pk_us]; exact k3⟩, ⟨true, rfl, by rw [pk_un (by omega), pk_us]; rfl⟩, fun p hp => ?_, fun j hj => ?_, ?_, a15⟩
          · obtain ⟨k', q1, q2, q3⟩ := a12 p hp
            exact ⟨k', q1, q2, by rw [pk_un (by omega), pk_un (by omega)]; exact q3⟩
          · rw [pk_un (by omega), pk_un (by omega)]
            exact a13 j hj
          · exact a14.trans (setR_cong (fun j hj => by rw [pk_un (by omega), pk_un (by omega)])).symm
      · refine ⟨false, tkA t n (nE t n (i + 1)), skN t n (nE t n (i + 1)), tkS t n (nE t n (i + 1)), nI (nE t n (nE t n (i + 1)) - skN t n (nE t n (i + 1))), nV t n (nE t n (i + 1)), 1, upd (upd rd 20 1) 4 (nV t n (i + 1)), ?_, Or.inr ⟨rfl, 1, by decide, by decide, rfl, FL_en0 ?_ he⟩⟩
        · refine pre _ _ ?_
          refine ev_cv rfl rfl rfl n1 ?_
          (first | refine ev_ift rfl rfl rfl rfl ?_ | refine ev_iff rfl rfl rfl rfl ?_)
          repeat (first | refine ev_gos 99 rfl ?_ | refine ev_gf2 rfl rfl rfl rfl ?_ | refine ev_gf2 rfl rfl HH_land rfl ?_ | refine ev_gf2 rfl rfl HH_draft rfl ?_ | refine ev_gf2 rfl rfl (by with_reducible assumption) rfl ?_)
          refine ev_cv rfl rfl rfl (e2 he) ?_
          (first | refine ev_ift rfl rfl rfl rfl ?_ | refine ev_iff rfl rfl rfl rfl ?_)
          repeat (first | refine ev_gos 99 rfl ?_ | refine ev_gf2 rfl rfl rfl rfl ?_ | refine ev_gf2 rfl rfl HH_land rfl ?_ | refine ev_gf2 rfl rfl HH_draft rfl ?_ | refine ev_gf2 rfl rfl (by with_reducible assumption) rfl ?_)
          exact ev_rz rfl (Or.inl rfl) rfl rfl
        · exact h0
    · refine ⟨false, tkA t n (i + 1), skN t n (i + 1), tkS t n (i + 1), nI (nE t n (i + 1) - skN t n (i + 1)), nV t n (i + 1), nI (nmC t n (i + 1) 0 4), upd rd 20 1, ?_, Or.inr ⟨rfl, nmC t n (i + 1) 0 4, (nmC_r t n _ _ _ hc).1, (nmC_r t n _ _ _ hc).2, rfl, FL_en (nmC_3 t n _ _ _ hc) (wd_num (r := sR r 3 (nI (i + 1))) h5 h0 hc)⟩⟩
      refine pre _ _ ?_
      refine ev_cv rfl rfl rfl (n2 hc) ?_
      (first | refine ev_ift rfl rfl rfl rfl ?_ | refine ev_iff rfl rfl rfl rfl ?_)
      repeat (first | refine ev_gos 99 rfl ?_ | refine ev_gf2 rfl rfl rfl rfl ?_ | refine ev_gf2 rfl rfl HH_land rfl ?_ | refine ev_gf2 rfl rfl HH_draft rfl ?_ | refine ev_gf2 rfl rfl (by with_reducible assumption) rfl ?_)
      exact ev_rz rfl (Or.inl rfl) rfl rfl
end CLB
