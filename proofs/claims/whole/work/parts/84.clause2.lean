/-! both readers side by side: any clause -/
theorem sw_lk {d0 : Int} {ps : Array (Int × Int)} {pc : Nat} {x : Int32} {o : Int} (h : Op.lookupswitch.offset ps.toList d0 x.toInt = o) : swT (.lookupswitch d0 ps) pc x = some ((pc : Int) + o).toNat := by
  show some ((pc : Int) + Op.lookupswitch.offset ps.toList d0 x.toInt).toNat = _
  rw [h]
section CL4
variable {sc : Scr} {d : Nat} {w : Bool} {s : Nat → Int32} {l : Nat → Int64} {A : Nat → Nat → Int32} {B : Nat → Nat → Int64} {t : Nat → Int32} {n : Nat} {f v x : Int32} {rd : Nat → Int32} {r : RS} {W H P R : Nat}
theorem m_sides (hT : TT s A t n) (h : RR r rd W H P R) (h0 : r.1 1 = 0) (hm : r.1 2 = -1) {bz : Nat → Int64} (hz0 : r.2.2.2 = bz) {i : Nat} (hi : i < n) : ∃ (ok : Bool) (a b : Nat) (g' f' v' wr : Int32) (rd' : Nat → Int32), Ev sc (d + 5) m_M_readsClause 0 (iniL 1 [.ref 26]) [] (HH w (zS s (nI (i + 1)) (nI i) 110 f v x) l (upA A 28 rd) B) (some (.int (b01 ok))) (HH w (zS s (nI a) (nI b) g' f' v' wr) l (upA A 28 rd') B) ∧ OUT n i bz (endR t n (sdR t n (sR r 3 (nI (i + 1))) (i + 1)) (nE t n (nE t n (i + 1)))) ok a b wr rd' := by
  obtain ⟨a1, a2, a3, a4, a5, a6, a7, a8, a9, a10, a11, a12, a13, a14, a15⟩ := id h
  have hn : n ≤ 240 := hT.1
  by_cases hW : W = 0
  · have e19 : (sR r 3 (nI (i + 1))).1 19 = 0 := by show r.1 19 = 0; rw [a1.1, hW]; rfl
    have hb1 := nE_b t (show i + 1 ≤ n by omega)
    have hb2 := nE_b t hb1.2
    have hPR : P = 0 ∧ R = 0 := by
      rcases a9 with ⟨_, _, z1, z2⟩ | ⟨z, _⟩
      · exact ⟨z1, z2⟩
      · omega
    have pre : ∀ (rr : Option Value) (h' : AHp), Ev sc (d + 5) m_M_readsClause 31 [some (.ref 26)] [.int 7, .int 2, .int 0, .ref 26] (HH w (zS s (nI (i + 1)) (nI i) 110 f v x) l (upA A 28 rd) B) rr h' → Ev sc (d + 5) m_M_readsClause 0 (iniL 1 [.ref 26]) [] (HH w (zS s (nI (i + 1)) (nI i) 110 f v x) l (upA A 28 rd) B) rr h' := by
      intro rr h' hh
      repeat (first | refine ev_gos 99 rfl ?_ | refine ev_gf2 rfl rfl rfl rfl ?_ | refine ev_gf2 rfl rfl HH_land rfl ?_ | refine ev_gf2 rfl rfl HH_draft rfl ?_ | refine ev_gf2 rfl rfl (by with_reducible assumption) rfl ?_)
      (first | refine ev_ift rfl rfl rfl rfl ?_ | refine ev_iff rfl rfl rfl rfl ?_)
      repeat (first | refine ev_gos 99 rfl ?_ | refine ev_gf2 rfl rfl rfl rfl ?_ | refine ev_gf2 rfl rfl HH_land rfl ?_ | refine ev_gf2 rfl rfl HH_draft rfl ?_ | refine ev_gf2 rfl rfl (by with_reducible assumption) rfl ?_)
      refine ev_ix 0 rfl rfl rfl (by decide) (by decide) ?_
      rw [upA_at, a1.2, hW]
      (first | refine ev_ift rfl rfl rfl rfl ?_ | refine ev_iff rfl rfl rfl rfl ?_)
      repeat (first | refine ev_gos 99 rfl ?_ | refine ev_gf2 rfl rfl rfl rfl ?_ | refine ev_gf2 rfl rfl HH_land rfl ?_ | refine ev_gf2 rfl rfl HH_draft rfl ?_ | refine ev_gf2 rfl rfl (by with_reducible assumption) rfl ?_)
      exact hh
    obtain ⟨n1, n2⟩ := e_mnum (sc := sc) (d := d + 2) (w := w) (s := s) (l := l) (A := A) (B := B) (b := nI i) (g := 110) (f := f) (v := v) (x := x) (rd := rd) hT (show i + 1 ≤ n by omega) (q := 0) (pq := 0) (by omega) rfl 2 7
    by_cases hc : nmC t n (i + 1) 2 7 = 0
    · have n1 := n1 hc
      obtain ⟨x0, x1, x2, x3⟩ := rngN (a := 2) (b := 7) (by decide) (by decide) (nm_rng hc).1 (nm_rng hc).2
      obtain ⟨m1, m2⟩ := e_mnum (sc := sc) (d := d + 2) (w := w) (s := s) (l := l) (A := A) (B := B) (b := nI (skN t n (i + 1))) (g := 48) (f := nI (nE t n (i + 1) - skN t n (i + 1))) (v := nV t n (i + 1)) (x := x) (rd := upd rd 0 (nV t n (i + 1))) hT hb1.2 (q := 1) (pq := 1) (by omega) rfl 2 7
      by_cases hc2 : nmC t n (nE t n (i + 1)) 2 7 = 0
      · have m1 := m1 hc2
        obtain ⟨y0, y1, y2, y3⟩ := rngN (a := 2) (b := 7) (by decide) (by decide) (nm_rng hc2).1 (nm_rng hc2).2
        have hsd := sd_ok (t := t) (n := n) (r := sR r 3 (nI (i + 1))) (i := i + 1) e19 h0 hc hc2
        rw [x3, y3, nI_clamp (by omega), nI_clamp (by omega)] at hsd
        rw [hsd]
        obtain ⟨e1, e2⟩ := e_mends (sc := sc) (d := d + 2) (w := w) (s := s) (l := l) (A := upA A 28 (upd (upd rd 0 (nV t n (i + 1))) 1 (nV t n (nE t n (i + 1))))) (B := B) (b := nI (skN t n (nE t n (i + 1)))) (g := 48) (f := nI (nE t n (nE t n (i + 1)) - skN t n (nE t n (i + 1)))) (v := nV t n (nE t n (i + 1))) (x := x) hT hb2.2
        by_cases he : enC t n (nE t n (nE t n (i + 1))) = 0
        · have hlt : skN t n (nE t n (nE t n (i + 1))) + 1 ≤ n := by
            unfold enC at he
            by_cases q : skN t n (nE t n (nE t n (i + 1))) < n ∧ t (skN t n (nE t n (nE t n (i + 1)))) = 59
            · omega
            · rw [if_neg q] at he
              cases he
          have hadv : i < skN t n (nE t n (nE t n (i + 1))) + 1 := by
            have q1 := (skN_b t (show i + 1 ≤ n by omega)).1
            have q2 := (skN_b t hb2.2).1
            have q3 := hb1.1
            have q4 := (skN_b t hb1.2).1
            have q5 := hb2.1
            clear hc hc2 n1 m1 he hsd
            omega
          rw [en_ok he]
          refine ⟨true, skN t n (nE t n (nE t n (i + 1))) + 1, skN t n (nE t n (nE t n (i + 1))), 59, nI (nE t n (nE t n (nE t n (i + 1))) - skN t n (nE t n (nE t n (i + 1)))), nV t n (nE t n (nE t n (i + 1))), x, upd (upd rd 0 (nV t n (i + 1))) 1 (nV t n (nE t n (i + 1))), ?_, Or.inl ⟨rfl, h0, ⟨hm, hz0, hadv⟩, rfl, hlt, x0, y0, 0, 0, ?_⟩⟩
          · refine pre _ _ ?_
            refine ev_cv rfl rfl rfl n1 ?_
            (first | refine ev_ift rfl rfl rfl rfl ?_ | refine ev_iff rfl rfl rfl rfl ?_)
            repeat (first | refine ev_gos 99 rfl ?_ | refine ev_gf2 rfl rfl rfl rfl ?_ | refine ev_gf2 rfl rfl HH_land rfl ?_ | refine ev_gf2 rfl rfl HH_draft rfl ?_ | refine ev_gf2 rfl rfl (by with_reducible assumption) rfl ?_)
            refine ev_cv rfl rfl rfl m1 ?_
            (first | refine ev_ift rfl rfl rfl rfl ?_ | refine ev_iff rfl rfl rfl rfl ?_)
            repeat (first | refine ev_gos 99 rfl ?_ | refine ev_gf2 rfl rfl rfl rfl ?_ | refine ev_gf2 rfl rfl HH_land rfl ?_ | refine ev_gf2 rfl rfl HH_draft rfl ?_ | refine ev_gf2 rfl rfl (by with_reducible assumption) rfl ?_)
            refine ev_cv rfl rfl rfl (e1 he) ?_
            (first | refine ev_ift rfl rfl rfl rfl ?_ | refine ev_iff rfl rfl rfl rfl ?_)
            repeat (first | refine ev_gos 99 rfl ?_ | refine ev_gf2 rfl rfl rfl rfl ?_ | refine ev_gf2 rfl rfl HH_land rfl ?_ | refine ev_gf2 rfl rfl HH_draft rfl ?_ | refine ev_gf2 rfl rfl (by with_reducible assumption) rfl ?_)
            exact ev_rz rfl (Or.inr rfl) rfl rfl
          · refine ⟨⟨rfl, by rw [pk_un (by decide), pk_us]; exact x3⟩, ⟨rfl, by rw [pk_us]; exact y3⟩, ⟨by show r.1 21 = _; rw [a3.1, hPR.1], by rw [pk_un (by decide), pk_un (by decide), a3.2, hPR.1]⟩, by rw [pk_un (by decide), pk_un (by decide), a4, hPR.2], x2, y2, by decide, by decide, Or.inr ⟨x1, y1⟩, ?_, ?_, fun p hp => absurd hp (Nat.not_lt_zero p), fun j hj => absurd hj (Nat.not_lt_zero j), ?_, ?_⟩
            · obtain ⟨k', q1, q2, q3⟩ := a10
              exact ⟨k', q1, q2, by rw [pk_un (by decide), pk_un (by decide)]; exact q3⟩
            · obtain ⟨b', q1, q2⟩ := a11
              exact ⟨b', q1, by rw [pk_un (by decide), pk_un (by decide)]; exact q2⟩
            · show r.2.1 7 = (0 : Int64)
              rw [a14, hPR.2]
              rfl
            · show pop (r.2.1 7) = 0
              rw [a15, hPR.2]
        · refine ⟨false, tkA t n (nE t n (nE t n (i + 1))), skN t n (nE t n (nE t n (i + 1))), tkS t n (nE t n (nE t n (i + 1))), nI (nE t n (nE t n (nE t n (i + 1))) - skN t n (nE t n (nE t n (i + 1)))), nV t n (nE t n (nE t n (i + 1))), 1, upd (upd rd 0 (nV t n (i + 1))) 1 (nV t n (nE t n (i + 1))), ?_, Or.inr ⟨rfl, 1, by decide, by decide, rfl, FL_en0 ?_ he⟩⟩
          · refine pre _ _ ?_
            refine ev_cv rfl rfl rfl n1 ?_
            (first | refine ev_ift rfl rfl rfl rfl ?_ | refine ev_iff rfl rfl rfl rfl ?_)
            repeat (first | refine ev_gos 99 rfl ?_ | refine ev_gf2 rfl rfl rfl rfl ?_ | refine ev_gf2 rfl rfl HH_land rfl ?_ | refine ev_gf2 rfl rfl HH_draft rfl ?_ | refine ev_gf2 rfl rfl (by with_reducible assumption) rfl ?_)
            refine ev_cv rfl rfl rfl m1 ?_
            (first | refine ev_ift rfl rfl rfl rfl ?_ | refine ev_iff rfl rfl rfl rfl ?_)
            repeat (first | refine ev_gos 99 rfl ?_ | refine ev_gf2 rfl rfl rfl rfl ?_ | refine ev_gf2 rfl rfl HH_land rfl ?_ | refine ev_gf2 rfl rfl HH_draft rfl ?_ | refine ev_gf2 rfl rfl (by with_reducible assumption) rfl ?_)
            refine ev_cv rfl rfl rfl (e2 he) ?_
            (first | refine ev_ift rfl rfl rfl rfl ?_ | refine ev_iff rfl rfl rfl rfl ?_)
            repeat (first | refine ev_gos 99 rfl ?_ | refine ev_gf2 rfl rfl rfl rfl ?_ | refine ev_gf2 rfl rfl HH_land rfl ?_ | refine ev_gf2 rfl rfl HH_draft rfl ?_ | refine ev_gf2 rfl rfl (by with_reducible assumption) rfl ?_)
            exact ev_rz rfl (Or.inl rfl) rfl rfl
          · exact h0
      · refine ⟨false, tkA t n (nE t n (i + 1)), skN t n (nE t n (i + 1)), tkS t n (nE t n (i + 1)), nI (nE t n (nE t n (i + 1)) - skN t n (nE t n (i + 1))), nV t n (nE t n (i + 1)), nI (nmC t n (nE t n (i + 1)) 2 7), upd rd 0 (nV t n (i + 1)), ?_, Or.inr ⟨rfl, nmC t n (nE t n (i + 1)) 2 7, (nmC_r t n _ _ _ hc2).1, (nmC_r t n _ _ _ hc2).2, rfl, FL_en (nmC_3 t n _ _ _ hc2) (sd_n2 (r := sR r 3 (nI (i + 1))) e19 h0 hc hc2)⟩⟩
        refine pre _ _ ?_
        refine ev_cv rfl rfl rfl n1 ?_
        (first | refine ev_ift rfl rfl rfl rfl ?_ | refine ev_iff rfl rfl rfl rfl ?_)
        repeat (first | refine ev_gos 99 rfl ?_ | refine ev_gf2 rfl rfl rfl rfl ?_ | refine ev_gf2 rfl rfl HH_land rfl ?_ | refine ev_gf2 rfl rfl HH_draft rfl ?_ | refine ev_gf2 rfl rfl (by with_reducible assumption) rfl ?_)
        refine ev_cv rfl rfl rfl (m2 hc2) ?_
        (first | refine ev_ift rfl rfl rfl rfl ?_ | refine ev_iff rfl rfl rfl rfl ?_)
        repeat (first | refine ev_gos 99 rfl ?_ | refine ev_gf2 rfl rfl rfl rfl ?_ | refine ev_gf2 rfl rfl HH_land rfl ?_ | refine ev_gf2 rfl rfl HH_draft rfl ?_ | refine ev_gf2 rfl rfl (by with_reducible assumption) rfl ?_)
        exact ev_rz rfl (Or.inl rfl) rfl rfl
    · refine ⟨false, tkA t n (i + 1), skN t n (i + 1), tkS t n (i + 1), nI (nE t n (i + 1) - skN t n (i + 1)), nV t n (i + 1), nI (nmC t n (i + 1) 2 7), rd, ?_, Or.inr ⟨rfl, nmC t n (i + 1) 2 7, (nmC_r t n _ _ _ hc).1, (nmC_r t n _ _ _ hc).2, rfl, FL_en (nmC_3 t n _ _ _ hc) (sd_n1 (r := sR r 3 (nI (i + 1))) e19 h0 hc)⟩⟩
      refine pre _ _ ?_
      refine ev_cv rfl rfl rfl (n2 hc) ?_
      (first | refine ev_ift rfl rfl rfl rfl ?_ | refine ev_iff rfl rfl rfl rfl ?_)
      repeat (first | refine ev_gos 99 rfl ?_ | refine ev_gf2 rfl rfl rfl rfl ?_ | refine ev_gf2 rfl rfl HH_land rfl ?_ | refine ev_gf2 rfl rfl HH_draft rfl ?_ | refine ev_gf2 rfl rfl (by with_reducible assumption) rfl ?_)
      exact ev_rz rfl (Or.inl rfl) rfl rfl
  · refine ⟨false, i + 1, i, 110, f, v, 3, rd, ?_, Or.inr ⟨rfl, 3, by decide, by decide, rfl, FL_en (by decide) (sd_bad (r := sR r 3 (nI (i + 1))) (i := i + 1) (by show ¬ r.1 19 = 0; rw [a1.1]; exact nI_ne0 (by omega) (by omega)) h0)⟩⟩
    repeat (first | refine ev_gos 99 rfl ?_ | refine ev_gf2 rfl rfl rfl rfl ?_ | refine ev_gf2 rfl rfl HH_land rfl ?_ | refine ev_gf2 rfl rfl HH_draft rfl ?_ | refine ev_gf2 rfl rfl (by with_reducible assumption) rfl ?_)
    (first | refine ev_ift rfl rfl rfl rfl ?_ | refine ev_iff rfl rfl rfl rfl ?_)
    repeat (first | refine ev_gos 99 rfl ?_ | refine ev_gf2 rfl rfl rfl rfl ?_ | refine ev_gf2 rfl rfl HH_land rfl ?_ | refine ev_gf2 rfl rfl HH_draft rfl ?_ | refine ev_gf2 rfl rfl (by with_reducible assumption) rfl ?_)
    refine ev_ix 0 rfl rfl rfl (by decide) (by decide) ?_
    rw [upA_at, a1.2]
    refine ev_iff rfl rfl rfl (j_le (nI_nle (by omega) (by omega))) ?_
    repeat (first | refine ev_gos 99 rfl ?_ | refine ev_gf2 rfl rfl rfl rfl ?_ | refine ev_gf2 rfl rfl HH_land rfl ?_ | refine ev_gf2 rfl rfl HH_draft rfl ?_ | refine ev_gf2 rfl rfl (by with_reducible assumption) rfl ?_)
    refine ev_cv rfl rfl rfl (e_mfails 3) ?_
    repeat (first | refine ev_gos 99 rfl ?_ | refine ev_gf2 rfl rfl rfl rfl ?_ | refine ev_gf2 rfl rfl HH_land rfl ?_ | refine ev_gf2 rfl rfl HH_draft rfl ?_ | refine ev_gf2 rfl rfl (by with_reducible assumption) rfl ?_)
    exact ev_rz rfl (Or.inl rfl) rfl rfl
theorem m_clause (hT : TT s A t n) (h : RR r rd W H P R) (h0 : r.1 1 = 0) (hm : r.1 2 = -1) {bz : Nat → Int64} (hz0 : r.2.2.2 = bz) {i : Nat} (hi : i < n) {a0 : Nat} {sg : Int32} (hsg : sg = bif dig t i then 48 else t i) (ha0 : dig t i = false → a0 = i + 1) : ∃ (ok : Bool) (a b : Nat) (g' f' v' wr : Int32) (rd' : Nat → Int32), Ev sc (d + 5) m_M_readsClause 0 (iniL 1 [.ref 26]) [] (HH w (zS s (nI a0) (nI i) sg f v x) l (upA A 28 rd) B) (some (.int (b01 ok))) (HH w (zS s (nI a) (nI b) g' f' v' wr) l (upA A 28 rd') B) ∧ OUT n i bz (clzR t n r i) ok a b wr rd' := by
  obtain ⟨a1, a2, a3, a4, a5, a6, a7, a8, a9, a10, a11, a12, a13, a14, a15⟩ := id h
  have bad : ¬ sg = 110 → ¬ sg = 112 → ¬ sg = 114 → ¬ sg = 119 → ¬ t i = 110 → ¬ t i = 112 → ¬ t i = 114 → ¬ t i = 119 → ∃ (ok : Bool) (a b : Nat) (g' f' v' wr : Int32) (rd' : Nat → Int32), Ev sc (d + 5) m_M_readsClause 0 (iniL 1 [.ref 26]) [] (HH w (zS s (nI a0) (nI i) sg f v x) l (upA A 28 rd) B) (some (.int (b01 ok))) (HH w (zS s (nI a) (nI b) g' f' v' wr) l (upA A 28 rd') B) ∧ OUT n i bz (clzR t n r i) ok a b wr rd' := by
    intro s1 s2 s3 s4 t1 t2 t3 t4
    refine ⟨false, a0, i, sg, f, v, 1, rd, ?_, Or.inr ⟨rfl, 1, by decide, by decide, rfl, ?_⟩⟩
    · repeat (first | refine ev_gos 99 rfl ?_ | refine ev_gf2 rfl rfl rfl rfl ?_ | refine ev_gf2 rfl rfl HH_land rfl ?_ | refine ev_gf2 rfl rfl HH_draft rfl ?_ | refine ev_gf2 rfl rfl (by with_reducible assumption) rfl ?_)
      refine ev_ift rfl rfl rfl (c_ne s1) ?_
      repeat (first | refine ev_gos 99 rfl ?_ | refine ev_gf2 rfl rfl rfl rfl ?_ | refine ev_gf2 rfl rfl HH_land rfl ?_ | refine ev_gf2 rfl rfl HH_draft rfl ?_ | refine ev_gf2 rfl rfl (by with_reducible assumption) rfl ?_)
      refine ev_ix 0 rfl rfl rfl (by decide) (by decide) ?_
      rw [upA_at, a1.2]
      by_cases hW : W = 0
      · refine ev_iff rfl rfl rfl (j_ne (by rw [hW]; rfl)) ?_
        repeat (first | refine ev_gos 99 rfl ?_ | refine ev_gf2 rfl rfl rfl rfl ?_ | refine ev_gf2 rfl rfl HH_land rfl ?_ | refine ev_gf2 rfl rfl HH_draft rfl ?_ | refine ev_gf2 rfl rfl (by with_reducible assumption) rfl ?_)
        refine ev_cv rfl rfl rfl (e_mfails 1) ?_
        exact ev_rz rfl (Or.inl rfl) rfl rfl
      · refine ev_ift rfl rfl rfl (i_ne (nI_ne0 (by omega) (by omega))) ?_
        repeat (first | refine ev_gos 99 rfl ?_ | refine ev_gf2 rfl rfl rfl rfl ?_ | refine ev_gf2 rfl rfl HH_land rfl ?_ | refine ev_gf2 rfl rfl HH_draft rfl ?_ | refine ev_gf2 rfl rfl (by with_reducible assumption) rfl ?_)
        have hne : ∀ k : Int32, ¬ sg = k → ¬ k.toInt = sg.toInt := fun k hk z => hk (Int32.toInt_inj.mp z.symm)
        refine ev_sw rfl rfl (sw_lk (o := 51) ?_ : _ = some 131) ?_
        · show (if (112 : Int) = sg.toInt then _ else if (114 : Int) = sg.toInt then _ else if (119 : Int) = sg.toInt then _ else (51 : Int)) = 51
          rw [if_neg (show ¬ (112 : Int) = sg.toInt from hne 112 s2), if_neg (show ¬ (114 : Int) = sg.toInt from hne 114 s3), if_neg (show ¬ (119 : Int) = sg.toInt from hne 119 s4)]
        · repeat (first | refine ev_gos 99 rfl ?_ | refine ev_gf2 rfl rfl rfl rfl ?_ | refine ev_gf2 rfl rfl HH_land rfl ?_ | refine ev_gf2 rfl rfl HH_draft rfl ?_ | refine ev_gf2 rfl rfl (by with_reducible assumption) rfl ?_)
          refine ev_cv rfl rfl rfl (e_mfails 1) ?_
          exact ev_rz rfl (Or.inl rfl) rfl rfl
    · unfold clzR
      by_cases q : ¬ t i = 110 ∧ r.1 19 = 0
      · rw [if_pos q]
        exact FL_cm0 h0 1 (nI i)
      · rw [if_neg q, if_neg t1, if_neg t2, if_neg t4, if_neg t3]
        exact FL_en (by decide) (FL_cm0 (r := sR r 3 (nI (i + 1))) h0 1 (nI i))
  cases hd : dig t i with
  | true =>
    rw [hd] at hsg
    have hsg : sg = 48 := hsg
    have hne : ∀ k : Int32, (decide (48 ≤ k) && decide (k ≤ 57)) = false → ¬ t i = k := fun k hk z => by
      have h2 : (decide (48 ≤ t i) && decide (t i ≤ 57)) = true := hd
      rw [z, hk] at h2
      cases h2
    exact bad (by rw [hsg]; decide) (by rw [hsg]; decide) (by rw [hsg]; decide) (by rw [hsg]; decide) (hne 110 (by decide)) (hne 112 (by decide)) (hne 114 (by decide)) (hne 119 (by decide))
  | false =>
    rw [hd] at hsg
    have hsg : sg = t i := hsg
    have ha0 := ha0 hd
    subst ha0
    by_cases t1 : t i = 110
    · obtain ⟨ok, a, b, g', f', v', wr, rd', q1, q2⟩ := m_sides (sc := sc) (d := d) (w := w) (l := l) (B := B) (f := f) (v := v) (x := x) hT h h0 hm hz0 hi
      refine ⟨ok, a, b, g', f', v', wr, rd', by rw [hsg, t1]; exact q1, ?_⟩
      unfold clzR
      rw [if_neg (fun z => z.1 t1), if_pos t1]
      exact q2
    · by_cases hW : W = 0
      · have e19 : r.1 19 = 0 := by rw [a1.1, hW]; rfl
        refine ⟨false, i + 1, i, sg, f, v, 1, rd, ?_, Or.inr ⟨rfl, 1, by decide, by decide, rfl, ?_⟩⟩
        · repeat (first | refine ev_gos 99 rfl ?_ | refine ev_gf2 rfl rfl rfl rfl ?_ | refine ev_gf2 rfl rfl HH_land rfl ?_ | refine ev_gf2 rfl rfl HH_draft rfl ?_ | refine ev_gf2 rfl rfl (by with_reducible assumption) rfl ?_)
          refine ev_ift rfl rfl rfl (c_ne (by rw [hsg]; exact t1)) ?_
          repeat (first | refine ev_gos 99 rfl ?_ | refine ev_gf2 rfl rfl rfl rfl ?_ | refine ev_gf2 rfl rfl HH_land rfl ?_ | refine ev_gf2 rfl rfl HH_draft rfl ?_ | refine ev_gf2 rfl rfl (by with_reducible assumption) rfl ?_)
          refine ev_ix 0 rfl rfl rfl (by decide) (by decide) ?_
          rw [upA_at, a1.2]
          refine ev_iff rfl rfl rfl (j_ne (by rw [hW]; rfl)) ?_
          repeat (first | refine ev_gos 99 rfl ?_ | refine ev_gf2 rfl rfl rfl rfl ?_ | refine ev_gf2 rfl rfl HH_land rfl ?_ | refine ev_gf2 rfl rfl HH_draft rfl ?_ | refine ev_gf2 rfl rfl (by with_reducible assumption) rfl ?_)
          refine ev_cv rfl rfl rfl (e_mfails 1) ?_
          exact ev_rz rfl (Or.inl rfl) rfl rfl
        · unfold clzR
          rw [if_pos ⟨t1, e19⟩]
          exact FL_cm0 h0 1 (nI i)
      · have hWH : 2 ≤ W ∧ 2 ≤ H := by
          rcases a9 with ⟨z, _, _, _⟩ | z
          · exact absurd z hW
          · exact z
        have e19 : ¬ r.1 19 = 0 := by rw [a1.1]; exact nI_ne0 (by omega) (by omega)
        have pre : ∀ (rr : Option Value) (h' : AHp), Ev sc (d + 5) m_M_readsClause 80 [some (.ref 26)] [.int sg] (HH w (zS s (nI (i + 1)) (nI i) sg f v x) l (upA A 28 rd) B) rr h' → Ev sc (d + 5) m_M_readsClause 0 (iniL 1 [.ref 26]) [] (HH w (zS s (nI (i + 1)) (nI i) sg f v x) l (upA A 28 rd) B) rr h' := by
          intro rr h' hh
          repeat (first | refine ev_gos 99 rfl ?_ | refine ev_gf2 rfl rfl rfl rfl ?_ | refine ev_gf2 rfl rfl HH_land rfl ?_ | refine ev_gf2 rfl rfl HH_draft rfl ?_ | refine ev_gf2 rfl rfl (by with_reducible assumption) rfl ?_)
          refine ev_ift rfl rfl rfl (c_ne (by rw [hsg]; exact t1)) ?_
          repeat (first | refine ev_gos 99 rfl ?_ | refine ev_gf2 rfl rfl rfl rfl ?_ | refine ev_gf2 rfl rfl HH_land rfl ?_ | refine ev_gf2 rfl rfl HH_draft rfl ?_ | refine ev_gf2 rfl rfl (by with_reducible assumption) rfl ?_)
          refine ev_ix 0 rfl rfl rfl (by decide) (by decide) ?_
          rw [upA_at, a1.2]
          refine ev_ift rfl rfl rfl (i_ne (nI_ne0 (by omega) (by omega))) ?_
          repeat (first | refine ev_gos 99 rfl ?_ | refine ev_gf2 rfl rfl rfl rfl ?_ | refine ev_gf2 rfl rfl HH_land rfl ?_ | refine ev_gf2 rfl rfl HH_draft rfl ?_ | refine ev_gf2 rfl rfl (by with_reducible assumption) rfl ?_)
          exact hh
        by_cases t2 : t i = 112
        · obtain ⟨ok, a, b, g', f', v', wr, rd', q1, q2⟩ := m_person (sc := sc) (d := d) (w := w) (l := l) (B := B) (g := sg) (f := f) (v := v) (x := x) hT h hWH.1 hWH.2 h0 hm hz0 hi
          refine ⟨ok, a, b, g', f', v', wr, rd', pre _ _ ?_, ?_⟩
          · rw [hsg, t2] at q1 ⊢
            refine ev_sw rfl rfl (rfl : _ = some 116) ?_
            repeat (first | refine ev_gos 99 rfl ?_ | refine ev_gf2 rfl rfl rfl rfl ?_ | refine ev_gf2 rfl rfl HH_land rfl ?_ | refine ev_gf2 rfl rfl HH_draft rfl ?_ | refine ev_gf2 rfl rfl (by with_reducible assumption) rfl ?_)
            refine ev_cv rfl rfl rfl q1 ?_
            exact ev_rz rfl (b01_or _) rfl rfl
          · unfold clzR
            rw [if_neg (fun z => e19 z.2), if_neg t1, if_pos t2]
            exact q2
        · by_cases t4 : t i = 119
          · obtain ⟨ok, a, b, g', f', v', wr, rd', q1, q2⟩ := m_wind (sc := sc) (d := d) (w := w) (l := l) (B := B) (g := sg) (f := f) (v := v) (x := x) hT h h0 hm hz0 hi
            refine ⟨ok, a, b, g', f', v', wr, rd', pre _ _ ?_, ?_⟩
            · rw [hsg, t4] at q1 ⊢
              refine ev_sw rfl rfl (rfl : _ = some 121) ?_
              repeat (first | refine ev_gos 99 rfl ?_ | refine ev_gf2 rfl rfl rfl rfl ?_ | refine ev_gf2 rfl rfl HH_land rfl ?_ | refine ev_gf2 rfl rfl HH_draft rfl ?_ | refine ev_gf2 rfl rfl (by with_reducible assumption) rfl ?_)
              refine ev_cv rfl rfl rfl q1 ?_
              exact ev_rz rfl (b01_or _) rfl rfl
            · unfold clzR
              rw [if_neg (fun z => e19 z.2), if_neg t1, if_neg t2, if_pos t4]
              exact q2
          · by_cases t3 : t i = 114
            · obtain ⟨ok, a, b, g', f', v', wr, rd', q1, q2⟩ := m_rock (sc := sc) (d := d) (w := w) (l := l) (B := B) (g := sg) (f := f) (v := v) (x := x) hT h hWH.1 hWH.2 h0 hm hz0 hi
              refine ⟨ok, a, b, g', f', v', wr, rd', pre _ _ ?_, ?_⟩
              · rw [hsg, t3] at q1 ⊢
                refine ev_sw rfl rfl (rfl : _ = some 126) ?_
                repeat (first | refine ev_gos 99 rfl ?_ | refine ev_gf2 rfl rfl rfl rfl ?_ | refine ev_gf2 rfl rfl HH_land rfl ?_ | refine ev_gf2 rfl rfl HH_draft rfl ?_ | refine ev_gf2 rfl rfl (by with_reducible assumption) rfl ?_)
                refine ev_cv rfl rfl rfl q1 ?_
                exact ev_rz rfl (b01_or _) rfl rfl
              · unfold clzR
                rw [if_neg (fun z => e19 z.2), if_neg t1, if_neg t2, if_neg t4, if_pos t3]
                exact q2
            · exact bad (by rw [hsg]; exact t1) (by rw [hsg]; exact t2) (by rw [hsg]; exact t3) (by rw [hsg]; exact t4) t1 t2 t3 t4
end CL4
