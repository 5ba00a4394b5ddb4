/-! both sides: nights by draws -/
section DRF
variable {sc : Scr} {d : Nat} {w : Bool} {s : Nat → Int32} {l : Nat → Int64} {A : Nat → Nat → Int32} {B : Nat → Nat → Int64} {W H P fi c : Nat}
theorem SP_hap (hN : CN s l A B W H P) (hK : ∀ p, p < P → A 27 (5 + p) = A 4 p) (hW : 2 ≤ W) (hH : 2 ≤ H) {dn at_ f : Nat → Int32} {wd nt : Int32} (hS : SP W H P (l 3) (A 4) dn at_ wd nt f) (x : Int32) : SP W H P (l 3) (A 4) (hapD W H P (l 3) (A 4) (B 5) x dn at_ wd).2.1 (hapD W H P (l 3) (A 4) (B 5) x dn at_ wd).2.2.1 (hapD W H P (l 3) (A 4) (B 5) x dn at_ wd).2.2.2 nt (hapM W H P (l 3) (A 27) x f).2 ∧ (hapD W H P (l 3) (A 4) (B 5) x dn at_ wd).1 = (hapM W H P (l 3) (A 27) x f).1 ∧ SD (hapM W H P (l 3) (A 27) x f).1 := by
  have h49 := hN.n49
  have hP7 : P ≤ 7 := hN.2.2.2.2.2.1
  have h0 : 0 < W * H := Nat.mul_pos (by omega) (by omega)
  unfold hapD hapM
  by_cases c0 : drN x 8 = 0
  · rw [if_pos c0, if_pos c0]
    by_cases p0 : P = 0
    · rw [if_pos p0, if_pos p0]
      exact ⟨hS, rfl, SD_dS x⟩
    · rw [if_neg p0, if_neg p0]
      have hp := drN_lt (dS x) (m := P) (by omega)
      have hq := drN_lt (dS (dS x)) h0
      have hsd := SD_dS (dS (dS x))
      generalize drN (dS x) P = p at hp ⊢
      generalize drN (dS (dS x)) (W * H) = q at hq ⊢
      generalize dS (dS (dS x)) = z at hsd ⊢
      obtain ⟨k, k1, k2⟩ := hN.2.2.2.2.2.2.2.2.2.2.1 p hp
      have ek : kdM (A 27) p = nI k := (hK p hp).trans k2
      rw [ek, k2, nI_clamp (by omega), room_eq hN (hS.dnE h49 (by decide)) k1 hq]
      cases hm : mayB W H (l 3) f k q with
      | false => exact ⟨hS, rfl, hsd⟩
      | true =>
        obtain ⟨m1, m2, m3⟩ := may_t hm
        have esh : B 5 (k * 49 + q) = shpM W H k q := by rw [sh_eq hN k1 hq, if_pos m2]
        rw [esh]
        exact ⟨SP_press (SP_at hS (by omega) hp hq k1 k2 m1 m2) h49 (shp_WI hW hN.2.2.2.1 hH hN.2.2.2.2.1 hq) m2, rfl, hsd⟩
  · rw [if_neg c0, if_neg c0]
    by_cases c1 : drN x 8 = 1
    · rw [if_pos c1, if_pos c1]
      have hq := drN_lt (dS x) h0
      have hsd := SD_dS (dS x)
      generalize drN (dS x) (W * H) = q at hq ⊢
      generalize dS (dS x) = z at hsd ⊢
      cases hr : bs (l 3) q with
      | true => exact ⟨hS, rfl, hsd⟩
      | false => exact ⟨SP_cross hS h49 hq hr, rfl, hsd⟩
    · rw [if_neg c1, if_neg c1]
      by_cases c2 : drN x 8 = 2
      · rw [if_pos c2, if_pos c2]
        exact ⟨SP_snow hS h49, rfl, SD_dS x⟩
      · rw [if_neg c2, if_neg c2]
        by_cases c3 : drN x 8 = 3
        · rw [if_pos c3, if_pos c3]
          have hq := drN_lt (dS x) (m := 5) (by decide)
          have hsd := SD_dS (dS x)
          generalize drN (dS x) 5 = q at hq ⊢
          generalize dS (dS x) = z at hsd ⊢
          exact ⟨SP_wd hS (by omega), rfl, hsd⟩
        · rw [if_neg c3, if_neg c3]
          exact ⟨hS, rfl, SD_dS x⟩
theorem e_drift_loop (hN : CN s l A B W H P) (hM : MN (A 27) (l 3) W H P) (hR : WI (l 3) (W * H)) (hK : ∀ p, p < P → A 27 (5 + p) = A 4 p) (hW : 2 ≤ W) (hH : 2 ≤ H) {n : Nat} (hn : n ≤ 20) : ∀ (m i fi c : Nat) (x8 x9 x10 : Int32) (a16 a11 a10 G R F : Nat → Int32), i + m = n → PI l A W H P fi c x8 x9 x10 a16 a11 a10 R F → ∃ (fi' c' : Nat) (x8' x9' x10' : Int32) (a16' a11' a10' G' R' F' : Nat → Int32), PI l A W H P fi' c' x8' x9' x10' a16' a11' a10' R' F' ∧ Ev sc (d + 6) m_C_drift 16 [some (.ref 0), some (.int (nI n)), some (.int 0), some (.int (nI i))] [.int (nI n), .int (nI i)] (HH w (qS s (nI fi) (nI c) x8 x9 x10) l (qA A a16 a11 a10) B) (some (.int (nI (cntS W (W * H) (dnS a10' 3 49))))) (HH w (qS s (nI fi') (nI c') x8' x9' x10') l (qA A a16' a11' a10') B) ∧ ∀ (S : Nat → Int32) (L : Nat → Int64) (X : Nat → Nat → Int32), X 27 = A 27 → Ev sc (d + 6) m_M_drift 16 [some (.ref 26), some (.int (nI n)), some (.int 0), some (.int (nI i))] [.int (nI n), .int (nI i)] (HH w (upA S 23 (nI c)) (upA L 8 x8.toInt64) (qM X G R F) B) (some (.int (nI (cntS W (W * H) (dnS a10' 3 49))))) (HH w (upA S 23 (nI c')) (upA L 8 x8'.toInt64) (qM X G' R' F') B) := by
  have h0 : 0 < W * H := Nat.mul_pos (by omega) (by omega)
  intro m
  induction m with
  | zero =>
    intro i fi c x8 x9 x10 a16 a11 a10 G R F hi hp
    have e : i = n := by omega
    subst e
    refine ⟨fi, c, x8, x9, x10, a16, a11, a10, G, R, F, hp, ?_, fun S L X hX => ?_⟩
    · refine ev_ift rfl rfl rfl (c_ge ((nI_leI (by omega) (by omega)).mpr (by omega))) ?_
      repeat (first | refine ev_gos 99 rfl ?_ | refine ev_gf2 rfl rfl rfl rfl ?_ | refine ev_gf2 rfl rfl HH_land rfl ?_ | refine ev_gf2 rfl rfl HH_draft rfl ?_ | refine ev_gf2 rfl rfl (by with_reducible assumption) rfl ?_)
      refine ev_cv rfl rfl rfl (e_countNow (W := W) (N := W * H) hN.1 hN.2.2.2.2.2.2.2.1 hN.2.2.2.2.2.2.2.2.1 hN.2.2.2.2.2.2.2.2.2.1) ?_
      exact ev_ri rfl rfl rfl
    · refine ev_ift rfl rfl rfl (c_ge ((nI_leI (by omega) (by omega)).mpr (by omega))) ?_
      repeat (first | refine ev_gos 99 rfl ?_ | refine ev_gf2 rfl rfl rfl rfl ?_ | refine ev_gf2 rfl rfl HH_land rfl ?_ | refine ev_gf2 rfl rfl HH_draft rfl ?_ | refine ev_gf2 rfl rfl (by with_reducible assumption) rfl ?_)
      refine ev_cv rfl rfl rfl (e_mcountN (A := qM X G R F) (rk := l 3) (W := W) (H := H) (P := P) (by rw [← hX] at hM; exact hM)) ?_
      refine (?_ : Ek sc _ m_M_drift 49 _ [.int (nI (cntS W (W * H) (dnS F 3 (W * H))))] _ _ _ _ _)
      exact ev_ri rfl (by rw [cnt_eq hN hp.1]) rfl
  | succ m ih =>
    intro i fi c x8 x9 x10 a16 a11 a10 G R F hi hp
    have c1 := e_hap (sc := sc) (d := d + 1) (w := w) (s := s) (l := l) (A := A) (B := B) (W := W) (H := H) (P := P) (a := nI (rmF fi c)) (b := nI (rmC c + 1)) (e := x8) (f := x9) (g := x10) (r := putS a16 ((rmF fi c + rmC c) % 30) a10 a11 x9 x10) (t := a11) (u := a10) hN hW hH
    have m1 : ∀ (S : Nat → Int32) (L : Nat → Int64) (X : Nat → Nat → Int32), X 27 = A 27 → Ev sc (d + 5) m_M_draws 0 (iniL 4 [.ref 26]) [] (HH w S (upA L 8 x8.toInt64) (qM X G (pstM R F c) F) B) none (HH w S (upA L 8 (hapM W H P (l 3) (A 27) x8 F).1.toInt64) (qM X G (pstM R F c) (hapM W H P (l 3) (A 27) x8 F).2) B) := fun S L X hX => by
      have z := e_mdr (sc := sc) (d := d + 1) (w := w) (s := S) (l := L) (A := X) (B := B) (W := W) (H := H) (P := P) (rk := l 3) (r := G) (t := pstM R F c) (u := F) (by rw [← hX] at hM; exact hM) h0 hp.2.2.2.2
      rw [hX] at z
      exact z
    have p1 := SP_hap (B := B) hN hK hW hH hp.1 x8
    generalize hapD W H P (l 3) (A 4) (B 5) x8 a10 a11 x9 = D at c1 p1
    generalize hapM W H P (l 3) (A 27) x8 F = M at m1 p1
    obtain ⟨D1, D2, D3, D4⟩ := D
    obtain ⟨M1, M2⟩ := M
    obtain ⟨p1, p2, p3⟩ := p1
    dsimp only at c1 m1 p1 p2 p3
    subst p2
    obtain ⟨k, k1, k2⟩ := p1.2.2.2.1
    subst k2
    have hpr := PI_rem hp
    obtain ⟨fi', c', x8', x9', x10', a16', a11', a10', G', R', F', q1, q2, q3⟩ := ih (i + 1) (rmF fi c) (rmC c + 1) D1 (nI k) (x10 + 1) (putS a16 ((rmF fi c + rmC c) % 30) a10 a11 x9 x10) D3 (mapP (ngF (shlS W (W * H) (l 3) D2 k)) D2 49) (va_cpy M2 G 0 0 49) (pstM R F c) (nmI W H (l 3) M2 k) (by omega) (PI_night (s := s) (B := B) hN hR (Or.inr ⟨hW, hH⟩) k1 ⟨p1, hpr.2.1, hpr.2.2.1, hpr.2.2.2.1, p3⟩)
    rw [← nI_1] at q2
    refine ⟨fi', c', x8', x9', x10', a16', a11', a10', G', R', F', q1, ?_, fun S L X hX => ?_⟩
    · refine ev_iff rfl rfl rfl (d_ge (nI_lt3 (by omega) (by omega) (by omega))) ?_
      repeat (first | refine ev_gos 99 rfl ?_ | refine ev_gf2 rfl rfl rfl rfl ?_ | refine ev_gf2 rfl rfl HH_land rfl ?_ | refine ev_gf2 rfl rfl HH_draft rfl ?_ | refine ev_gf2 rfl rfl (by with_reducible assumption) rfl ?_)
      refine ev_cv rfl rfl rfl (e_rem hp.2.1 hp.2.2.1) ?_
      repeat (first | refine ev_gos 99 rfl ?_ | refine ev_gf2 rfl rfl rfl rfl ?_ | refine ev_gf2 rfl rfl HH_land rfl ?_ | refine ev_gf2 rfl rfl HH_draft rfl ?_ | refine ev_gf2 rfl rfl (by with_reducible assumption) rfl ?_)
      refine ev_cv rfl rfl rfl c1 ?_
      repeat (first | refine ev_gos 99 rfl ?_ | refine ev_gf2 rfl rfl rfl rfl ?_ | refine ev_gf2 rfl rfl HH_land rfl ?_ | refine ev_gf2 rfl rfl HH_draft rfl ?_ | refine ev_gf2 rfl rfl (by with_reducible assumption) rfl ?_)
      refine ev_cv rfl rfl rfl (e_pN hN k1) ?_
      repeat (first | refine ev_gos 99 rfl ?_ | refine ev_gf2 rfl rfl rfl rfl ?_ | refine ev_gf2 rfl rfl HH_land rfl ?_ | refine ev_gf2 rfl rfl HH_draft rfl ?_ | refine ev_gf2 rfl rfl (by with_reducible assumption) rfl ?_)
      exact q2
    · have q4 := q3 S L X hX
      rw [← nI_1] at q4
      refine ev_iff rfl rfl rfl (d_ge (nI_lt3 (by omega) (by omega) (by omega))) ?_
      repeat (first | refine ev_gos 99 rfl ?_ | refine ev_gf2 rfl rfl rfl rfl ?_ | refine ev_gf2 rfl rfl HH_land rfl ?_ | refine ev_gf2 rfl rfl HH_draft rfl ?_ | refine ev_gf2 rfl rfl (by with_reducible assumption) rfl ?_)
      refine ev_cv rfl rfl rfl (e_mrem hp.2.2.1) ?_
      repeat (first | refine ev_gos 99 rfl ?_ | refine ev_gf2 rfl rfl rfl rfl ?_ | refine ev_gf2 rfl rfl HH_land rfl ?_ | refine ev_gf2 rfl rfl HH_draft rfl ?_ | refine ev_gf2 rfl rfl (by with_reducible assumption) rfl ?_)
      refine ev_cv rfl rfl rfl (m1 _ L X hX) ?_
      repeat (first | refine ev_gos 99 rfl ?_ | refine ev_gf2 rfl rfl rfl rfl ?_ | refine ev_gf2 rfl rfl HH_land rfl ?_ | refine ev_gf2 rfl rfl HH_draft rfl ?_ | refine ev_gf2 rfl rfl (by with_reducible assumption) rfl ?_)
      refine ev_cv rfl rfl rfl (e_mnN (rk := l 3) (W := W) (H := H) (P := P) (by rw [← hX] at hM; exact hM) hR k1 (p1.2.2.2.2.2.2.2)) ?_
      repeat (first | refine ev_gos 99 rfl ?_ | refine ev_gf2 rfl rfl rfl rfl ?_ | refine ev_gf2 rfl rfl HH_land rfl ?_ | refine ev_gf2 rfl rfl HH_draft rfl ?_ | refine ev_gf2 rfl rfl (by with_reducible assumption) rfl ?_)
      exact q4
theorem b_drift (h : INV s l A B W H P fi c) (x : Int32) : Both sc (d + 12) m_C_drift 4 m_M_drift 4 [.int x] w s l A B := by
  obtain ⟨hN, hM, hR, hK, hS, hD, hX, hI, hT, hF, hO, hB⟩ := id h
  have e56 : A 29 56 = s 10 := hS.2.2.2.2.2.2.1
  by_cases hr : rfs x W (s 10) = 0
  · obtain ⟨n, n1, n2, n3, n4⟩ := rfs_ok hr
    subst n3
    have hWH : 2 ≤ W ∧ 2 ≤ H := by
      rcases hN.2.2.2.2.2.2.1 with ⟨z, _, _⟩ | z
      · exact absurd z n4
      · exact z
    obtain ⟨fi', c', x8', x9', x10', a16', a11', a10', G', R', F', q1, q2, q3⟩ := e_drift_loop (sc := sc) (d := d + 6) (w := w) (s := s) (l := l) (A := A) (B := B) (W := W) (H := H) (P := P) hN hM hR hK hWH.1 hWH.2 n2 n 0 fi c (s 8) (s 9) (s 10) (A 16) (A 11) (A 10) (A 31) (A 32) (A 29) (Nat.zero_add n) h.pi
    rw [← hD.1, ← hD.2.2.1, qS_id, qA_id] at q2
    have q4 := q3 (qS s (nI fi') (nI c') x8' x9' x10') l (qA A a16' a11' a10') rfl
    refine ⟨nI (cntS W (W * H) (dnS a10' 3 49)), HH w (qS s (nI fi') (nI c') x8' x9' x10') l (qA A a16' a11' a10') B, w, upA (qS s (nI fi') (nI c') x8' x9' x10') 23 (nI c'), upA l 8 x8'.toInt64, qM (qA A a16' a11' a10') G' R' F', B, ?_, ?_, PI_INV h q1⟩
    · repeat (first | refine ev_gos 99 rfl ?_ | refine ev_gf2 rfl rfl rfl rfl ?_ | refine ev_gf2 rfl rfl HH_land rfl ?_ | refine ev_gf2 rfl rfl HH_draft rfl ?_ | refine ev_gf2 rfl rfl (by with_reducible assumption) rfl ?_)
      refine ev_cv rfl rfl rfl (e_refusal hN.1 hN.2.2.2.1 _) ?_
      rw [hr]
      repeat (first | refine ev_gos 99 rfl ?_ | refine ev_gf2 rfl rfl rfl rfl ?_ | refine ev_gf2 rfl rfl HH_land rfl ?_ | refine ev_gf2 rfl rfl HH_draft rfl ?_ | refine ev_gf2 rfl rfl (by with_reducible assumption) rfl ?_)
      (first | refine ev_ift rfl rfl rfl rfl ?_ | refine ev_iff rfl rfl rfl rfl ?_)
      repeat (first | refine ev_gos 99 rfl ?_ | refine ev_gf2 rfl rfl rfl rfl ?_ | refine ev_gf2 rfl rfl HH_land rfl ?_ | refine ev_gf2 rfl rfl HH_draft rfl ?_ | refine ev_gf2 rfl rfl (by with_reducible assumption) rfl ?_)
      exact q2
    · repeat (first | refine ev_gos 99 rfl ?_ | refine ev_gf2 rfl rfl rfl rfl ?_ | refine ev_gf2 rfl rfl HH_land rfl ?_ | refine ev_gf2 rfl rfl HH_draft rfl ?_ | refine ev_gf2 rfl rfl (by with_reducible assumption) rfl ?_)
      refine ev_cv rfl rfl rfl (e_mrefuses (A := qA A a16' a11' a10') hM _) ?_
      refine (?_ : Ek sc _ m_M_drift 5 _ [.int (rfs (nI n) W (A 29 56))] _ _ _ _ _)
      rw [e56, hr]
      repeat (first | refine ev_gos 99 rfl ?_ | refine ev_gf2 rfl rfl rfl rfl ?_ | refine ev_gf2 rfl rfl HH_land rfl ?_ | refine ev_gf2 rfl rfl HH_draft rfl ?_ | refine ev_gf2 rfl rfl (by with_reducible assumption) rfl ?_)
      (first | refine ev_ift rfl rfl rfl rfl ?_ | refine ev_iff rfl rfl rfl rfl ?_)
      repeat (first | refine ev_gos 99 rfl ?_ | refine ev_gf2 rfl rfl rfl rfl ?_ | refine ev_gf2 rfl rfl HH_land rfl ?_ | refine ev_gf2 rfl rfl HH_draft rfl ?_ | refine ev_gf2 rfl rfl (by with_reducible assumption) rfl ?_)
      have e1 : upA (qS s (nI fi') (nI c') x8' x9' x10') 23 (nI c) = qS s (nI fi') (nI c') x8' x9' x10' := upS_same hD.2.2.2.2.1
      have e2 : qM (qA A a16' a11' a10') (A 31) (A 32) (A 29) = qA A a16' a11' a10' := qM_id (qA A a16' a11' a10')
      have e3 : upA l 8 (s 8).toInt64 = l := by rw [← hX.2]; exact upA_id l 8
      rw [e1, e2, e3] at q4
      exact q4
  · refine ⟨rfs x W (s 10), HH w s l A B, w, s, l, A, B, ?_, ?_, ⟨W, H, P, fi, c, h⟩⟩
    · repeat (first | refine ev_gos 99 rfl ?_ | refine ev_gf2 rfl rfl rfl rfl ?_ | refine ev_gf2 rfl rfl HH_land rfl ?_ | refine ev_gf2 rfl rfl HH_draft rfl ?_ | refine ev_gf2 rfl rfl (by with_reducible assumption) rfl ?_)
      refine ev_cv rfl rfl rfl (e_refusal hN.1 hN.2.2.2.1 _) ?_
      repeat (first | refine ev_gos 99 rfl ?_ | refine ev_gf2 rfl rfl rfl rfl ?_ | refine ev_gf2 rfl rfl HH_land rfl ?_ | refine ev_gf2 rfl rfl HH_draft rfl ?_ | refine ev_gf2 rfl rfl (by with_reducible assumption) rfl ?_)
      refine ev_iff rfl rfl rfl (j_eq hr) ?_
      repeat (first | refine ev_gos 99 rfl ?_ | refine ev_gf2 rfl rfl rfl rfl ?_ | refine ev_gf2 rfl rfl HH_land rfl ?_ | refine ev_gf2 rfl rfl HH_draft rfl ?_ | refine ev_gf2 rfl rfl (by with_reducible assumption) rfl ?_)
      exact ev_ri rfl rfl rfl
    · repeat (first | refine ev_gos 99 rfl ?_ | refine ev_gf2 rfl rfl rfl rfl ?_ | refine ev_gf2 rfl rfl HH_land rfl ?_ | refine ev_gf2 rfl rfl HH_draft rfl ?_ | refine ev_gf2 rfl rfl (by with_reducible assumption) rfl ?_)
      refine ev_cv rfl rfl rfl (e_mrefuses hM _) ?_
      rw [e56]
      repeat (first | refine ev_gos 99 rfl ?_ | refine ev_gf2 rfl rfl rfl rfl ?_ | refine ev_gf2 rfl rfl HH_land rfl ?_ | refine ev_gf2 rfl rfl HH_draft rfl ?_ | refine ev_gf2 rfl rfl (by with_reducible assumption) rfl ?_)
      refine ev_iff rfl rfl rfl (j_eq hr) ?_
      repeat (first | refine ev_gos 99 rfl ?_ | refine ev_gf2 rfl rfl rfl rfl ?_ | refine ev_gf2 rfl rfl HH_land rfl ?_ | refine ev_gf2 rfl rfl HH_draft rfl ?_ | refine ev_gf2 rfl rfl (by with_reducible assumption) rfl ?_)
      exact ev_ri rfl rfl rfl
end DRF
