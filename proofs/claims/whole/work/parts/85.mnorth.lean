/-! both readers side by side: a whole text -/
def LOUT (bz : Nat → Int64) (r : RS) (ok : Bool) (b wr : Int32) (rd : Nat → Int32) : Prop := (ok = true ∧ r.1 1 = 0 ∧ r.1 2 = -1 ∧ r.2.2.2 = bz ∧ ∃ W H P R, RR r rd W H P R) ∨ (ok = false ∧ ∃ k q, 1 ≤ k ∧ k ≤ 4 ∧ wr = nI k ∧ b = nI q ∧ FL r (nI k) (nI q))
theorem zS25 {s : Nat → Int32} {a b g f v x y : Int32} : upA (zS s a b g f v x) 25 y = zS (upA s 25 y) a b g f v x := by
  unfold zS
  rw [upA_comm _ (p := 33) (q := 25) rfl, upA_comm _ (p := 32) (q := 25) rfl, upA_comm _ (p := 31) (q := 25) rfl, upA_comm _ (p := 30) (q := 25) rfl, upA_comm _ (p := 29) (q := 25) rfl, upA_comm _ (p := 28) (q := 25) rfl]
section MNO
variable {sc : Scr} {d : Nat} {w : Bool} {s : Nat → Int32} {l : Nat → Int64} {A : Nat → Nat → Int32} {B : Nat → Nat → Int64} {t : Nat → Int32} {n : Nat}
theorem m_loop (hT : TT s A t n) {bz : Nat → Int64} : ∀ (fu : Nat) (r : RS) (rd : Nat → Int32) (W H P R W1 H1 P1 p0 : Nat) (f v x : Int32), p0 ≤ n → n - skN t n p0 ≤ fu → r.1 1 = 0 → r.1 2 = -1 → r.2.2.2 = bz → RV n r W1 H1 P1 (skN t n p0) → RR r rd W H P R → ∃ (ok : Bool) (a b g' f' v' wr : Int32) (rd' : Nat → Int32), LOUT bz (lpR t n fu r) ok b wr rd' ∧ ∀ (rr : Option Value) (h' : AHp), Ev sc (d + 6) m_M_north 64 [some (.ref 26), some (.int (b01 ok))] [] (HH w (zS s a b g' f' v' wr) l (upA A 28 rd') B) rr h' → Ev sc (d + 6) m_M_north 41 [some (.ref 26), some (.int 1)] [.int (tkS t n p0)] (HH w (zS s (nI (tkA t n p0)) (nI (skN t n p0)) (tkS t n p0) f v x) l (upA A 28 rd) B) rr h' := by
  have hn : n ≤ 240 := hT.1
  have hend : ∀ (fu : Nat) (r : RS) (rd : Nat → Int32) (W H P R W1 H1 P1 p0 : Nat) (f v x : Int32), skN t n p0 = n → r.1 1 = 0 → r.1 2 = -1 → r.2.2.2 = bz → RV n r W1 H1 P1 (skN t n p0) → RR r rd W H P R → ∃ (ok : Bool) (a b g' f' v' wr : Int32) (rd' : Nat → Int32), LOUT bz (lpR t n fu r) ok b wr rd' ∧ ∀ (rr : Option Value) (h' : AHp), Ev sc (d + 6) m_M_north 64 [some (.ref 26), some (.int (b01 ok))] [] (HH w (zS s a b g' f' v' wr) l (upA A 28 rd') B) rr h' → Ev sc (d + 6) m_M_north 41 [some (.ref 26), some (.int 1)] [.int (tkS t n p0)] (HH w (zS s (nI (tkA t n p0)) (nI (skN t n p0)) (tkS t n p0) f v x) l (upA A 28 rd) B) rr h' := by
    intro fu r rd W H P R W1 H1 P1 p0 f v x he h0 hm hz hrv hrr
    rw [lp_e hrv.1 hrv.2.1 hn (fun z => by rw [he] at z; exact absurd z.1 (Nat.lt_irrefl n))]
    have hs : tkS t n p0 = -1 := by
      unfold tkS
      rw [if_neg (by rw [he]; exact Nat.lt_irrefl n)]
    refine ⟨true, nI (tkA t n p0), nI (skN t n p0), tkS t n p0, f, v, x, rd, Or.inl ⟨rfl, h0, hm, hz, W, H, P, R, hrr⟩, fun rr h' hh => ?_⟩
    refine ev_ift rfl rfl rfl (i_lt (by rw [hs]; decide)) ?_
    exact hh
  intro fu
  induction fu with
  | zero =>
    intro r rd W H P R W1 H1 P1 p0 f v x hp hf h0 hm hz hrv hrr
    have hb := skN_b t hp
    exact hend 0 r rd W H P R W1 H1 P1 p0 f v x (by omega) h0 hm hz hrv hrr
  | succ fu ih =>
    intro r rd W H P R W1 H1 P1 p0 f v x hp hf h0 hm hz hrv hrr
    have hb := skN_b t hp
    by_cases hi : skN t n p0 < n
    · have hsg : tkS t n p0 = bif dig t (skN t n p0) then 48 else t (skN t n p0) := by
        unfold tkS
        rw [if_pos hi]
      have ha0 : dig t (skN t n p0) = false → tkA t n p0 = skN t n p0 + 1 := fun hd => by
        unfold tkA
        rw [if_pos hi, hd]
        rfl
      have hpos : ¬ tkS t n p0 < 0 := by
        rw [hsg]
        cases dig t (skN t n p0) with
        | true => exact (by decide : ¬ (48 : Int32) < 0)
        | false =>
          obtain ⟨k, k1, k2⟩ := (hT.2.2 _ hi).2
          show ¬ t (skN t n p0) < 0
          rw [k2]
          exact nI_pos (by omega)
      obtain ⟨ok, a, b, g', f', v', wr, rd', q1, q2⟩ := m_clause (sc := sc) (d := d) (w := w) (l := l) (B := B) (f := f) (v := v) (x := x) hT hrr h0 hm hz hi hsg ha0
      obtain ⟨W', H', P', i', hrv2⟩ := RV_cl (t := t) hrv hi
      have hlp := lp_s (t := t) (f := fu) hrv.1 hi hn hrv2.2.1 h0 hrv2.1
      have hsk' := skN_b t hrv2.2.1
      rcases q2 with ⟨rfl, o1, ⟨o2, o3, o4⟩, o5, o6, W2, H2, P2, R2, o7⟩ | ⟨rfl, k, k1, k2, k3, k4⟩
      · have ei : i' = a := (nI_eq (by omega) (by omega)).mp (hrv2.1.symm.trans o5)
        subst ei
        obtain ⟨ok2, a2, b2, g2, f2, v2, wr2, rd2, z1, z2⟩ := ih (sR (clzR t n r (skN t n p0)) 3 (nI (skN t n i'))) rd' W2 H2 P2 R2 W' H' P' i' (nI (nE t n i' - skN t n i')) (nV t n i') wr hrv2.2.1 (by omega) o1 o2 o3 (RV_sk hrv2 hsk'.2) (RR_q o7 rfl rfl rfl rfl rfl rfl rfl)
        rw [hlp]
        refine ⟨ok2, a2, b2, g2, f2, v2, wr2, rd2, z1, fun rr h' hh => ?_⟩
        have z3 := z2 rr h' hh
        refine ev_iff rfl rfl rfl (j_lt hpos) ?_
        repeat (first | refine ev_gos 99 rfl ?_ | refine ev_gf2 rfl rfl rfl rfl ?_ | refine ev_gf2 rfl rfl HH_land rfl ?_ | refine ev_gf2 rfl rfl HH_draft rfl ?_ | refine ev_gf2 rfl rfl (by with_reducible assumption) rfl ?_)
        (first | refine ev_ift rfl rfl rfl rfl ?_ | refine ev_iff rfl rfl rfl rfl ?_)
        repeat (first | refine ev_gos 99 rfl ?_ | refine ev_gf2 rfl rfl rfl rfl ?_ | refine ev_gf2 rfl rfl HH_land rfl ?_ | refine ev_gf2 rfl rfl HH_draft rfl ?_ | refine ev_gf2 rfl rfl (by with_reducible assumption) rfl ?_)
        refine ev_cv rfl rfl rfl q1 ?_
        repeat (first | refine ev_gos 99 rfl ?_ | refine ev_gf2 rfl rfl rfl rfl ?_ | refine ev_gf2 rfl rfl HH_land rfl ?_ | refine ev_gf2 rfl rfl HH_draft rfl ?_ | refine ev_gf2 rfl rfl (by with_reducible assumption) rfl ?_)
        (first | refine ev_ift rfl rfl rfl rfl ?_ | refine ev_iff rfl rfl rfl rfl ?_)
        repeat (first | refine ev_gos 99 rfl ?_ | refine ev_gf2 rfl rfl rfl rfl ?_ | refine ev_gf2 rfl rfl HH_land rfl ?_ | refine ev_gf2 rfl rfl HH_draft rfl ?_ | refine ev_gf2 rfl rfl (by with_reducible assumption) rfl ?_)
        refine ev_cv rfl rfl rfl (e_mstep (A := upA A 28 rd') hT hrv2.2.1) ?_
        repeat (first | refine ev_gos 99 rfl ?_ | refine ev_gf2 rfl rfl rfl rfl ?_ | refine ev_gf2 rfl rfl HH_land rfl ?_ | refine ev_gf2 rfl rfl HH_draft rfl ?_ | refine ev_gf2 rfl rfl (by with_reducible assumption) rfl ?_)
        exact z3
      · rw [hlp, lp_e (r := sR (clzR t n r (skN t n p0)) 3 (nI (skN t n i'))) rfl hsk'.2 hn (fun z => by
          have z2 : (clzR t n r (skN t n p0)).1 1 = 0 := z.2
          rw [k4.1] at z2
          exact nI_ne0 (by omega) (by omega) z2)]
        refine ⟨false, nI a, nI b, g', f', v', wr, rd', Or.inr ⟨rfl, k, b, k1, k2, k3, rfl, k4⟩, fun rr h' hh => ?_⟩
        refine ev_iff rfl rfl rfl (j_lt hpos) ?_
        repeat (first | refine ev_gos 99 rfl ?_ | refine ev_gf2 rfl rfl rfl rfl ?_ | refine ev_gf2 rfl rfl HH_land rfl ?_ | refine ev_gf2 rfl rfl HH_draft rfl ?_ | refine ev_gf2 rfl rfl (by with_reducible assumption) rfl ?_)
        (first | refine ev_ift rfl rfl rfl rfl ?_ | refine ev_iff rfl rfl rfl rfl ?_)
        repeat (first | refine ev_gos 99 rfl ?_ | refine ev_gf2 rfl rfl rfl rfl ?_ | refine ev_gf2 rfl rfl HH_land rfl ?_ | refine ev_gf2 rfl rfl HH_draft rfl ?_ | refine ev_gf2 rfl rfl (by with_reducible assumption) rfl ?_)
        refine ev_cv rfl rfl rfl q1 ?_
        repeat (first | refine ev_gos 99 rfl ?_ | refine ev_gf2 rfl rfl rfl rfl ?_ | refine ev_gf2 rfl rfl HH_land rfl ?_ | refine ev_gf2 rfl rfl HH_draft rfl ?_ | refine ev_gf2 rfl rfl (by with_reducible assumption) rfl ?_)
        (first | refine ev_ift rfl rfl rfl rfl ?_ | refine ev_iff rfl rfl rfl rfl ?_)
        repeat (first | refine ev_gos 99 rfl ?_ | refine ev_gf2 rfl rfl rfl rfl ?_ | refine ev_gf2 rfl rfl HH_land rfl ?_ | refine ev_gf2 rfl rfl HH_draft rfl ?_ | refine ev_gf2 rfl rfl (by with_reducible assumption) rfl ?_)
        by_cases hg : g' < 0
        · refine ev_ift rfl rfl rfl (i_lt hg) ?_
          exact hh
        · refine ev_iff rfl rfl rfl (j_lt hg) ?_
          repeat (first | refine ev_gos 99 rfl ?_ | refine ev_gf2 rfl rfl rfl rfl ?_ | refine ev_gf2 rfl rfl HH_land rfl ?_ | refine ev_gf2 rfl rfl HH_draft rfl ?_ | refine ev_gf2 rfl rfl (by with_reducible assumption) rfl ?_)
          (first | refine ev_ift rfl rfl rfl rfl ?_ | refine ev_iff rfl rfl rfl rfl ?_)
          exact hh
    · exact hend (fu + 1) r rd W H P R W1 H1 P1 p0 f v x (by omega) h0 hm hz hrv hrr
theorem e_mclr (f0 : Nat → Int32) {rr : Option Value} {h' : AHp} (hout : Ev sc d m_M_north 21 [some (.ref 26), none] [] (HH w s l (upA A 28 (mapP (fun _ _ => 0) f0 21)) B) rr h') : ∀ (m i : Nat), i + m = 21 → Ev sc d m_M_north 5 [some (.ref 26), some (.int (nI i))] [.int 21, .int (nI i)] (HH w s l (upA A 28 (mapP (fun _ _ => 0) f0 i)) B) rr h' := by
  intro m
  induction m with
  | zero =>
    intro i hi
    have e : i = 21 := by omega
    subst e
    refine ev_ift rfl rfl rfl (c_ge (by decide : (21 : Int32) ≤ nI 21)) ?_
    exact ev_wk2 hout rfl (by repeat' (first | exact trivial | refine ⟨rfl, ?_⟩))
  | succ m ih =>
    intro i hi
    refine ev_iff rfl rfl rfl (d_ge (nI_lt3 (b := 21) (by omega) (by omega) (by omega))) ?_
    repeat (first | refine ev_gos 99 rfl ?_ | refine ev_gf2 rfl rfl rfl rfl ?_ | refine ev_gf2 rfl rfl HH_land rfl ?_ | refine ev_gf2 rfl rfl HH_draft rfl ?_ | refine ev_gf2 rfl rfl (by with_reducible assumption) rfl ?_)
    refine iw_28 i rfl rfl (by omega) ?_
    have h3 := ih (i + 1) (by omega)
    rw [← nI_1 i, ← mapP_s] at h3
    repeat (first | refine ev_gos 99 rfl ?_ | refine ev_gf2 rfl rfl rfl rfl ?_ | refine ev_gf2 rfl rfl HH_land rfl ?_ | refine ev_gf2 rfl rfl HH_draft rfl ?_ | refine ev_gf2 rfl rfl (by with_reducible assumption) rfl ?_)
    exact h3
theorem m_north (hT : TT s A t n) (r0 : RS) : ∃ (a g' f' v' : Int32) (rd' : Nat → Int32), ((lpR t n 240 (r0R t n r0)).1 1 = 0 ∧ (lpR t n 240 (r0R t n r0)).1 2 = -1 ∧ (lpR t n 240 (r0R t n r0)).2.2.2 = mapJ 0 r0.2.2.2 245 ∧ (∃ W H P R, RR (lpR t n 240 (r0R t n r0)) rd' W H P R) ∧ ∃ b wr, Ev sc (d + 6) m_M_north 0 (iniL 2 [.ref 26]) [] (HH w s l A B) (some (.int (rd' 2))) (HH w (upA (upA (upA (upA (zS (upA s 25 (-1)) a b g' f' v' wr) 24 0) 23 0) 26 0) 27 0) l (upA (upA (upA (upA A 28 rd') 27 (va_cpy rd' (A 27) 0 0 21)) 29 (upd (mapP bgR (A 29) 58) 57 (rd' 4))) 34 (upd (upd (A 34) 0 0) 1 0)) B)) ∨ (∃ k q, 1 ≤ k ∧ k ≤ 4 ∧ FL (lpR t n 240 (r0R t n r0)) (nI k) (nI q) ∧ Ev sc (d + 6) m_M_north 0 (iniL 2 [.ref 26]) [] (HH w s l A B) (some (.int (-10 - nI k))) (HH w (upA (upA (zS (upA s 25 (-1)) a (nI q) g' f' v' (nI k)) 24 0) 25 (nI q)) l (upA A 28 rd') B)) := by
  have hn : n ≤ 240 := hT.1
  have hT2 : TT (upA s 25 (-1)) A t n := hT
  obtain ⟨ok, a, b, g', f', v', wr, rd', z1, z2⟩ := m_loop (sc := sc) (d := d) (w := w) (l := l) (B := B) hT2 (bz := mapJ 0 r0.2.2.2 245) 240 (r0R t n r0) (mapP (fun _ _ => 0) (A 28) 21) 0 0 0 0 0 0 0 0 (nI (nE t n 0 - skN t n 0)) (nV t n 0) (s 33) (Nat.zero_le n) (by omega) rfl rfl rfl (RV_0 t n r0) ⟨⟨rfl, mapP_in (by decide)⟩, ⟨rfl, mapP_in (by decide)⟩, ⟨rfl, mapP_in (by decide)⟩, mapP_in (by decide), by decide, by decide, by decide, by decide, Or.inl ⟨rfl, rfl, rfl, rfl⟩, ⟨0, by decide, rfl, mapP_in (by decide)⟩, ⟨false, rfl, mapP_in (by decide)⟩, fun p hp => absurd hp (Nat.not_lt_zero p), fun j hj => absurd hj (Nat.not_lt_zero j), rfl, pop_0⟩
  have pre : ∀ (rr : Option Value) (h' : AHp), Ev sc (d + 6) m_M_north 64 [some (.ref 26), some (.int (b01 ok))] [] (HH w (zS (upA s 25 (-1)) a b g' f' v' wr) l (upA A 28 rd') B) rr h' → Ev sc (d + 6) m_M_north 0 (iniL 2 [.ref 26]) [] (HH w s l A B) rr h' := by
    intro rr h' hh
    have z3 := z2 rr h' hh
    have z4 : Ev sc (d + 6) m_M_north 21 [some (.ref 26), none] [] (HH w s l (upA A 28 (mapP (fun _ _ => 0) (A 28) 21)) B) rr h' := by
      have key : Ev sc (d + 6) m_M_north 21 [some (.ref 26), none] [] (HH w (zS s (s 28) (s 29) (s 30) (s 31) (s 32) (s 33)) l (upA A 28 (mapP (fun _ _ => 0) (A 28) 21)) B) rr h' := by
        repeat (first | refine ev_gos 99 rfl ?_ | refine ev_gf2 rfl rfl rfl rfl ?_ | refine ev_gf2 rfl rfl HH_land rfl ?_ | refine ev_gf2 rfl rfl HH_draft rfl ?_ | refine ev_gf2 rfl rfl (by with_reducible assumption) rfl ?_)
        refine pf_M_28 rfl ?_
        rw [zS28]
        repeat (first | refine ev_gos 99 rfl ?_ | refine ev_gf2 rfl rfl rfl rfl ?_ | refine ev_gf2 rfl rfl HH_land rfl ?_ | refine ev_gf2 rfl rfl HH_draft rfl ?_ | refine ev_gf2 rfl rfl (by with_reducible assumption) rfl ?_)
        refine pf_M_25 rfl ?_
        rw [zS25]
        repeat (first | refine ev_gos 99 rfl ?_ | refine ev_gf2 rfl rfl rfl rfl ?_ | refine ev_gf2 rfl rfl HH_land rfl ?_ | refine ev_gf2 rfl rfl HH_draft rfl ?_ | refine ev_gf2 rfl rfl (by with_reducible assumption) rfl ?_)
        refine ev_cv rfl rfl rfl (e_mstep (A := upA A 28 _) hT2 (i := 0) (Nat.zero_le n)) ?_
        repeat (first | refine ev_gos 99 rfl ?_ | refine ev_gf2 rfl rfl rfl rfl ?_ | refine ev_gf2 rfl rfl HH_land rfl ?_ | refine ev_gf2 rfl rfl HH_draft rfl ?_ | refine ev_gf2 rfl rfl (by with_reducible assumption) rfl ?_)
        exact ev_wk2 z3 rfl (by repeat' (first | exact trivial | refine ⟨rfl, ?_⟩))
      rw [zS_id] at key
      exact key
    have z5 := e_mclr (A 28) z4 21 0 rfl
    rw [mapP_0, upA_id] at z5
    repeat (first | refine ev_gos 99 rfl ?_ | refine ev_gf2 rfl rfl rfl rfl ?_ | refine ev_gf2 rfl rfl HH_land rfl ?_ | refine ev_gf2 rfl rfl HH_draft rfl ?_ | refine ev_gf2 rfl rfl (by with_reducible assumption) rfl ?_)
    exact z5
  refine ⟨a, g', f', v', rd', ?_⟩
  rcases z1 with ⟨rfl, o1, o2, o3, o4⟩ | ⟨rfl, k, q, k1, k2, k3, k4, k5⟩
  · refine Or.inl ⟨o1, o2, o3, o4, b, wr, pre _ _ ?_⟩
    repeat (first | refine ev_gos 99 rfl ?_ | refine ev_gf2 rfl rfl rfl rfl ?_ | refine ev_gf2 rfl rfl HH_land rfl ?_ | refine ev_gf2 rfl rfl HH_draft rfl ?_ | refine ev_gf2 rfl rfl (by with_reducible assumption) rfl ?_)
    refine pf_M_24 rfl ?_
    repeat (first | refine ev_gos 99 rfl ?_ | refine ev_gf2 rfl rfl rfl rfl ?_ | refine ev_gf2 rfl rfl HH_land rfl ?_ | refine ev_gf2 rfl rfl HH_draft rfl ?_ | refine ev_gf2 rfl rfl (by with_reducible assumption) rfl ?_)
    (first | refine ev_ift rfl rfl rfl rfl ?_ | refine ev_iff rfl rfl rfl rfl ?_)
    repeat (first | refine ev_gos 99 rfl ?_ | refine ev_gf2 rfl rfl rfl rfl ?_ | refine ev_gf2 rfl rfl HH_land rfl ?_ | refine ev_gf2 rfl rfl HH_draft rfl ?_ | refine ev_gf2 rfl rfl (by with_reducible assumption) rfl ?_)
    refine ev_cs rfl rfl rfl (e_copies (p := 28) (q := 27) (m := 21) (m2 := 21) (f := rd') (g := A 27) (i := 0) (j := 0) (z := 21) rfl rfl (by decide) rfl rfl rfl (by decide) (by decide) (by decide) (by decide)) ?_
    rw [HA_27]
    repeat (first | refine ev_gos 99 rfl ?_ | refine ev_gf2 rfl rfl rfl rfl ?_ | refine ev_gf2 rfl rfl HH_land rfl ?_ | refine ev_gf2 rfl rfl HH_draft rfl ?_ | refine ev_gf2 rfl rfl (by with_reducible assumption) rfl ?_)
    refine ev_cv rfl rfl rfl e_mbegins ?_
    repeat (first | refine ev_gos 99 rfl ?_ | refine ev_gf2 rfl rfl rfl rfl ?_ | refine ev_gf2 rfl rfl HH_land rfl ?_ | refine ev_gf2 rfl rfl HH_draft rfl ?_ | refine ev_gf2 rfl rfl (by with_reducible assumption) rfl ?_)
    refine ev_ix 2 rfl rfl rfl (by decide) (by decide) ?_
    refine ev_ri rfl ?_ ?_
    · show va_cpy rd' (A 27) 0 0 21 2 = rd' 2
      rw [pk_cpy_in (by decide) (by decide)]
    · show HH w _ l (upA (upA (upA (upA A 28 rd') 27 (va_cpy rd' (A 27) 0 0 21)) 29 (upd (mapP bgR (A 29) 58) 57 (va_cpy rd' (A 27) 0 0 21 4))) 34 (upd (upd (A 34) 0 0) 1 0)) B = _
      rw [show va_cpy rd' (A 27) 0 0 21 4 = rd' 4 by rw [pk_cpy_in (by decide) (by decide)]]
  · subst k3
    subst k4
    refine Or.inr ⟨k, q, k1, k2, k5, pre _ _ ?_⟩
    repeat (first | refine ev_gos 99 rfl ?_ | refine ev_gf2 rfl rfl rfl rfl ?_ | refine ev_gf2 rfl rfl HH_land rfl ?_ | refine ev_gf2 rfl rfl HH_draft rfl ?_ | refine ev_gf2 rfl rfl (by with_reducible assumption) rfl ?_)
    refine pf_M_24 rfl ?_
    repeat (first | refine ev_gos 99 rfl ?_ | refine ev_gf2 rfl rfl rfl rfl ?_ | refine ev_gf2 rfl rfl HH_land rfl ?_ | refine ev_gf2 rfl rfl HH_draft rfl ?_ | refine ev_gf2 rfl rfl (by with_reducible assumption) rfl ?_)
    (first | refine ev_ift rfl rfl rfl rfl ?_ | refine ev_iff rfl rfl rfl rfl ?_)
    repeat (first | refine ev_gos 99 rfl ?_ | refine ev_gf2 rfl rfl rfl rfl ?_ | refine ev_gf2 rfl rfl HH_land rfl ?_ | refine ev_gf2 rfl rfl HH_draft rfl ?_ | refine ev_gf2 rfl rfl (by with_reducible assumption) rfl ?_)
    refine pf_M_25 rfl ?_
    repeat (first | refine ev_gos 99 rfl ?_ | refine ev_gf2 rfl rfl rfl rfl ?_ | refine ev_gf2 rfl rfl HH_land rfl ?_ | refine ev_gf2 rfl rfl HH_draft rfl ?_ | refine ev_gf2 rfl rfl (by with_reducible assumption) rfl ?_)
    exact ev_ri rfl rfl rfl
end MNO
