/-! both sides: deeds undone, images -/
section IMG
variable {sc : Scr} {d : Nat} {w : Bool} {s : Nat → Int32} {l : Nat → Int64} {A : Nat → Nat → Int32} {B : Nat → Nat → Int64} {W H P fi c : Nat}
theorem b_undo (h : INV s l A B W H P fi c) (x : Int32) : Both sc (d + 12) m_C_undo 2 m_M_undo 2 [.int x] w s l A B := by
  obtain ⟨hN, hM, hR, hK, hS, ⟨d1, d2, d3, d4, d5, d6⟩, hX, hI, hT, hF, hO, hB⟩ := id h
  cases hb : in3 x 1 30 with
  | false =>
    refine ⟨-1000000002, HH w s l A B, w, s, l, A, B, ?_, ?_, ⟨W, H, P, fi, c, h⟩⟩
    · repeat (first | refine ev_gos 99 rfl ?_ | refine ev_gf2 rfl rfl rfl rfl ?_ | refine ev_gf2 rfl rfl HH_land rfl ?_ | refine ev_gf2 rfl rfl HH_draft rfl ?_ | refine ev_gf2 rfl rfl (by with_reducible assumption) rfl ?_)
      rcases in3_f hb with q | q
      · refine ev_ift rfl rfl rfl (c_lt q) ?_
        repeat (first | refine ev_gos 99 rfl ?_ | refine ev_gf2 rfl rfl rfl rfl ?_ | refine ev_gf2 rfl rfl HH_land rfl ?_ | refine ev_gf2 rfl rfl HH_draft rfl ?_ | refine ev_gf2 rfl rfl (by with_reducible assumption) rfl ?_)
        exact ev_ri rfl rfl rfl
      · by_cases q0 : x < 1
        · refine ev_ift rfl rfl rfl (c_lt q0) ?_
          repeat (first | refine ev_gos 99 rfl ?_ | refine ev_gf2 rfl rfl rfl rfl ?_ | refine ev_gf2 rfl rfl HH_land rfl ?_ | refine ev_gf2 rfl rfl HH_draft rfl ?_ | refine ev_gf2 rfl rfl (by with_reducible assumption) rfl ?_)
          exact ev_ri rfl rfl rfl
        · refine ev_iff rfl rfl rfl (d_lt q0) ?_
          repeat (first | refine ev_gos 99 rfl ?_ | refine ev_gf2 rfl rfl rfl rfl ?_ | refine ev_gf2 rfl rfl HH_land rfl ?_ | refine ev_gf2 rfl rfl HH_draft rfl ?_ | refine ev_gf2 rfl rfl (by with_reducible assumption) rfl ?_)
          refine ev_iff rfl rfl rfl (d_le (fun z => le_nlt z q)) ?_
          repeat (first | refine ev_gos 99 rfl ?_ | refine ev_gf2 rfl rfl rfl rfl ?_ | refine ev_gf2 rfl rfl HH_land rfl ?_ | refine ev_gf2 rfl rfl HH_draft rfl ?_ | refine ev_gf2 rfl rfl (by with_reducible assumption) rfl ?_)
          exact ev_ri rfl rfl rfl
    · repeat (first | refine ev_gos 99 rfl ?_ | refine ev_gf2 rfl rfl rfl rfl ?_ | refine ev_gf2 rfl rfl HH_land rfl ?_ | refine ev_gf2 rfl rfl HH_draft rfl ?_ | refine ev_gf2 rfl rfl (by with_reducible assumption) rfl ?_)
      refine ev_cs rfl rfl rfl (e_inB x 1 30 rfl (by decide) (by decide)) ?_
      rw [hb]
      (first | refine ev_ift rfl rfl rfl rfl ?_ | refine ev_iff rfl rfl rfl rfl ?_)
      repeat (first | refine ev_gos 99 rfl ?_ | refine ev_gf2 rfl rfl rfl rfl ?_ | refine ev_gf2 rfl rfl HH_land rfl ?_ | refine ev_gf2 rfl rfl HH_draft rfl ?_ | refine ev_gf2 rfl rfl (by with_reducible assumption) rfl ?_)
      exact ev_ri rfl rfl rfl
  | true =>
    obtain ⟨q1, q2⟩ := in3_t hb
    obtain ⟨n, n0, n1, n2⟩ := rng32 (a := 1) (b := 30) (by decide) (by decide) hb
    subst n2
    by_cases hn : n ≤ c
    · have hlt : c - n < c := by omega
      have hrow := d6 (c - n) hlt
      have hpl : (fi + (c - n)) % 30 < 30 := Nat.mod_lt _ (by decide)
      have e1 : s 7 - nI n = nI (c - n) := by rw [d3, pk_sub hn]
      have e2 : s 23 - nI n = nI (c - n) := by rw [d5, pk_sub hn]
      refine ⟨A 16 ((fi + (c - n)) % 30 * 58 + 57), HH w (upA (upA (upA s 7 (nI (c - n))) 9 (A 16 ((fi + (c - n)) % 30 * 58 + 56))) 10 (A 16 ((fi + (c - n)) % 30 * 58 + 57))) l (upA (upA A 10 (va_cpy (A 16) (A 10) ((fi + (c - n)) % 30 * 58) 0 49)) 11 (va_cpy (A 16) (A 11) ((fi + (c - n)) % 30 * 58 + 49) 0 7)) B, w, upA (upA (upA (upA s 7 (nI (c - n))) 9 (A 16 ((fi + (c - n)) % 30 * 58 + 56))) 10 (A 16 ((fi + (c - n)) % 30 * 58 + 57))) 23 (nI (c - n)), l, upA (upA (upA A 10 (va_cpy (A 16) (A 10) ((fi + (c - n)) % 30 * 58) 0 49)) 11 (va_cpy (A 16) (A 11) ((fi + (c - n)) % 30 * 58 + 49) 0 7)) 29 (va_cpy (A 32) (A 29) (58 * (c - n)) 0 58), B, ?_, ?_, ⟨W, H, P, fi, c - n, hN, hM, hR, hK, SPR_take hrow _ _ _, ⟨d1, d2, rfl, by omega, rfl, fun i hi => d6 i (by omega)⟩, hX, hI, hT, hF, hO, hB⟩⟩
      · repeat (first | refine ev_gos 99 rfl ?_ | refine ev_gf2 rfl rfl rfl rfl ?_ | refine ev_gf2 rfl rfl HH_land rfl ?_ | refine ev_gf2 rfl rfl HH_draft rfl ?_ | refine ev_gf2 rfl rfl (by with_reducible assumption) rfl ?_)
        refine ev_iff rfl rfl rfl (d_lt q1) ?_
        repeat (first | refine ev_gos 99 rfl ?_ | refine ev_gf2 rfl rfl rfl rfl ?_ | refine ev_gf2 rfl rfl HH_land rfl ?_ | refine ev_gf2 rfl rfl HH_draft rfl ?_ | refine ev_gf2 rfl rfl (by with_reducible assumption) rfl ?_)
        refine ev_ift rfl rfl rfl (c_le (nlt_le3 q2)) ?_
        repeat (first | refine ev_gos 99 rfl ?_ | refine ev_gf2 rfl rfl rfl rfl ?_ | refine ev_gf2 rfl rfl HH_land rfl ?_ | refine ev_gf2 rfl rfl HH_draft rfl ?_ | refine ev_gf2 rfl rfl (by with_reducible assumption) rfl ?_)
        refine ev_ift rfl rfl rfl (c_le (show nI n ≤ s 7 by rw [d3]; exact (nI_leI (by omega) (by omega)).mpr hn)) ?_
        repeat (first | refine ev_gos 99 rfl ?_ | refine ev_gf2 rfl rfl rfl rfl ?_ | refine ev_gf2 rfl rfl HH_land rfl ?_ | refine ev_gf2 rfl rfl HH_draft rfl ?_ | refine ev_gf2 rfl rfl (by with_reducible assumption) rfl ?_)
        refine pf_C_7 rfl ?_
        refine (?_ : Ek sc _ m_C_undo 35 _ _ (HH w (upA s 7 (s 7 - nI n)) l A B) _ _ _ _)
        rw [e1]
        repeat (first | refine ev_gos 99 rfl ?_ | refine ev_gf2 rfl rfl rfl rfl ?_ | refine ev_gf2 rfl rfl HH_land rfl ?_ | refine ev_gf2 rfl rfl HH_draft rfl ?_ | refine ev_gf2 rfl rfl (by with_reducible assumption) rfl ?_)
        refine ev_cv rfl rfl rfl (e_placeOfDeed (s := upA s 7 (nI (c - n))) (f := fi) (i := c - n) d1 d2 (by omega)) ?_
        repeat (first | refine ev_gos 99 rfl ?_ | refine ev_gf2 rfl rfl rfl rfl ?_ | refine ev_gf2 rfl rfl HH_land rfl ?_ | refine ev_gf2 rfl rfl HH_draft rfl ?_ | refine ev_gf2 rfl rfl (by with_reducible assumption) rfl ?_)
        refine ev_cv rfl rfl rfl (e_takeD hpl) ?_
        repeat (first | refine ev_gos 99 rfl ?_ | refine ev_gf2 rfl rfl rfl rfl ?_ | refine ev_gf2 rfl rfl HH_land rfl ?_ | refine ev_gf2 rfl rfl HH_draft rfl ?_ | refine ev_gf2 rfl rfl (by with_reducible assumption) rfl ?_)
        exact ev_ri rfl rfl rfl
      · repeat (first | refine ev_gos 99 rfl ?_ | refine ev_gf2 rfl rfl rfl rfl ?_ | refine ev_gf2 rfl rfl HH_land rfl ?_ | refine ev_gf2 rfl rfl HH_draft rfl ?_ | refine ev_gf2 rfl rfl (by with_reducible assumption) rfl ?_)
        refine ev_cs rfl rfl rfl (e_inB (nI n) 1 30 rfl (by decide) (by decide)) ?_
        rw [hb]
        (first | refine ev_ift rfl rfl rfl rfl ?_ | refine ev_iff rfl rfl rfl rfl ?_)
        repeat (first | refine ev_gos 99 rfl ?_ | refine ev_gf2 rfl rfl rfl rfl ?_ | refine ev_gf2 rfl rfl HH_land rfl ?_ | refine ev_gf2 rfl rfl HH_draft rfl ?_ | refine ev_gf2 rfl rfl (by with_reducible assumption) rfl ?_)
        refine ev_ift rfl rfl rfl (c_le (show nI n ≤ s 23 by rw [d5]; exact (nI_leI (by omega) (by omega)).mpr hn)) ?_
        repeat (first | refine ev_gos 99 rfl ?_ | refine ev_gf2 rfl rfl rfl rfl ?_ | refine ev_gf2 rfl rfl HH_land rfl ?_ | refine ev_gf2 rfl rfl HH_draft rfl ?_ | refine ev_gf2 rfl rfl (by with_reducible assumption) rfl ?_)
        refine pf_M_23 rfl ?_
        refine (?_ : Ek sc _ m_M_undo 36 _ _ (HH w (upA (upA (upA (upA s 7 (nI (c - n))) 9 (A 16 ((fi + (c - n)) % 30 * 58 + 56))) 10 (A 16 ((fi + (c - n)) % 30 * 58 + 57))) 23 (s 23 - nI n)) l (upA (upA A 10 (va_cpy (A 16) (A 10) ((fi + (c - n)) % 30 * 58) 0 49)) 11 (va_cpy (A 16) (A 11) ((fi + (c - n)) % 30 * 58 + 49) 0 7)) B) _ _ _ _)
        rw [e2]
        repeat (first | refine ev_gos 99 rfl ?_ | refine ev_gf2 rfl rfl rfl rfl ?_ | refine ev_gf2 rfl rfl HH_land rfl ?_ | refine ev_gf2 rfl rfl HH_draft rfl ?_ | refine ev_gf2 rfl rfl (by with_reducible assumption) rfl ?_)
        refine ev_cs rfl rfl rfl (e_copies (p := 32) (q := 29) (m := 1740) (m2 := 58) (f := A 32) (g := A 29) (i := 58 * (c - n)) (j := 0) (z := 58) rfl rfl (by decide) (pk_mul 58 (c - n)) rfl rfl (by omega) (by decide) (by decide) (by decide)) ?_
        rw [HA_29]
        repeat (first | refine ev_gos 99 rfl ?_ | refine ev_gf2 rfl rfl rfl rfl ?_ | refine ev_gf2 rfl rfl HH_land rfl ?_ | refine ev_gf2 rfl rfl HH_draft rfl ?_ | refine ev_gf2 rfl rfl (by with_reducible assumption) rfl ?_)
        refine ev_ix 56 rfl rfl rfl (by decide) (by decide) ?_
        refine ev_ri rfl ?_ rfl
        show va_cpy (A 32) (A 29) (58 * (c - n)) 0 58 56 = _
        rw [pk_cpy_in (by decide) (by decide)]
        exact hrow.2.2.2.2.2.2.1
    · refine ⟨-1000000003, HH w s l A B, w, s, l, A, B, ?_, ?_, ⟨W, H, P, fi, c, h⟩⟩
      · repeat (first | refine ev_gos 99 rfl ?_ | refine ev_gf2 rfl rfl rfl rfl ?_ | refine ev_gf2 rfl rfl HH_land rfl ?_ | refine ev_gf2 rfl rfl HH_draft rfl ?_ | refine ev_gf2 rfl rfl (by with_reducible assumption) rfl ?_)
        refine ev_iff rfl rfl rfl (d_lt q1) ?_
        repeat (first | refine ev_gos 99 rfl ?_ | refine ev_gf2 rfl rfl rfl rfl ?_ | refine ev_gf2 rfl rfl HH_land rfl ?_ | refine ev_gf2 rfl rfl HH_draft rfl ?_ | refine ev_gf2 rfl rfl (by with_reducible assumption) rfl ?_)
        refine ev_ift rfl rfl rfl (c_le (nlt_le3 q2)) ?_
        repeat (first | refine ev_gos 99 rfl ?_ | refine ev_gf2 rfl rfl rfl rfl ?_ | refine ev_gf2 rfl rfl HH_land rfl ?_ | refine ev_gf2 rfl rfl HH_draft rfl ?_ | refine ev_gf2 rfl rfl (by with_reducible assumption) rfl ?_)
        refine ev_iff rfl rfl rfl (d_le (show ¬ nI n ≤ s 7 by rw [d3]; exact fun z => hn ((nI_leI (by omega) (by omega)).mp z))) ?_
        repeat (first | refine ev_gos 99 rfl ?_ | refine ev_gf2 rfl rfl rfl rfl ?_ | refine ev_gf2 rfl rfl HH_land rfl ?_ | refine ev_gf2 rfl rfl HH_draft rfl ?_ | refine ev_gf2 rfl rfl (by with_reducible assumption) rfl ?_)
        exact ev_ri rfl rfl rfl
      · repeat (first | refine ev_gos 99 rfl ?_ | refine ev_gf2 rfl rfl rfl rfl ?_ | refine ev_gf2 rfl rfl HH_land rfl ?_ | refine ev_gf2 rfl rfl HH_draft rfl ?_ | refine ev_gf2 rfl rfl (by with_reducible assumption) rfl ?_)
        refine ev_cs rfl rfl rfl (e_inB (nI n) 1 30 rfl (by decide) (by decide)) ?_
        rw [hb]
        (first | refine ev_ift rfl rfl rfl rfl ?_ | refine ev_iff rfl rfl rfl rfl ?_)
        repeat (first | refine ev_gos 99 rfl ?_ | refine ev_gf2 rfl rfl rfl rfl ?_ | refine ev_gf2 rfl rfl HH_land rfl ?_ | refine ev_gf2 rfl rfl HH_draft rfl ?_ | refine ev_gf2 rfl rfl (by with_reducible assumption) rfl ?_)
        refine ev_iff rfl rfl rfl (d_le (show ¬ nI n ≤ s 23 by rw [d5]; exact fun z => hn ((nI_leI (by omega) (by omega)).mp z))) ?_
        repeat (first | refine ev_gos 99 rfl ?_ | refine ev_gf2 rfl rfl rfl rfl ?_ | refine ev_gf2 rfl rfl HH_land rfl ?_ | refine ev_gf2 rfl rfl HH_draft rfl ?_ | refine ev_gf2 rfl rfl (by with_reducible assumption) rfl ?_)
        exact ev_ri rfl rfl rfl
theorem DD_0 {rk : Int64} {kd_ R M : Nat → Int32} (f : Nat) : DD W H P rk kd_ f 0 R M := fun i hi => absurd hi (Nat.not_lt_zero i)
theorem b_keep (h : INV s l A B W H P fi c) (x : Int32) : Both sc (d + 12) m_C_keep 2 m_M_keep 2 [.int x] w s l A B := by
  obtain ⟨hN, hM, hR, hK, hS, ⟨d1, d2, d3, d4, d5, d6⟩, ⟨⟨t, t1, t2⟩, hX2⟩, hI, hT, hF, hO, hB⟩ := id h
  have e1 : in3 x 0 1 = inR x 2 := in3_R x (N := 2) (by decide)
  cases hb : inR x 2 with
  | false =>
    refine ⟨-1000000001, HH w s l A B, w, s, l, A, B, ?_, ?_, ⟨W, H, P, fi, c, h⟩⟩
    · repeat (first | refine ev_gos 99 rfl ?_ | refine ev_gf2 rfl rfl rfl rfl ?_ | refine ev_gf2 rfl rfl HH_land rfl ?_ | refine ev_gf2 rfl rfl HH_draft rfl ?_ | refine ev_gf2 rfl rfl (by with_reducible assumption) rfl ?_)
      refine ev_cv rfl rfl rfl (e_isImage _ x) ?_
      rw [hb]
      (first | refine ev_ift rfl rfl rfl rfl ?_ | refine ev_iff rfl rfl rfl rfl ?_)
      repeat (first | refine ev_gos 99 rfl ?_ | refine ev_gf2 rfl rfl rfl rfl ?_ | refine ev_gf2 rfl rfl HH_land rfl ?_ | refine ev_gf2 rfl rfl HH_draft rfl ?_ | refine ev_gf2 rfl rfl (by with_reducible assumption) rfl ?_)
      exact ev_ri rfl rfl rfl
    · repeat (first | refine ev_gos 99 rfl ?_ | refine ev_gf2 rfl rfl rfl rfl ?_ | refine ev_gf2 rfl rfl HH_land rfl ?_ | refine ev_gf2 rfl rfl HH_draft rfl ?_ | refine ev_gf2 rfl rfl (by with_reducible assumption) rfl ?_)
      refine ev_cs rfl rfl rfl (e_inB x 0 1 rfl (by decide) (by decide)) ?_
      rw [e1, hb]
      (first | refine ev_ift rfl rfl rfl rfl ?_ | refine ev_iff rfl rfl rfl rfl ?_)
      repeat (first | refine ev_gos 99 rfl ?_ | refine ev_gf2 rfl rfl rfl rfl ?_ | refine ev_gf2 rfl rfl HH_land rfl ?_ | refine ev_gf2 rfl rfl HH_draft rfl ?_ | refine ev_gf2 rfl rfl (by with_reducible assumption) rfl ?_)
      exact ev_ri rfl rfl rfl
  | true =>
    obtain ⟨k, k1, k2⟩ := inR_of (by decide) hb
    subst k2
    have hI2 : IM W H P (l 3) (A 4) (putS (A 18) k (A 10) (A 11) (s 9) (s 10)) (upd (A 19) k (s 8)) (upd (A 20) k 1) (upd (va_cpy (A 29) (A 33) 0 (59 * k) 58) (59 * k + 58) (s 8)) (upd (A 34) k 1) := by
      intro i hi
      by_cases e : i = k
      · subst e
        refine ⟨by rw [pk_us, pk_us], Or.inr ⟨pk_us, SPR_new hS (fun q hq => ?_), by rw [pk_us]; exact ⟨t, t1, t2⟩, by rw [pk_us, pk_us]⟩⟩
        rw [pk_un (by omega), pk_cpy_in (by omega) (by omega)]
        congr 1
        omega
      · obtain ⟨j1, j2⟩ := hI i hi
        refine ⟨by rw [pk_un e, pk_un e]; exact j1, ?_⟩
        rw [pk_un e, pk_un e]
        rcases j2 with j2 | ⟨j2, j3, j4, j5⟩
        · exact Or.inl j2
        · refine Or.inr ⟨j2, SPR_old j3 (fun q hq => putS_out _ _ _ _ _ _ (blk_ne e hq)) (fun q hq => ?_), j4, ?_⟩
          · rw [pk_un (by omega), pk_cpy_out (by omega)]
          · rw [pk_un (by omega), pk_cpy_out (by omega)]
            exact j5
    refine ⟨1, HH w (upA (upA s 6 0) 7 0) l (upA (upA (upA A 18 (putS (A 18) k (A 10) (A 11) (s 9) (s 10))) 19 (upd (A 19) k (s 8))) 20 (upd (A 20) k 1)) B, w, upA (upA (upA s 6 0) 7 0) 23 0, l, upA (upA (upA (upA (upA A 18 (putS (A 18) k (A 10) (A 11) (s 9) (s 10))) 19 (upd (A 19) k (s 8))) 20 (upd (A 20) k 1)) 33 (upd (va_cpy (A 29) (A 33) 0 (59 * k) 58) (59 * k + 58) (s 8))) 34 (upd (A 34) k 1), B, ?_, ?_, ⟨W, H, P, 0, 0, hN, hM, hR, hK, hS, ⟨rfl, by decide, rfl, by decide, rfl, DD_0 0⟩, ⟨⟨t, t1, t2⟩, hX2⟩, hI2, hT, hF, hO, hB⟩⟩
    · repeat (first | refine ev_gos 99 rfl ?_ | refine ev_gf2 rfl rfl rfl rfl ?_ | refine ev_gf2 rfl rfl HH_land rfl ?_ | refine ev_gf2 rfl rfl HH_draft rfl ?_ | refine ev_gf2 rfl rfl (by with_reducible assumption) rfl ?_)
      refine ev_cv rfl rfl rfl (e_isImage _ _) ?_
      rw [hb]
      (first | refine ev_ift rfl rfl rfl rfl ?_ | refine ev_iff rfl rfl rfl rfl ?_)
      repeat (first | refine ev_gos 99 rfl ?_ | refine ev_gf2 rfl rfl rfl rfl ?_ | refine ev_gf2 rfl rfl HH_land rfl ?_ | refine ev_gf2 rfl rfl HH_draft rfl ?_ | refine ev_gf2 rfl rfl (by with_reducible assumption) rfl ?_)
      refine ev_cv rfl rfl rfl (e_putI k1) ?_
      repeat (first | refine ev_gos 99 rfl ?_ | refine ev_gf2 rfl rfl rfl rfl ?_ | refine ev_gf2 rfl rfl HH_land rfl ?_ | refine ev_gf2 rfl rfl HH_draft rfl ?_ | refine ev_gf2 rfl rfl (by with_reducible assumption) rfl ?_)
      refine is_19 rfl (inI k1 (by decide)) ?_
      rw [nI_clamp (by omega)]
      repeat (first | refine ev_gos 99 rfl ?_ | refine ev_gf2 rfl rfl rfl rfl ?_ | refine ev_gf2 rfl rfl HH_land rfl ?_ | refine ev_gf2 rfl rfl HH_draft rfl ?_ | refine ev_gf2 rfl rfl (by with_reducible assumption) rfl ?_)
      refine is_20 rfl (inI k1 (by decide)) ?_
      rw [nI_clamp (by omega)]
      repeat (first | refine ev_gos 99 rfl ?_ | refine ev_gf2 rfl rfl rfl rfl ?_ | refine ev_gf2 rfl rfl HH_land rfl ?_ | refine ev_gf2 rfl rfl HH_draft rfl ?_ | refine ev_gf2 rfl rfl (by with_reducible assumption) rfl ?_)
      refine ev_cv rfl rfl rfl e_forget ?_
      repeat (first | refine ev_gos 99 rfl ?_ | refine ev_gf2 rfl rfl rfl rfl ?_ | refine ev_gf2 rfl rfl HH_land rfl ?_ | refine ev_gf2 rfl rfl HH_draft rfl ?_ | refine ev_gf2 rfl rfl (by with_reducible assumption) rfl ?_)
      exact ev_ri rfl rfl rfl
    · repeat (first | refine ev_gos 99 rfl ?_ | refine ev_gf2 rfl rfl rfl rfl ?_ | refine ev_gf2 rfl rfl HH_land rfl ?_ | refine ev_gf2 rfl rfl HH_draft rfl ?_ | refine ev_gf2 rfl rfl (by with_reducible assumption) rfl ?_)
      refine ev_cs rfl rfl rfl (e_inB (nI k) 0 1 rfl (by decide) (by decide)) ?_
      rw [e1, hb]
      (first | refine ev_ift rfl rfl rfl rfl ?_ | refine ev_iff rfl rfl rfl rfl ?_)
      repeat (first | refine ev_gos 99 rfl ?_ | refine ev_gf2 rfl rfl rfl rfl ?_ | refine ev_gf2 rfl rfl HH_land rfl ?_ | refine ev_gf2 rfl rfl HH_draft rfl ?_ | refine ev_gf2 rfl rfl (by with_reducible assumption) rfl ?_)
      refine ev_cs rfl rfl rfl (e_copies (p := 29) (q := 33) (m := 58) (m2 := 118) (f := A 29) (g := A 33) (i := 0) (j := 59 * k) (z := 58) rfl rfl (by decide) rfl (pk_mul 59 k) rfl (by decide) (by omega) (by decide) (by decide)) ?_
      rw [HA_33]
      repeat (first | refine ev_gos 99 rfl ?_ | refine ev_gf2 rfl rfl rfl rfl ?_ | refine ev_gf2 rfl rfl HH_land rfl ?_ | refine ev_gf2 rfl rfl HH_draft rfl ?_ | refine ev_gf2 rfl rfl (by with_reducible assumption) rfl ?_)
      have e2 : (59 : Int32) * nI k + 58 = nI (59 * k + 58) := by
        rw [show (59 : Int32) * nI k = nI (59 * k) from pk_mul 59 k]
        exact nI_add (59 * k) 58
      refine iw_33 (59 * k + 58) rfl e2 (by omega) ?_
      have e3 : (l 8).toInt32 = s 8 := by rw [hX2, t2, nI_l t1, lN_i]
      rw [e3]
      repeat (first | refine ev_gos 99 rfl ?_ | refine ev_gf2 rfl rfl rfl rfl ?_ | refine ev_gf2 rfl rfl HH_land rfl ?_ | refine ev_gf2 rfl rfl HH_draft rfl ?_ | refine ev_gf2 rfl rfl (by with_reducible assumption) rfl ?_)
      refine is_34 rfl (inI k1 (by decide)) ?_
      rw [nI_clamp (by omega)]
      repeat (first | refine ev_gos 99 rfl ?_ | refine ev_gf2 rfl rfl rfl rfl ?_ | refine ev_gf2 rfl rfl HH_land rfl ?_ | refine ev_gf2 rfl rfl HH_draft rfl ?_ | refine ev_gf2 rfl rfl (by with_reducible assumption) rfl ?_)
      refine pf_M_23 rfl ?_
      repeat (first | refine ev_gos 99 rfl ?_ | refine ev_gf2 rfl rfl rfl rfl ?_ | refine ev_gf2 rfl rfl HH_land rfl ?_ | refine ev_gf2 rfl rfl HH_draft rfl ?_ | refine ev_gf2 rfl rfl (by with_reducible assumption) rfl ?_)
      exact ev_ri rfl rfl rfl
theorem b_goBack (h : INV s l A B W H P fi c) (x : Int32) : Both sc (d + 12) m_C_goBack 2 m_M_goBack 2 [.int x] w s l A B := by
  obtain ⟨hN, hM, hR, hK, hS, ⟨d1, d2, d3, d4, d5, d6⟩, hX, hI, hT, hF, hO, hB⟩ := id h
  have e1 : in3 x 0 1 = inR x 2 := in3_R x (N := 2) (by decide)
  cases hb : inR x 2 with
  | false =>
    refine ⟨-1000000001, HH w s l A B, w, s, l, A, B, ?_, ?_, ⟨W, H, P, fi, c, h⟩⟩
    · repeat (first | refine ev_gos 99 rfl ?_ | refine ev_gf2 rfl rfl rfl rfl ?_ | refine ev_gf2 rfl rfl HH_land rfl ?_ | refine ev_gf2 rfl rfl HH_draft rfl ?_ | refine ev_gf2 rfl rfl (by with_reducible assumption) rfl ?_)
      refine ev_cv rfl rfl rfl (e_isImage _ x) ?_
      rw [hb]
      (first | refine ev_ift rfl rfl rfl rfl ?_ | refine ev_iff rfl rfl rfl rfl ?_)
      repeat (first | refine ev_gos 99 rfl ?_ | refine ev_gf2 rfl rfl rfl rfl ?_ | refine ev_gf2 rfl rfl HH_land rfl ?_ | refine ev_gf2 rfl rfl HH_draft rfl ?_ | refine ev_gf2 rfl rfl (by with_reducible assumption) rfl ?_)
      exact ev_ri rfl rfl rfl
    · repeat (first | refine ev_gos 99 rfl ?_ | refine ev_gf2 rfl rfl rfl rfl ?_ | refine ev_gf2 rfl rfl HH_land rfl ?_ | refine ev_gf2 rfl rfl HH_draft rfl ?_ | refine ev_gf2 rfl rfl (by with_reducible assumption) rfl ?_)
      refine ev_cs rfl rfl rfl (e_inB x 0 1 rfl (by decide) (by decide)) ?_
      rw [e1, hb]
      (first | refine ev_ift rfl rfl rfl rfl ?_ | refine ev_iff rfl rfl rfl rfl ?_)
      repeat (first | refine ev_gos 99 rfl ?_ | refine ev_gf2 rfl rfl rfl rfl ?_ | refine ev_gf2 rfl rfl HH_land rfl ?_ | refine ev_gf2 rfl rfl HH_draft rfl ?_ | refine ev_gf2 rfl rfl (by with_reducible assumption) rfl ?_)
      exact ev_ri rfl rfl rfl
  | true =>
    obtain ⟨k, k1, k2⟩ := inR_of (by decide) hb
    subst k2
    obtain ⟨j1, j2⟩ := hI k k1
    rcases j2 with j2 | ⟨j2, j3, j4, j5⟩
    · refine ⟨-1000000003, HH w s l A B, w, s, l, A, B, ?_, ?_, ⟨W, H, P, fi, c, h⟩⟩
      · repeat (first | refine ev_gos 99 rfl ?_ | refine ev_gf2 rfl rfl rfl rfl ?_ | refine ev_gf2 rfl rfl HH_land rfl ?_ | refine ev_gf2 rfl rfl HH_draft rfl ?_ | refine ev_gf2 rfl rfl (by with_reducible assumption) rfl ?_)
        refine ev_cv rfl rfl rfl (e_isImage _ _) ?_
        rw [hb]
        (first | refine ev_ift rfl rfl rfl rfl ?_ | refine ev_iff rfl rfl rfl rfl ?_)
        repeat (first | refine ev_gos 99 rfl ?_ | refine ev_gf2 rfl rfl rfl rfl ?_ | refine ev_gf2 rfl rfl HH_land rfl ?_ | refine ev_gf2 rfl rfl HH_draft rfl ?_ | refine ev_gf2 rfl rfl (by with_reducible assumption) rfl ?_)
        refine ev_ba rfl rfl (inI k1 (by decide)) ?_
        rw [nI_clamp (by omega), j2]
        (first | refine ev_ift rfl rfl rfl rfl ?_ | refine ev_iff rfl rfl rfl rfl ?_)
        repeat (first | refine ev_gos 99 rfl ?_ | refine ev_gf2 rfl rfl rfl rfl ?_ | refine ev_gf2 rfl rfl HH_land rfl ?_ | refine ev_gf2 rfl rfl HH_draft rfl ?_ | refine ev_gf2 rfl rfl (by with_reducible assumption) rfl ?_)
        exact ev_ri rfl rfl rfl
      · repeat (first | refine ev_gos 99 rfl ?_ | refine ev_gf2 rfl rfl rfl rfl ?_ | refine ev_gf2 rfl rfl HH_land rfl ?_ | refine ev_gf2 rfl rfl HH_draft rfl ?_ | refine ev_gf2 rfl rfl (by with_reducible assumption) rfl ?_)
        refine ev_cs rfl rfl rfl (e_inB (nI k) 0 1 rfl (by decide) (by decide)) ?_
        rw [e1, hb]
        (first | refine ev_ift rfl rfl rfl rfl ?_ | refine ev_iff rfl rfl rfl rfl ?_)
        repeat (first | refine ev_gos 99 rfl ?_ | refine ev_gf2 rfl rfl rfl rfl ?_ | refine ev_gf2 rfl rfl HH_land rfl ?_ | refine ev_gf2 rfl rfl HH_draft rfl ?_ | refine ev_gf2 rfl rfl (by with_reducible assumption) rfl ?_)
        refine ev_ba rfl rfl (inI k1 (by decide)) ?_
        rw [nI_clamp (by omega), j1, j2]
        (first | refine ev_ift rfl rfl rfl rfl ?_ | refine ev_iff rfl rfl rfl rfl ?_)
        repeat (first | refine ev_gos 99 rfl ?_ | refine ev_gf2 rfl rfl rfl rfl ?_ | refine ev_gf2 rfl rfl HH_land rfl ?_ | refine ev_gf2 rfl rfl HH_draft rfl ?_ | refine ev_gf2 rfl rfl (by with_reducible assumption) rfl ?_)
        exact ev_ri rfl rfl rfl
    · refine ⟨1, HH w (upA (upA (upA (upA (upA s 9 (A 18 (k * 58 + 56))) 10 (A 18 (k * 58 + 57))) 8 (A 19 k)) 6 0) 7 0) l (upA (upA A 10 (va_cpy (A 18) (A 10) (k * 58) 0 49)) 11 (va_cpy (A 18) (A 11) (k * 58 + 49) 0 7)) B, w, upA (upA (upA (upA (upA (upA s 9 (A 18 (k * 58 + 56))) 10 (A 18 (k * 58 + 57))) 8 (A 19 k)) 6 0) 7 0) 23 0, upA l 8 (A 33 (59 * k + 58)).toInt64, upA (upA (upA A 10 (va_cpy (A 18) (A 10) (k * 58) 0 49)) 11 (va_cpy (A 18) (A 11) (k * 58 + 49) 0 7)) 29 (va_cpy (A 33) (A 29) (59 * k) 0 58), B, ?_, ?_, ⟨W, H, P, 0, 0, hN, hM, hR, hK, SPR_take j3 _ _ _, ⟨rfl, by decide, rfl, by decide, rfl, DD_0 0⟩, ⟨j4, congrArg Int32.toInt64 j5⟩, hI, hT, hF, hO, hB⟩⟩
      · repeat (first | refine ev_gos 99 rfl ?_ | refine ev_gf2 rfl rfl rfl rfl ?_ | refine ev_gf2 rfl rfl HH_land rfl ?_ | refine ev_gf2 rfl rfl HH_draft rfl ?_ | refine ev_gf2 rfl rfl (by with_reducible assumption) rfl ?_)
        refine ev_cv rfl rfl rfl (e_isImage _ _) ?_
        rw [hb]
        (first | refine ev_ift rfl rfl rfl rfl ?_ | refine ev_iff rfl rfl rfl rfl ?_)
        repeat (first | refine ev_gos 99 rfl ?_ | refine ev_gf2 rfl rfl rfl rfl ?_ | refine ev_gf2 rfl rfl HH_land rfl ?_ | refine ev_gf2 rfl rfl HH_draft rfl ?_ | refine ev_gf2 rfl rfl (by with_reducible assumption) rfl ?_)
        refine ev_ba rfl rfl (inI k1 (by decide)) ?_
        rw [nI_clamp (by omega), j2]
        (first | refine ev_ift rfl rfl rfl rfl ?_ | refine ev_iff rfl rfl rfl rfl ?_)
        repeat (first | refine ev_gos 99 rfl ?_ | refine ev_gf2 rfl rfl rfl rfl ?_ | refine ev_gf2 rfl rfl HH_land rfl ?_ | refine ev_gf2 rfl rfl HH_draft rfl ?_ | refine ev_gf2 rfl rfl (by with_reducible assumption) rfl ?_)
        refine ev_cv rfl rfl rfl (e_takeI k1) ?_
        repeat (first | refine ev_gos 99 rfl ?_ | refine ev_gf2 rfl rfl rfl rfl ?_ | refine ev_gf2 rfl rfl HH_land rfl ?_ | refine ev_gf2 rfl rfl HH_draft rfl ?_ | refine ev_gf2 rfl rfl (by with_reducible assumption) rfl ?_)
        refine ev_ix k rfl rfl rfl (by omega) (by decide) ?_
        refine pf_C_8 rfl ?_
        repeat (first | refine ev_gos 99 rfl ?_ | refine ev_gf2 rfl rfl rfl rfl ?_ | refine ev_gf2 rfl rfl HH_land rfl ?_ | refine ev_gf2 rfl rfl HH_draft rfl ?_ | refine ev_gf2 rfl rfl (by with_reducible assumption) rfl ?_)
        refine ev_cv rfl rfl rfl e_forget ?_
        repeat (first | refine ev_gos 99 rfl ?_ | refine ev_gf2 rfl rfl rfl rfl ?_ | refine ev_gf2 rfl rfl HH_land rfl ?_ | refine ev_gf2 rfl rfl HH_draft rfl ?_ | refine ev_gf2 rfl rfl (by with_reducible assumption) rfl ?_)
        exact ev_ri rfl rfl rfl
      · repeat (first | refine ev_gos 99 rfl ?_ | refine ev_gf2 rfl rfl rfl rfl ?_ | refine ev_gf2 rfl rfl HH_land rfl ?_ | refine ev_gf2 rfl rfl HH_draft rfl ?_ | refine ev_gf2 rfl rfl (by with_reducible assumption) rfl ?_)
        refine ev_cs rfl rfl rfl (e_inB (nI k) 0 1 rfl (by decide) (by decide)) ?_
        rw [e1, hb]
        (first | refine ev_ift rfl rfl rfl rfl ?_ | refine ev_iff rfl rfl rfl rfl ?_)
        repeat (first | refine ev_gos 99 rfl ?_ | refine ev_gf2 rfl rfl rfl rfl ?_ | refine ev_gf2 rfl rfl HH_land rfl ?_ | refine ev_gf2 rfl rfl HH_draft rfl ?_ | refine ev_gf2 rfl rfl (by with_reducible assumption) rfl ?_)
        refine ev_ba rfl rfl (inI k1 (by decide)) ?_
        refine (?_ : Ek sc _ m_M_goBack 19 _ [.int (A 34 (nI k).toNatClampNeg)] _ _ _ _ _)
        rw [nI_clamp (by omega), j1, j2]
        (first | refine ev_ift rfl rfl rfl rfl ?_ | refine ev_iff rfl rfl rfl rfl ?_)
        repeat (first | refine ev_gos 99 rfl ?_ | refine ev_gf2 rfl rfl rfl rfl ?_ | refine ev_gf2 rfl rfl HH_land rfl ?_ | refine ev_gf2 rfl rfl HH_draft rfl ?_ | refine ev_gf2 rfl rfl (by with_reducible assumption) rfl ?_)
        refine ev_cs rfl rfl rfl (e_copies (p := 33) (q := 29) (m := 118) (m2 := 58) (f := A 33) (g := A 29) (i := 59 * k) (j := 0) (z := 58) rfl rfl (by decide) (pk_mul 59 k) rfl rfl (by omega) (by decide) (by decide) (by decide)) ?_
        rw [HA_29]
        repeat (first | refine ev_gos 99 rfl ?_ | refine ev_gf2 rfl rfl rfl rfl ?_ | refine ev_gf2 rfl rfl HH_land rfl ?_ | refine ev_gf2 rfl rfl HH_draft rfl ?_ | refine ev_gf2 rfl rfl (by with_reducible assumption) rfl ?_)
        have e2 : (59 : Int32) * nI k + 58 = nI (59 * k + 58) := by
          rw [show (59 : Int32) * nI k = nI (59 * k) from pk_mul 59 k]
          exact nI_add (59 * k) 58
        refine ev_ix (59 * k + 58) rfl rfl e2 (by omega) (by decide) ?_
        repeat (first | refine ev_gos 99 rfl ?_ | refine ev_gf2 rfl rfl rfl rfl ?_ | refine ev_gf2 rfl rfl HH_land rfl ?_ | refine ev_gf2 rfl rfl HH_draft rfl ?_ | refine ev_gf2 rfl rfl (by with_reducible assumption) rfl ?_)
        refine pf_M_l8 rfl ?_
        repeat (first | refine ev_gos 99 rfl ?_ | refine ev_gf2 rfl rfl rfl rfl ?_ | refine ev_gf2 rfl rfl HH_land rfl ?_ | refine ev_gf2 rfl rfl HH_draft rfl ?_ | refine ev_gf2 rfl rfl (by with_reducible assumption) rfl ?_)
        refine pf_M_23 rfl ?_
        repeat (first | refine ev_gos 99 rfl ?_ | refine ev_gf2 rfl rfl rfl rfl ?_ | refine ev_gf2 rfl rfl HH_land rfl ?_ | refine ev_gf2 rfl rfl HH_draft rfl ?_ | refine ev_gf2 rfl rfl (by with_reducible assumption) rfl ?_)
        exact ev_ri rfl rfl rfl
end IMG
