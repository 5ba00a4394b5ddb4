/-! both sides: the small calls -/
theorem rng32 {x : Int32} {a b : Nat} (ha : a < 2 ^ 31) (hb : b < 2 ^ 31) (h : in3 x (nI a) (nI b) = true) : ∃ k, a ≤ k ∧ k ≤ b ∧ x = nI k := by
  obtain ⟨h1, h2⟩ := andE h
  exact rngN ha hb (le_nlt (of_decide_eq_true h1)) (le_nlt (of_decide_eq_true h2))
theorem in3_f {x a b : Int32} (h : in3 x a b = false) : x < a ∨ b < x := by
  by_cases h1 : x < a
  · exact Or.inl h1
  · refine Or.inr (nle_lt (fun z => ?_))
    unfold in3 at h
    rw [decide_eq_true (nlt_le3 h1), decide_eq_true z] at h
    cases h
theorem in3_t {x a b : Int32} (h : in3 x a b = true) : ¬ x < a ∧ ¬ b < x := by
  obtain ⟨h1, h2⟩ := andE h
  exact ⟨le_nlt (of_decide_eq_true h1), le_nlt (of_decide_eq_true h2)⟩
section SMA
variable {sc : Scr} {d : Nat} {w : Bool} {s : Nat → Int32} {l : Nat → Int64} {A : Nat → Nat → Int32} {B : Nat → Nat → Int64} {W H P fi c : Nat}
theorem b_fault (h : INV s l A B W H P fi c) : Both sc (d + 12) m_C_fault 1 m_M_fault 1 [] w s l A B := by
  have hF : s 25 = s 2 := h.2.2.2.2.2.2.2.2.2.1
  refine ⟨s 2, HH w s l A B, w, s, l, A, B, ?_, ?_, ⟨W, H, P, fi, c, h⟩⟩
  · repeat (first | refine ev_gos 99 rfl ?_ | refine ev_gf2 rfl rfl rfl rfl ?_ | refine ev_gf2 rfl rfl HH_land rfl ?_ | refine ev_gf2 rfl rfl HH_draft rfl ?_ | refine ev_gf2 rfl rfl (by with_reducible assumption) rfl ?_)
    exact ev_ri rfl rfl rfl
  · repeat (first | refine ev_gos 99 rfl ?_ | refine ev_gf2 rfl rfl rfl rfl ?_ | refine ev_gf2 rfl rfl HH_land rfl ?_ | refine ev_gf2 rfl rfl HH_draft rfl ?_ | refine ev_gf2 rfl rfl (by with_reducible assumption) rfl ?_)
    exact ev_ri rfl hF rfl
theorem b_feed (h : INV s l A B W H P fi c) (x : Int32) : Both sc (d + 12) m_C_feed 2 m_M_feed 2 [.int x] w s l A B := by
  obtain ⟨hN, hM, hR, hK, hS, hD, hX, hI, hT, hF, hO, hB⟩ := id h
  cases hb : in3 x 0 255 with
  | false =>
    refine ⟨-1000000002, HH w s l A B, w, s, l, A, B, ?_, ?_, ⟨W, H, P, fi, c, h⟩⟩
    · repeat (first | refine ev_gos 99 rfl ?_ | refine ev_gf2 rfl rfl rfl rfl ?_ | refine ev_gf2 rfl rfl HH_land rfl ?_ | refine ev_gf2 rfl rfl HH_draft rfl ?_ | refine ev_gf2 rfl rfl (by with_reducible assumption) rfl ?_)
      rcases in3_f hb with q | q
      · refine ev_ift rfl rfl rfl (i_lt q) ?_
        repeat (first | refine ev_gos 99 rfl ?_ | refine ev_gf2 rfl rfl rfl rfl ?_ | refine ev_gf2 rfl rfl HH_land rfl ?_ | refine ev_gf2 rfl rfl HH_draft rfl ?_ | refine ev_gf2 rfl rfl (by with_reducible assumption) rfl ?_)
        exact ev_ri rfl rfl rfl
      · by_cases q0 : x < 0
        · refine ev_ift rfl rfl rfl (i_lt q0) ?_
          repeat (first | refine ev_gos 99 rfl ?_ | refine ev_gf2 rfl rfl rfl rfl ?_ | refine ev_gf2 rfl rfl HH_land rfl ?_ | refine ev_gf2 rfl rfl HH_draft rfl ?_ | refine ev_gf2 rfl rfl (by with_reducible assumption) rfl ?_)
          exact ev_ri rfl rfl rfl
        · refine ev_iff rfl rfl rfl (j_lt q0) ?_
          repeat (first | refine ev_gos 99 rfl ?_ | refine ev_gf2 rfl rfl rfl rfl ?_ | refine ev_gf2 rfl rfl HH_land rfl ?_ | refine ev_gf2 rfl rfl HH_draft rfl ?_ | refine ev_gf2 rfl rfl (by with_reducible assumption) rfl ?_)
          refine ev_iff rfl rfl rfl (d_le (fun z => le_nlt z q)) ?_
          repeat (first | refine ev_gos 99 rfl ?_ | refine ev_gf2 rfl rfl rfl rfl ?_ | refine ev_gf2 rfl rfl HH_land rfl ?_ | refine ev_gf2 rfl rfl HH_draft rfl ?_ | refine ev_gf2 rfl rfl (by with_reducible assumption) rfl ?_)
          exact ev_ri rfl rfl rfl
    · repeat (first | refine ev_gos 99 rfl ?_ | refine ev_gf2 rfl rfl rfl rfl ?_ | refine ev_gf2 rfl rfl HH_land rfl ?_ | refine ev_gf2 rfl rfl HH_draft rfl ?_ | refine ev_gf2 rfl rfl (by with_reducible assumption) rfl ?_)
      refine ev_cs rfl rfl rfl (e_inB x 0 255 rfl (by decide) (by decide)) ?_
      rw [hb]
      (first | refine ev_ift rfl rfl rfl rfl ?_ | refine ev_iff rfl rfl rfl rfl ?_)
      repeat (first | refine ev_gos 99 rfl ?_ | refine ev_gf2 rfl rfl rfl rfl ?_ | refine ev_gf2 rfl rfl HH_land rfl ?_ | refine ev_gf2 rfl rfl HH_draft rfl ?_ | refine ev_gf2 rfl rfl (by with_reducible assumption) rfl ?_)
      exact ev_ri rfl rfl rfl
  | true =>
    obtain ⟨q1, q2⟩ := in3_t hb
    obtain ⟨k, k0, k1, k2⟩ := rng32 (a := 0) (b := 255) (by decide) (by decide) hb
    obtain ⟨n, n1, n2, n3, n4⟩ := hT
    by_cases hn : n < 240
    · refine ⟨nI (n + 1), HH w (upA s 0 (nI (n + 1))) l (upA A 2 (upd (A 2) n x)) B, w, upA (upA s 0 (nI (n + 1))) 24 (nI (n + 1)), l, upA (upA A 2 (upd (A 2) n x)) 35 (upd (A 35) n x), B, ?_, ?_, ⟨W, H, P, fi, c, hN, hM, hR, hK, hS, hD, hX, hI, ⟨n + 1, hn, rfl, rfl, fun i hi => ?_⟩, hF, hO, hB⟩⟩
      · repeat (first | refine ev_gos 99 rfl ?_ | refine ev_gf2 rfl rfl rfl rfl ?_ | refine ev_gf2 rfl rfl HH_land rfl ?_ | refine ev_gf2 rfl rfl HH_draft rfl ?_ | refine ev_gf2 rfl rfl (by with_reducible assumption) rfl ?_)
        refine ev_iff rfl rfl rfl (j_lt q1) ?_
        repeat (first | refine ev_gos 99 rfl ?_ | refine ev_gf2 rfl rfl rfl rfl ?_ | refine ev_gf2 rfl rfl HH_land rfl ?_ | refine ev_gf2 rfl rfl HH_draft rfl ?_ | refine ev_gf2 rfl rfl (by with_reducible assumption) rfl ?_)
        refine ev_ift rfl rfl rfl (c_le (nlt_le3 q2)) ?_
        repeat (first | refine ev_gos 99 rfl ?_ | refine ev_gf2 rfl rfl rfl rfl ?_ | refine ev_gf2 rfl rfl HH_land rfl ?_ | refine ev_gf2 rfl rfl HH_draft rfl ?_ | refine ev_gf2 rfl rfl (by with_reducible assumption) rfl ?_)
        refine ev_cv rfl rfl rfl (e_add n1 n2 x) ?_
        rw [if_pos hn, if_pos hn]
        exact ev_ri rfl rfl rfl
      · repeat (first | refine ev_gos 99 rfl ?_ | refine ev_gf2 rfl rfl rfl rfl ?_ | refine ev_gf2 rfl rfl HH_land rfl ?_ | refine ev_gf2 rfl rfl HH_draft rfl ?_ | refine ev_gf2 rfl rfl (by with_reducible assumption) rfl ?_)
        refine ev_cs rfl rfl rfl (e_inB x 0 255 rfl (by decide) (by decide)) ?_
        rw [hb]
        (first | refine ev_ift rfl rfl rfl rfl ?_ | refine ev_iff rfl rfl rfl rfl ?_)
        repeat (first | refine ev_gos 99 rfl ?_ | refine ev_gf2 rfl rfl rfl rfl ?_ | refine ev_gf2 rfl rfl HH_land rfl ?_ | refine ev_gf2 rfl rfl HH_draft rfl ?_ | refine ev_gf2 rfl rfl (by with_reducible assumption) rfl ?_)
        refine ev_ift rfl rfl rfl (c_ne (show ¬ s 24 = nI 240 from fun z => by rw [n3] at z; have := (nI_eq (by omega) (by decide)).mp z; omega)) ?_
        repeat (first | refine ev_gos 99 rfl ?_ | refine ev_gf2 rfl rfl rfl rfl ?_ | refine ev_gf2 rfl rfl HH_land rfl ?_ | refine ev_gf2 rfl rfl HH_draft rfl ?_ | refine ev_gf2 rfl rfl (by with_reducible assumption) rfl ?_)
        refine iv_35 n rfl n3 hn ?_
        repeat (first | refine ev_gos 99 rfl ?_ | refine ev_gf2 rfl rfl rfl rfl ?_ | refine ev_gf2 rfl rfl HH_land rfl ?_ | refine ev_gf2 rfl rfl HH_draft rfl ?_ | refine ev_gf2 rfl rfl (by with_reducible assumption) rfl ?_)
        refine pf_M_24 rfl ?_
        repeat (first | refine ev_gos 99 rfl ?_ | refine ev_gf2 rfl rfl rfl rfl ?_ | refine ev_gf2 rfl rfl HH_land rfl ?_ | refine ev_gf2 rfl rfl HH_draft rfl ?_ | refine ev_gf2 rfl rfl (by with_reducible assumption) rfl ?_)
        have e : s 24 + 1 = nI (n + 1) := by rw [n3, nI_1]
        refine ev_ri rfl e ?_
        show HH w (upA (upA s 0 (nI (n + 1))) 24 (s 24 + 1)) l _ B = _
        rw [e]
        rfl
      · show upd (A 35) n x i = upd (A 2) n x i ∧ _
        by_cases e : i = n
        · subst e
          exact ⟨by rw [pk_us, pk_us], k, k1, pk_us.trans k2⟩
        · have hq := n4 i (by omega)
          refine ⟨by rw [pk_un e, pk_un e]; exact hq.1, ?_⟩
          obtain ⟨j, j1, j2⟩ := hq.2
          exact ⟨j, j1, (pk_un e).trans j2⟩
    · have e240 : n = 240 := by omega
      refine ⟨-1000000004, HH w s l A B, w, s, l, A, B, ?_, ?_, ⟨W, H, P, fi, c, h⟩⟩
      · repeat (first | refine ev_gos 99 rfl ?_ | refine ev_gf2 rfl rfl rfl rfl ?_ | refine ev_gf2 rfl rfl HH_land rfl ?_ | refine ev_gf2 rfl rfl HH_draft rfl ?_ | refine ev_gf2 rfl rfl (by with_reducible assumption) rfl ?_)
        refine ev_iff rfl rfl rfl (j_lt q1) ?_
        repeat (first | refine ev_gos 99 rfl ?_ | refine ev_gf2 rfl rfl rfl rfl ?_ | refine ev_gf2 rfl rfl HH_land rfl ?_ | refine ev_gf2 rfl rfl HH_draft rfl ?_ | refine ev_gf2 rfl rfl (by with_reducible assumption) rfl ?_)
        refine ev_ift rfl rfl rfl (c_le (nlt_le3 q2)) ?_
        repeat (first | refine ev_gos 99 rfl ?_ | refine ev_gf2 rfl rfl rfl rfl ?_ | refine ev_gf2 rfl rfl HH_land rfl ?_ | refine ev_gf2 rfl rfl HH_draft rfl ?_ | refine ev_gf2 rfl rfl (by with_reducible assumption) rfl ?_)
        refine ev_cv rfl rfl rfl (e_add n1 n2 x) ?_
        rw [if_neg hn, if_neg hn]
        exact ev_ri rfl rfl rfl
      · repeat (first | refine ev_gos 99 rfl ?_ | refine ev_gf2 rfl rfl rfl rfl ?_ | refine ev_gf2 rfl rfl HH_land rfl ?_ | refine ev_gf2 rfl rfl HH_draft rfl ?_ | refine ev_gf2 rfl rfl (by with_reducible assumption) rfl ?_)
        refine ev_cs rfl rfl rfl (e_inB x 0 255 rfl (by decide) (by decide)) ?_
        rw [hb]
        (first | refine ev_ift rfl rfl rfl rfl ?_ | refine ev_iff rfl rfl rfl rfl ?_)
        repeat (first | refine ev_gos 99 rfl ?_ | refine ev_gf2 rfl rfl rfl rfl ?_ | refine ev_gf2 rfl rfl HH_land rfl ?_ | refine ev_gf2 rfl rfl HH_draft rfl ?_ | refine ev_gf2 rfl rfl (by with_reducible assumption) rfl ?_)
        refine ev_iff rfl rfl rfl (d_ne (show s 24 = nI 240 by rw [n3, e240])) ?_
        repeat (first | refine ev_gos 99 rfl ?_ | refine ev_gf2 rfl rfl rfl rfl ?_ | refine ev_gf2 rfl rfl HH_land rfl ?_ | refine ev_gf2 rfl rfl HH_draft rfl ?_ | refine ev_gf2 rfl rfl (by with_reducible assumption) rfl ?_)
        exact ev_ri rfl rfl rfl
theorem b_write (h : INV s l A B W H P fi c) (x : Int32) : Both sc (d + 12) m_C_write 2 m_M_write 2 [.int x] w s l A B := by
  obtain ⟨hN, hM, hR, hK, hS, hD, hX, hI, hT, hF, hO, hB⟩ := id h
  cases hb : in3 x 0 99 with
  | false =>
    refine ⟨-1000000002, HH w s l A B, w, s, l, A, B, ?_, ?_, ⟨W, H, P, fi, c, h⟩⟩
    · repeat (first | refine ev_gos 99 rfl ?_ | refine ev_gf2 rfl rfl rfl rfl ?_ | refine ev_gf2 rfl rfl HH_land rfl ?_ | refine ev_gf2 rfl rfl HH_draft rfl ?_ | refine ev_gf2 rfl rfl (by with_reducible assumption) rfl ?_)
      rcases in3_f hb with q | q
      · refine ev_ift rfl rfl rfl (i_lt q) ?_
        repeat (first | refine ev_gos 99 rfl ?_ | refine ev_gf2 rfl rfl rfl rfl ?_ | refine ev_gf2 rfl rfl HH_land rfl ?_ | refine ev_gf2 rfl rfl HH_draft rfl ?_ | refine ev_gf2 rfl rfl (by with_reducible assumption) rfl ?_)
        exact ev_ri rfl rfl rfl
      · by_cases q0 : x < 0
        · refine ev_ift rfl rfl rfl (i_lt q0) ?_
          repeat (first | refine ev_gos 99 rfl ?_ | refine ev_gf2 rfl rfl rfl rfl ?_ | refine ev_gf2 rfl rfl HH_land rfl ?_ | refine ev_gf2 rfl rfl HH_draft rfl ?_ | refine ev_gf2 rfl rfl (by with_reducible assumption) rfl ?_)
          exact ev_ri rfl rfl rfl
        · refine ev_iff rfl rfl rfl (j_lt q0) ?_
          repeat (first | refine ev_gos 99 rfl ?_ | refine ev_gf2 rfl rfl rfl rfl ?_ | refine ev_gf2 rfl rfl HH_land rfl ?_ | refine ev_gf2 rfl rfl HH_draft rfl ?_ | refine ev_gf2 rfl rfl (by with_reducible assumption) rfl ?_)
          refine ev_iff rfl rfl rfl (d_le (fun z => le_nlt z q)) ?_
          repeat (first | refine ev_gos 99 rfl ?_ | refine ev_gf2 rfl rfl rfl rfl ?_ | refine ev_gf2 rfl rfl HH_land rfl ?_ | refine ev_gf2 rfl rfl HH_draft rfl ?_ | refine ev_gf2 rfl rfl (by with_reducible assumption) rfl ?_)
          exact ev_ri rfl rfl rfl
    · repeat (first | refine ev_gos 99 rfl ?_ | refine ev_gf2 rfl rfl rfl rfl ?_ | refine ev_gf2 rfl rfl HH_land rfl ?_ | refine ev_gf2 rfl rfl HH_draft rfl ?_ | refine ev_gf2 rfl rfl (by with_reducible assumption) rfl ?_)
      refine ev_cs rfl rfl rfl (e_inB x 0 99 rfl (by decide) (by decide)) ?_
      rw [hb]
      (first | refine ev_ift rfl rfl rfl rfl ?_ | refine ev_iff rfl rfl rfl rfl ?_)
      repeat (first | refine ev_gos 99 rfl ?_ | refine ev_gf2 rfl rfl rfl rfl ?_ | refine ev_gf2 rfl rfl HH_land rfl ?_ | refine ev_gf2 rfl rfl HH_draft rfl ?_ | refine ev_gf2 rfl rfl (by with_reducible assumption) rfl ?_)
      exact ev_ri rfl rfl rfl
  | true =>
    obtain ⟨q1, q2⟩ := in3_t hb
    obtain ⟨n, n1, n2, n3, n4⟩ := hB
    by_cases hn : n < 20
    · refine ⟨nI (n + 1), HH w (upA s 14 (nI (n + 1))) l (upA A 24 (upd (A 24) n x)) B, w, upA (upA s 14 (nI (n + 1))) 27 (nI (n + 1)), l, upA (upA A 24 (upd (A 24) n x)) 37 (upd (A 37) n x), B, ?_, ?_, ⟨W, H, P, fi, c, hN, hM, hR, hK, hS, hD, hX, hI, hT, hF, hO, ⟨n + 1, hn, rfl, rfl, fun i hi => ?_⟩⟩⟩
      · repeat (first | refine ev_gos 99 rfl ?_ | refine ev_gf2 rfl rfl rfl rfl ?_ | refine ev_gf2 rfl rfl HH_land rfl ?_ | refine ev_gf2 rfl rfl HH_draft rfl ?_ | refine ev_gf2 rfl rfl (by with_reducible assumption) rfl ?_)
        refine ev_iff rfl rfl rfl (j_lt q1) ?_
        repeat (first | refine ev_gos 99 rfl ?_ | refine ev_gf2 rfl rfl rfl rfl ?_ | refine ev_gf2 rfl rfl HH_land rfl ?_ | refine ev_gf2 rfl rfl HH_draft rfl ?_ | refine ev_gf2 rfl rfl (by with_reducible assumption) rfl ?_)
        refine ev_ift rfl rfl rfl (c_le (nlt_le3 q2)) ?_
        repeat (first | refine ev_gos 99 rfl ?_ | refine ev_gf2 rfl rfl rfl rfl ?_ | refine ev_gf2 rfl rfl HH_land rfl ?_ | refine ev_gf2 rfl rfl HH_draft rfl ?_ | refine ev_gf2 rfl rfl (by with_reducible assumption) rfl ?_)
        refine ev_cv rfl rfl rfl (e_addEntry n1 n2 x) ?_
        rw [if_pos hn, if_pos hn]
        exact ev_ri rfl rfl rfl
      · repeat (first | refine ev_gos 99 rfl ?_ | refine ev_gf2 rfl rfl rfl rfl ?_ | refine ev_gf2 rfl rfl HH_land rfl ?_ | refine ev_gf2 rfl rfl HH_draft rfl ?_ | refine ev_gf2 rfl rfl (by with_reducible assumption) rfl ?_)
        refine ev_cs rfl rfl rfl (e_inB x 0 99 rfl (by decide) (by decide)) ?_
        rw [hb]
        (first | refine ev_ift rfl rfl rfl rfl ?_ | refine ev_iff rfl rfl rfl rfl ?_)
        repeat (first | refine ev_gos 99 rfl ?_ | refine ev_gf2 rfl rfl rfl rfl ?_ | refine ev_gf2 rfl rfl HH_land rfl ?_ | refine ev_gf2 rfl rfl HH_draft rfl ?_ | refine ev_gf2 rfl rfl (by with_reducible assumption) rfl ?_)
        refine ev_ift rfl rfl rfl (c_ne (show ¬ s 27 = nI 20 from fun z => by rw [n3] at z; have := (nI_eq (by omega) (by decide)).mp z; omega)) ?_
        repeat (first | refine ev_gos 99 rfl ?_ | refine ev_gf2 rfl rfl rfl rfl ?_ | refine ev_gf2 rfl rfl HH_land rfl ?_ | refine ev_gf2 rfl rfl HH_draft rfl ?_ | refine ev_gf2 rfl rfl (by with_reducible assumption) rfl ?_)
        refine iv_37 n rfl n3 hn ?_
        repeat (first | refine ev_gos 99 rfl ?_ | refine ev_gf2 rfl rfl rfl rfl ?_ | refine ev_gf2 rfl rfl HH_land rfl ?_ | refine ev_gf2 rfl rfl HH_draft rfl ?_ | refine ev_gf2 rfl rfl (by with_reducible assumption) rfl ?_)
        refine pf_M_27 rfl ?_
        repeat (first | refine ev_gos 99 rfl ?_ | refine ev_gf2 rfl rfl rfl rfl ?_ | refine ev_gf2 rfl rfl HH_land rfl ?_ | refine ev_gf2 rfl rfl HH_draft rfl ?_ | refine ev_gf2 rfl rfl (by with_reducible assumption) rfl ?_)
        have e : s 27 + 1 = nI (n + 1) := by rw [n3, nI_1]
        refine ev_ri rfl e ?_
        show HH w (upA (upA s 14 (nI (n + 1))) 27 (s 27 + 1)) l _ B = _
        rw [e]
        rfl
      · show upd (A 37) n x i = upd (A 24) n x i
        by_cases e : i = n
        · subst e
          rw [pk_us, pk_us]
        · rw [pk_un e, pk_un e]
          exact n4 i (by omega)
    · have e20 : n = 20 := by omega
      refine ⟨-1000000004, HH w s l A B, w, s, l, A, B, ?_, ?_, ⟨W, H, P, fi, c, h⟩⟩
      · repeat (first | refine ev_gos 99 rfl ?_ | refine ev_gf2 rfl rfl rfl rfl ?_ | refine ev_gf2 rfl rfl HH_land rfl ?_ | refine ev_gf2 rfl rfl HH_draft rfl ?_ | refine ev_gf2 rfl rfl (by with_reducible assumption) rfl ?_)
        refine ev_iff rfl rfl rfl (j_lt q1) ?_
        repeat (first | refine ev_gos 99 rfl ?_ | refine ev_gf2 rfl rfl rfl rfl ?_ | refine ev_gf2 rfl rfl HH_land rfl ?_ | refine ev_gf2 rfl rfl HH_draft rfl ?_ | refine ev_gf2 rfl rfl (by with_reducible assumption) rfl ?_)
        refine ev_ift rfl rfl rfl (c_le (nlt_le3 q2)) ?_
        repeat (first | refine ev_gos 99 rfl ?_ | refine ev_gf2 rfl rfl rfl rfl ?_ | refine ev_gf2 rfl rfl HH_land rfl ?_ | refine ev_gf2 rfl rfl HH_draft rfl ?_ | refine ev_gf2 rfl rfl (by with_reducible assumption) rfl ?_)
        refine ev_cv rfl rfl rfl (e_addEntry n1 n2 x) ?_
        rw [if_neg hn, if_neg hn]
        exact ev_ri rfl rfl rfl
      · repeat (first | refine ev_gos 99 rfl ?_ | refine ev_gf2 rfl rfl rfl rfl ?_ | refine ev_gf2 rfl rfl HH_land rfl ?_ | refine ev_gf2 rfl rfl HH_draft rfl ?_ | refine ev_gf2 rfl rfl (by with_reducible assumption) rfl ?_)
        refine ev_cs rfl rfl rfl (e_inB x 0 99 rfl (by decide) (by decide)) ?_
        rw [hb]
        (first | refine ev_ift rfl rfl rfl rfl ?_ | refine ev_iff rfl rfl rfl rfl ?_)
        repeat (first | refine ev_gos 99 rfl ?_ | refine ev_gf2 rfl rfl rfl rfl ?_ | refine ev_gf2 rfl rfl HH_land rfl ?_ | refine ev_gf2 rfl rfl HH_draft rfl ?_ | refine ev_gf2 rfl rfl (by with_reducible assumption) rfl ?_)
        refine ev_iff rfl rfl rfl (d_ne (show s 27 = nI 20 by rw [n3, e20])) ?_
        repeat (first | refine ev_gos 99 rfl ?_ | refine ev_gf2 rfl rfl rfl rfl ?_ | refine ev_gf2 rfl rfl HH_land rfl ?_ | refine ev_gf2 rfl rfl HH_draft rfl ?_ | refine ev_gf2 rfl rfl (by with_reducible assumption) rfl ?_)
        exact ev_ri rfl rfl rfl
theorem b_tear (h : INV s l A B W H P fi c) : Both sc (d + 12) m_C_tear 2 m_M_tear 2 [] w s l A B := by
  obtain ⟨hN, hM, hR, hK, hS, hD, hX, hI, hT, hF, hO, hB⟩ := id h
  obtain ⟨m, m1, m2, m3, m4⟩ := hO
  obtain ⟨n, n1, n2, n3, n4⟩ := hB
  refine ⟨s 13 + s 14, HH w (upA (upA s 13 0) 14 0) l A B, w, upA (upA (upA (upA s 13 0) 14 0) 26 0) 27 0, l, A, B, ?_, ?_, ⟨W, H, P, fi, c, hN, hM, hR, hK, hS, hD, hX, hI, hT, hF, ⟨0, by decide, rfl, rfl, fun i hi => absurd hi (Nat.not_lt_zero i)⟩, ⟨0, by decide, rfl, rfl, fun i hi => absurd hi (Nat.not_lt_zero i)⟩⟩⟩
  · repeat (first | refine ev_gos 99 rfl ?_ | refine ev_gf2 rfl rfl rfl rfl ?_ | refine ev_gf2 rfl rfl HH_land rfl ?_ | refine ev_gf2 rfl rfl HH_draft rfl ?_ | refine ev_gf2 rfl rfl (by with_reducible assumption) rfl ?_)
    refine ev_cv rfl rfl rfl e_nempty ?_
    repeat (first | refine ev_gos 99 rfl ?_ | refine ev_gf2 rfl rfl rfl rfl ?_ | refine ev_gf2 rfl rfl HH_land rfl ?_ | refine ev_gf2 rfl rfl HH_draft rfl ?_ | refine ev_gf2 rfl rfl (by with_reducible assumption) rfl ?_)
    exact ev_ri rfl rfl rfl
  · repeat (first | refine ev_gos 99 rfl ?_ | refine ev_gf2 rfl rfl rfl rfl ?_ | refine ev_gf2 rfl rfl HH_land rfl ?_ | refine ev_gf2 rfl rfl HH_draft rfl ?_ | refine ev_gf2 rfl rfl (by with_reducible assumption) rfl ?_)
    refine pf_M_26 rfl ?_
    repeat (first | refine ev_gos 99 rfl ?_ | refine ev_gf2 rfl rfl rfl rfl ?_ | refine ev_gf2 rfl rfl HH_land rfl ?_ | refine ev_gf2 rfl rfl HH_draft rfl ?_ | refine ev_gf2 rfl rfl (by with_reducible assumption) rfl ?_)
    refine pf_M_27 rfl ?_
    repeat (first | refine ev_gos 99 rfl ?_ | refine ev_gf2 rfl rfl rfl rfl ?_ | refine ev_gf2 rfl rfl HH_land rfl ?_ | refine ev_gf2 rfl rfl HH_draft rfl ?_ | refine ev_gf2 rfl rfl (by with_reducible assumption) rfl ?_)
    exact ev_ri rfl (by show s 26 + s 27 = s 13 + s 14; rw [m3, m2, n3, n2]) rfl
theorem b_seed (h : INV s l A B W H P fi c) (x : Int32) : Both sc (d + 12) m_C_seed 3 m_M_seed 3 [.int x] w s l A B := by
  obtain ⟨hN, hM, hR, hK, hS, hD, hX, hI, hT, hF, hO, hB⟩ := id h
  by_cases q : x < 0
  · refine ⟨-1000000002, HH w s l A B, w, s, l, A, B, ?_, ?_, ⟨W, H, P, fi, c, h⟩⟩
    · repeat (first | refine ev_gos 99 rfl ?_ | refine ev_gf2 rfl rfl rfl rfl ?_ | refine ev_gf2 rfl rfl HH_land rfl ?_ | refine ev_gf2 rfl rfl HH_draft rfl ?_ | refine ev_gf2 rfl rfl (by with_reducible assumption) rfl ?_)
      refine ev_iff rfl rfl rfl (j_ge (lt0 q)) ?_
      repeat (first | refine ev_gos 99 rfl ?_ | refine ev_gf2 rfl rfl rfl rfl ?_ | refine ev_gf2 rfl rfl HH_land rfl ?_ | refine ev_gf2 rfl rfl HH_draft rfl ?_ | refine ev_gf2 rfl rfl (by with_reducible assumption) rfl ?_)
      exact ev_ri rfl rfl rfl
    · repeat (first | refine ev_gos 99 rfl ?_ | refine ev_gf2 rfl rfl rfl rfl ?_ | refine ev_gf2 rfl rfl HH_land rfl ?_ | refine ev_gf2 rfl rfl HH_draft rfl ?_ | refine ev_gf2 rfl rfl (by with_reducible assumption) rfl ?_)
      refine ev_iff rfl rfl rfl (j_ge (lt0 q)) ?_
      repeat (first | refine ev_gos 99 rfl ?_ | refine ev_gf2 rfl rfl rfl rfl ?_ | refine ev_gf2 rfl rfl HH_land rfl ?_ | refine ev_gf2 rfl rfl HH_draft rfl ?_ | refine ev_gf2 rfl rfl (by with_reducible assumption) rfl ?_)
      exact ev_ri rfl rfl rfl
  · obtain ⟨t, t1, t2⟩ := nI_of q
    obtain ⟨⟨u, u1, u2⟩, hx2⟩ := hX
    refine ⟨s 8, HH w (upA s 8 x) l A B, w, upA s 8 x, upA l 8 x.toInt64, A, B, ?_, ?_, ⟨W, H, P, fi, c, hN, hM, hR, hK, hS, hD, ⟨⟨t, t1, t2⟩, rfl⟩, hI, hT, hF, hO, hB⟩⟩
    · repeat (first | refine ev_gos 99 rfl ?_ | refine ev_gf2 rfl rfl rfl rfl ?_ | refine ev_gf2 rfl rfl HH_land rfl ?_ | refine ev_gf2 rfl rfl HH_draft rfl ?_ | refine ev_gf2 rfl rfl (by with_reducible assumption) rfl ?_)
      refine ev_ift rfl rfl rfl (i_ge (ge0 q)) ?_
      repeat (first | refine ev_gos 99 rfl ?_ | refine ev_gf2 rfl rfl rfl rfl ?_ | refine ev_gf2 rfl rfl HH_land rfl ?_ | refine ev_gf2 rfl rfl HH_draft rfl ?_ | refine ev_gf2 rfl rfl (by with_reducible assumption) rfl ?_)
      refine pf_C_8 rfl ?_
      repeat (first | refine ev_gos 99 rfl ?_ | refine ev_gf2 rfl rfl rfl rfl ?_ | refine ev_gf2 rfl rfl HH_land rfl ?_ | refine ev_gf2 rfl rfl HH_draft rfl ?_ | refine ev_gf2 rfl rfl (by with_reducible assumption) rfl ?_)
      exact ev_ri rfl rfl rfl
    · repeat (first | refine ev_gos 99 rfl ?_ | refine ev_gf2 rfl rfl rfl rfl ?_ | refine ev_gf2 rfl rfl HH_land rfl ?_ | refine ev_gf2 rfl rfl HH_draft rfl ?_ | refine ev_gf2 rfl rfl (by with_reducible assumption) rfl ?_)
      refine ev_ift rfl rfl rfl (i_ge (ge0 q)) ?_
      repeat (first | refine ev_gos 99 rfl ?_ | refine ev_gf2 rfl rfl rfl rfl ?_ | refine ev_gf2 rfl rfl HH_land rfl ?_ | refine ev_gf2 rfl rfl HH_draft rfl ?_ | refine ev_gf2 rfl rfl (by with_reducible assumption) rfl ?_)
      refine pf_M_l8 rfl ?_
      repeat (first | refine ev_gos 99 rfl ?_ | refine ev_gf2 rfl rfl rfl rfl ?_ | refine ev_gf2 rfl rfl HH_land rfl ?_ | refine ev_gf2 rfl rfl HH_draft rfl ?_ | refine ev_gf2 rfl rfl (by with_reducible assumption) rfl ?_)
      exact ev_ri rfl (by show (l 8).toInt32 = s 8; rw [hx2, u2, nI_l u1, lN_i]) rfl
end SMA
