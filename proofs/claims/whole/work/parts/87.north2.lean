/-! both sides: north, the call -/
section NO2
variable {sc : Scr} {d : Nat} {w : Bool} {s : Nat → Int32} {l : Nat → Int64} {A : Nat → Nat → Int32} {B : Nat → Nat → Int64} {W H P fi c : Nat}
theorem b_north (h : INV s l A B W H P fi c) : Both sc (d + 12) m_C_north 3 m_M_north 2 [] w s l A B := by
  obtain ⟨hN, hM, hR, hK, hS, hD, hX, hI, ⟨n, n1, n2, n3, n4⟩, hF, hO, hB⟩ := id h
  obtain ⟨W1, H1, P1, i1, hRV, hri⟩ := e_readInto (sc := sc) (d := d + 7) (w := w) (s := s) (l := l) (A := A) (B := B) (r := (s, l, A 7, B 8)) (t := A 2) rfl n2 n1
  rw [← HH_DR] at hri
  generalize hrF : lpR (A 2) n 240 (r0R (A 2) n (s, l, A 7, B 8)) = rF at hRV hri
  by_cases h0 : rF.1 1 = 0
  · -- no fault
    obtain ⟨a, g', f', v', rd', hm⟩ := m_north (sc := sc) (d := d + 6) (w := !w) (s := upA (upA (upA (upA (upA (upA (nwS (rsS (upA s 0 0) (sRb rF (fo (dsK W1 (W1 * H1) (rF.2.1 7)) 5 rF.2.2.2)))) 9 (rF.1 22)) 10 0) 13 0) 14 0) 6 0) 7 0) (l := nwL (rsL l (sRb rF (fo (dsK W1 (W1 * H1) (rF.2.1 7)) 5 rF.2.2.2)))) (A := upA (upA (upA (nwA (upA A 7 rF.2.2.1)) 10 (mapP (fun _ _ => 0) (A 10) 49)) 11 (mapP (fun _ _ => -1) (A 11) 7)) 20 (upd (upd (A 20) 0 0) 1 0)) (B := nwB (upA B 8 (fo (dsK W1 (W1 * H1) (rF.2.1 7)) 5 rF.2.2.2))) (t := A 2) (n := n) ⟨n1, n3, n4⟩ (s, l, A 7, B 8)
    rw [hrF] at hm
    rcases hm with ⟨_, o2, o3, ⟨W2, H2, P2, R2, o4⟩, b, wr, hmE⟩ | ⟨k, q, k1, k2, k3, _⟩
    · obtain ⟨v3, vi, v19, v20, v21, vW, vH, vP, vWH, v4, v5, v6⟩ := hRV
      obtain ⟨a1, a2, a3, a4, a5, a6, a7, a8, a9, ⟨k, k1, k2, k3⟩, a11, a12, a13, a14, a15⟩ := o4
      have eW : W1 = W2 := (nI_eq (by omega) (by omega)).mp (v19.symm.trans a1.1)
      have eH : H1 = H2 := (nI_eq (by omega) (by omega)).mp (v20.symm.trans a2.1)
      have eP : P1 = P2 := (nI_eq (by omega) (by omega)).mp (v21.symm.trans a3.1)
      subst eW
      subst eH
      subst eP
      have h49 := WH49 vW vH
      have hcn : (W1 = 0 ∧ H1 = 0 ∧ P1 = 0) ∨ (2 ≤ W1 ∧ 2 ≤ H1) := by
        rcases a9 with ⟨z1, z2, z3, _⟩ | z
        · exact Or.inl ⟨z1, z2, z3⟩
        · exact Or.inr z
      have hcp : ∀ q, q < 21 → ∀ f : Nat → Int32, va_cpy rd' f 0 0 21 q = rd' q := fun q hq f => by rw [pk_cpy_in (by omega) (by omega), Nat.sub_zero, Nat.zero_add]
      have hg49 : ∀ j, j < R2 → ∃ c, c < 49 ∧ rd' (12 + j) = nI c := fun j hj => by
        obtain ⟨c, c1, c2⟩ := a13 j hj
        exact ⟨c, by omega, c2⟩
      have hWI : WI (rF.2.1 7) (W1 * H1) := fun i hi => by
        rw [a14] at hi
        obtain ⟨j, j1, j2, j3⟩ := (setR_bs hg49 i).mp hi
        obtain ⟨c, c1, c2⟩ := a13 j j1
        rw [c2] at j2
        have := (nI_eq (by omega) (by omega)).mp j2
        omega
      have hCN : ∀ k c, k < 5 → c < 49 → fo (dsK W1 (W1 * H1) (rF.2.1 7)) 5 rF.2.2.2 (k * 49 + c) = if c < W1 * H1 then drwS W1 (W1 * H1) (rF.2.1 7) k c else 0 := fun k c hk hc => by
        rw [dsK_at W1 (W1 * H1) (rF.2.1 7) rF.2.2.2 h49 hc 5 k]
        by_cases q : c < W1 * H1
        · rw [if_pos ⟨hk, q⟩, if_pos q]
        · rw [if_neg (fun z => q z.2), if_neg q, o3]
          unfold mapJ
          rw [if_pos (by omega)]
      have hMN : MN (va_cpy rd' (A 27) 0 0 21) (rF.2.1 7) W1 H1 P1 := by
        refine ⟨by rw [hcp 0 (by decide)]; exact a1.2, by rw [hcp 1 (by decide)]; exact a2.2, by rw [hcp 2 (by decide)]; exact a3.2, vW, vH, vP, hcn, fun p hp => ?_, R2, a8, by rw [hcp 3 (by decide)]; exact a4, a15, fun j hj => ?_, ?_⟩
        · obtain ⟨k', q1, q2, q3⟩ := a12 p hp
          exact ⟨k', q1, by rw [hcp (5 + p) (by omega)]; exact q3⟩
        · rw [hcp (12 + j) (by omega)]
          exact a13 j hj
        · rw [a14]
          exact (setR_cong (fun j hj => hcp (12 + j) (by omega) _)).symm
      have hSP := SP_0 (W := W1) (H := H1) (P := P1) (rk := rF.2.1 7) (kd_ := rF.2.2.1) (a := A 10) (b := A 11) (f := A 29) k1
      rw [← k2, show upd (mapP bgR (A 29) 58) 57 (rF.1 22) = upd (mapP bgR (A 29) 58) 57 (rd' 4) by rw [k2, k3]] at hSP
      refine ⟨rd' 2, _, !w, _, _, _, _, ?_, hmE, ⟨W1, H1, P1, 0, 0, ⟨v19, v20, v21, vW, vH, vP, hcn, v4, v5, v6, fun p hp => ?_, hCN⟩, hMN, hWI, fun p hp => ?_, hSP, ⟨rfl, by decide, rfl, by decide, rfl, DD_0 0⟩, hX, fun i hi => ?_, ⟨0, by decide, rfl, rfl, fun i hi => absurd hi (Nat.not_lt_zero i)⟩, o2.symm, ⟨0, by decide, rfl, rfl, fun i hi => absurd hi (Nat.not_lt_zero i)⟩, ⟨0, by decide, rfl, rfl, fun i hi => absurd hi (Nat.not_lt_zero i)⟩⟩⟩
      · repeat (first | refine ev_gos 99 rfl ?_ | refine ev_gf2 rfl rfl rfl rfl ?_ | refine ev_gf2 rfl rfl HH_land rfl ?_ | refine ev_gf2 rfl rfl HH_draft rfl ?_ | refine ev_gf2 rfl rfl (by with_reducible assumption) rfl ?_)
        refine ev_cv rfl rfl rfl hri ?_
        repeat (first | refine ev_gos 99 rfl ?_ | refine ev_gf2 rfl rfl rfl rfl ?_ | refine ev_gf2 rfl rfl HH_land rfl ?_ | refine ev_gf2 rfl rfl HH_draft rfl ?_ | refine ev_gf2 rfl rfl (by with_reducible assumption) rfl ?_)
        refine (?_ : Ek sc _ m_C_north 18 _ [.int (rF.1 1)] _ _ _ _ _)
        refine ev_ift rfl rfl rfl (i_eq h0) ?_
        rw [a3.2, ← v21]
        exact ev_wk2 (e_ntail (s := rsS (upA s 0 0) (sRb rF (fo (dsK W1 (W1 * H1) (rF.2.1 7)) 5 rF.2.2.2)))) rfl (by repeat' (first | exact trivial | refine ⟨rfl, ?_⟩))
      · obtain ⟨k', q1, q2, q3⟩ := a12 p hp
        exact ⟨k', q1, q2⟩
      · obtain ⟨k', q1, q2, q3⟩ := a12 p hp
        show va_cpy rd' (A 27) 0 0 21 (5 + p) = rF.2.2.1 p
        rw [hcp (5 + p) (by omega), q2, q3]
      · show upd (upd (A 34) 0 0) 1 0 i = upd (upd (A 20) 0 0) 1 0 i ∧ (upd (upd (A 20) 0 0) 1 0 i = 0 ∨ _)
        rw [up01 _ i hi, up01 _ i hi]
        exact ⟨rfl, Or.inl rfl⟩
    · exact absurd (k3.1.symm.trans h0) (nI_ne0 (by omega) (by omega))
  · -- a fault
    obtain ⟨a, g', f', v', rd', hm⟩ := m_north (sc := sc) (d := d + 6) (w := w) (s := rsS (upA s 0 0) (sRb rF (fo (dsK W1 (W1 * H1) (rF.2.1 7)) 5 rF.2.2.2))) (l := rsL l (sRb rF (fo (dsK W1 (W1 * H1) (rF.2.1 7)) 5 rF.2.2.2))) (A := upA A 7 rF.2.2.1) (B := upA B 8 (fo (dsK W1 (W1 * H1) (rF.2.1 7)) 5 rF.2.2.2)) (t := A 2) (n := n) ⟨n1, n3, n4⟩ (s, l, A 7, B 8)
    rw [hrF] at hm
    rcases hm with ⟨o1, _⟩ | ⟨k, q, k1, k2, k3, hmE⟩
    · exact absurd o1 h0
    · refine ⟨-10 - nI k, _, w, _, _, _, _, ?_, hmE, ⟨W, H, P, fi, c, hN, hM, hR, hK, hS, hD, hX, hI, ⟨0, by decide, rfl, rfl, fun i hi => absurd hi (Nat.not_lt_zero i)⟩, k3.2.symm, hO, hB⟩⟩
      repeat (first | refine ev_gos 99 rfl ?_ | refine ev_gf2 rfl rfl rfl rfl ?_ | refine ev_gf2 rfl rfl HH_land rfl ?_ | refine ev_gf2 rfl rfl HH_draft rfl ?_ | refine ev_gf2 rfl rfl (by with_reducible assumption) rfl ?_)
      refine ev_cv rfl rfl rfl hri ?_
      repeat (first | refine ev_gos 99 rfl ?_ | refine ev_gf2 rfl rfl rfl rfl ?_ | refine ev_gf2 rfl rfl HH_land rfl ?_ | refine ev_gf2 rfl rfl HH_draft rfl ?_ | refine ev_gf2 rfl rfl (by with_reducible assumption) rfl ?_)
      refine (?_ : Ek sc _ m_C_north 18 _ [.int (rF.1 1)] _ _ _ _ _)
      refine ev_iff rfl rfl rfl (j_eq h0) ?_
      repeat (first | refine ev_gos 99 rfl ?_ | refine ev_gf2 rfl rfl rfl rfl ?_ | refine ev_gf2 rfl rfl HH_land rfl ?_ | refine ev_gf2 rfl rfl HH_draft rfl ?_ | refine ev_gf2 rfl rfl (by with_reducible assumption) rfl ?_)
      refine ev_ri rfl ?_ rfl
      show -10 - rF.1 1 = _
      rw [k3.1]
end NO2
