/-! the law: from its entry to its end -/
theorem ev_sx {sc : Scr} {d M pc nx a b m : Nat} {v : Value} {L : Lcs} {S : Stk} {h h' : AHp} {r : Option Value} {c n : Nat} {i : Int32} {f : Nat → Int32} (k : Nat) (hc : cAt M pc = some (.iaload, nx, a, b, v)) (hp : rd sc h 1000 = some (aI m f)) (hi : i = nI k) (hk : k < m) (hm : m < 2 ^ 31) (kk : Ek sc d M nx L (.int (f k) :: S) h r h' c n) : Ek sc d M pc L (.int i :: .ref 1000 :: S) h r h' c n := by
  subst hi
  refine ev_ir hc hp (inI hk hm) ?_
  rw [nI_clamp (by omega)]
  exact kk
theorem rd_no {L : Nat} {xs : Nat → Int32} {h : AHp} (e : ∀ p : Nat, 1000 ≤ p → h[p]? = none) : rd (L, xs) h 1000 = some (aI L xs) := by
  unfold rd
  rw [e 1000 (Nat.le_refl _)]
  rfl
theorem Jn_0 : Jn (upA (upA (upA s0 23 0) 26 0) 27 0) l0 (upA (upA A0 29 (upd (mapP bgR (A0 29) 58) 57 (A0 27 4))) 34 (upd (upd (A0 34) 0 0) 1 0)) B0 := by
  refine ⟨0, 0, 0, 0, 0, ⟨rfl, rfl, rfl, by decide, by decide, by decide, Or.inl ⟨rfl, rfl, rfl⟩, all_0.symm, (lef_0 0).symm, (rig_0 0).symm, fun p hp => absurd hp (Nat.not_lt_zero p), fun k c _ _ => (if_neg (Nat.not_lt_zero c)).symm⟩, ⟨rfl, rfl, rfl, by decide, by decide, by decide, Or.inl ⟨rfl, rfl, rfl⟩, fun p hp => absurd hp (Nat.not_lt_zero p), 0, by decide, rfl, pop_0, fun j hj => absurd hj (Nat.not_lt_zero j), rfl⟩, WI_0 _, fun p hp => absurd hp (Nat.not_lt_zero p), ?_, ⟨rfl, by decide, rfl, by decide, rfl, DD_0 0⟩, ⟨⟨0, by decide, rfl⟩, by decide⟩, fun i hi => ⟨up01 _ i hi, Or.inl rfl⟩, ⟨0, by decide, rfl, rfl, fun i hi => absurd hi (Nat.not_lt_zero i)⟩, rfl, ⟨0, by decide, rfl, rfl, fun i hi => absurd hi (Nat.not_lt_zero i)⟩, ⟨0, by decide, rfl, rfl, fun i hi => absurd hi (Nat.not_lt_zero i)⟩⟩
  exact SP_congr (SP_0 (W := 0) (H := 0) (P := 0) (rk := l0 3) (kd_ := A0 4) (a := fun _ => 0) (b := fun _ => 0) (f := A0 29) (k := 0) (by decide)) (fun c hc => by show (0 : Int32) = mapP (fun _ _ => 0) (fun _ => 0) 49 c; rw [mapP_in hc]) (fun _ _ => rfl) rfl rfl (fun _ _ => rfl)
section LAW
variable {L : Nat} {xs : Nat → Int32}
def LawAt (L : Nat) (xs : Nat → Int32) (i : Nat) (h h' : AHp) : Prop := Ev (L, xs) 13 m_W_law 20 [some (.ref 1000), some (.ref 0), some (.ref 26), some (.int (nI i))] [.ref 1000, .int (nI i)] h (some (.int 1)) h'
set_option maxRecDepth 100000 in
theorem law_pre (hL : L ≤ 256) {i : Nat} (hi : i + 4 ≤ L) {w : Bool} {s : Nat → Int32} {l : Nat → Int64} {A : Nat → Nat → Int32} {B : Nat → Nat → Int64} {h' : AHp} (k : Ev (L, xs) 13 m_W_law 32 [some (.ref 1000), some (.ref 0), some (.ref 26), some (.int (nI i))] [.int (xs i &&& 31)] (HH w s l A B) (some (.int 1)) h') : LawAt L xs i (HH w s l A B) h' := by
  unfold LawAt
  refine ev_len rfl (Or.inl (rfl : rd (L, xs) (HH w s l A B) 1000 = some (aI L xs))) ?_
  repeat (first | refine ev_gos 99 rfl ?_ | refine ev_gf2 rfl rfl rfl rfl ?_ | refine ev_gf2 rfl rfl HH_land rfl ?_ | refine ev_gf2 rfl rfl HH_draft rfl ?_ | refine ev_gf2 rfl rfl (by with_reducible assumption) rfl ?_)
  refine ev_iff rfl rfl rfl (d_gt (show ¬ nI L - nI 4 < nI i from fun z => by
    rw [Int32.lt_iff_toInt_lt, pk_sub_toInt (by omega) (by decide), nI_toInt (by omega)] at z
    omega)) ?_
  repeat (first | refine ev_gos 99 rfl ?_ | refine ev_gf2 rfl rfl rfl rfl ?_ | refine ev_gf2 rfl rfl HH_land rfl ?_ | refine ev_gf2 rfl rfl HH_draft rfl ?_ | refine ev_gf2 rfl rfl (by with_reducible assumption) rfl ?_)
  refine ev_sx (m := L) (f := xs) i rfl rfl rfl (by omega) (by omega) ?_
  repeat (first | refine ev_gos 99 rfl ?_ | refine ev_gf2 rfl rfl rfl rfl ?_ | refine ev_gf2 rfl rfl HH_land rfl ?_ | refine ev_gf2 rfl rfl HH_draft rfl ?_ | refine ev_gf2 rfl rfl (by with_reducible assumption) rfl ?_)
  exact k
set_option maxRecDepth 100000 in
theorem law_end (hL : L ≤ 256) {i : Nat} (hi : ¬ i + 4 ≤ L) (h3 : i ≤ 300) {w : Bool} {s : Nat → Int32} {l : Nat → Int64} {A : Nat → Nat → Int32} {B : Nat → Nat → Int64} : LawAt L xs i (HH w s l A B) (HH w s l A B) := by
  unfold LawAt
  refine ev_len rfl (Or.inl (rfl : rd (L, xs) (HH w s l A B) 1000 = some (aI L xs))) ?_
  repeat (first | refine ev_gos 99 rfl ?_ | refine ev_gf2 rfl rfl rfl rfl ?_ | refine ev_gf2 rfl rfl HH_land rfl ?_ | refine ev_gf2 rfl rfl HH_draft rfl ?_ | refine ev_gf2 rfl rfl (by with_reducible assumption) rfl ?_)
  refine ev_ift rfl rfl rfl (c_gt (show nI L - nI 4 < nI i by
    rw [Int32.lt_iff_toInt_lt, pk_sub_toInt (by omega) (by decide), nI_toInt (by omega)]
    omega)) ?_
  repeat (first | refine ev_gos 99 rfl ?_ | refine ev_gf2 rfl rfl rfl rfl ?_ | refine ev_gf2 rfl rfl HH_land rfl ?_ | refine ev_gf2 rfl rfl HH_draft rfl ?_ | refine ev_gf2 rfl rfl (by with_reducible assumption) rfl ?_)
  exact ev_rz rfl (Or.inr rfl) rfl rfl
set_option maxRecDepth 100000 in
theorem law_back {i : Nat} {h h' : AHp} {v : Int32} (k : LawAt L xs (i + 4) h h') (pc : Nat) (hb : cAt m_W_law pc = some (.if_icmp .eq 0, pc + 3, 938, 0, .null) ∨ True) : Ev (L, xs) 13 m_W_law 938 [some (.ref 1000), some (.ref 0), some (.ref 26), some (.int (nI i))] [] h (some (.int 1)) h' := by
  unfold LawAt at k
  rw [← nI_add i 4] at k
  repeat (first | refine ev_gos 99 rfl ?_ | refine ev_gf2 rfl rfl rfl rfl ?_ | refine ev_gf2 rfl rfl HH_land rfl ?_ | refine ev_gf2 rfl rfl HH_draft rfl ?_ | refine ev_gf2 rfl rfl (by with_reducible assumption) rfl ?_)
  exact k

set_option maxRecDepth 100000 in
theorem law_0 (hL : L ≤ 256) {i : Nat} (hi : i + 4 ≤ L) {w : Bool} {s : Nat → Int32} {l : Nat → Int64} {A : Nat → Nat → Int32} {B : Nat → Nat → Int64} (hj : Jn s l A B) (ih : ∀ (w : Bool) (s : Nat → Int32) (l : Nat → Int64) (A : Nat → Nat → Int32) (B : Nat → Nat → Int64), Jn s l A B → ∃ h', LawAt L xs (i + 4) (HH w s l A B) h') : ∃ h', Ev (L, xs) 13 m_W_law 176 [some (.ref 1000), some (.ref 0), some (.ref 26), some (.int (nI i))] [] (HH w s l A B) (some (.int 1)) h' := by
  obtain ⟨W, H, P, fi, c, hI⟩ := hj
  obtain ⟨v, h1, w2, s2, l2, A2, B2, c1, c2, j2⟩ := b_feed (sc := (L, xs)) (d := 0) (w := w) hI (xs (i + 1))
  obtain ⟨⟨fs, hm⟩, hno⟩ := ev_kept c1
  obtain ⟨h', k⟩ := ih w2 s2 l2 A2 B2 j2
  refine ⟨h', ?_⟩
  repeat (first | refine ev_gos 99 rfl ?_ | refine ev_gf2 rfl rfl rfl rfl ?_ | refine ev_gf2 rfl rfl HH_land rfl ?_ | refine ev_gf2 rfl rfl HH_draft rfl ?_ | refine ev_gf2 rfl rfl (by with_reducible assumption) rfl ?_)
  refine ev_sx (m := L) (f := xs) (i + 1) rfl rfl (nI_add i 1) (by omega) (by omega) ?_
  refine ev_cv rfl rfl rfl c1 ?_
  repeat (first | refine ev_gos 99 rfl ?_ | refine ev_gf2 rfl rfl rfl rfl ?_ | refine ev_gf2 rfl rfl HH_land rfl ?_ | refine ev_gf2 rfl rfl HH_draft rfl ?_ | refine ev_gf2 rfl rfl (by with_reducible assumption) rfl ?_)
  refine ev_sx (m := L) (f := xs) (i + 1) rfl (rd_no hno) (nI_add i 1) (by omega) (by omega) ?_
  refine ev_cv rfl rfl hm c2 ?_
  refine ev_ift rfl rfl rfl (c_eq rfl) ?_
  exact law_back (v := v) k 0 (Or.inr trivial)
set_option maxRecDepth 100000 in
theorem law_1 (hL : L ≤ 256) {i : Nat} (hi : i + 4 ≤ L) {w : Bool} {s : Nat → Int32} {l : Nat → Int64} {A : Nat → Nat → Int32} {B : Nat → Nat → Int64} (hj : Jn s l A B) (ih : ∀ (w : Bool) (s : Nat → Int32) (l : Nat → Int64) (A : Nat → Nat → Int32) (B : Nat → Nat → Int64), Jn s l A B → ∃ h', LawAt L xs (i + 4) (HH w s l A B) h') : ∃ h', Ev (L, xs) 13 m_W_law 199 [some (.ref 1000), some (.ref 0), some (.ref 26), some (.int (nI i))] [] (HH w s l A B) (some (.int 1)) h' := by
  obtain ⟨W, H, P, fi, c, hI⟩ := hj
  obtain ⟨v, h1, w2, s2, l2, A2, B2, c1, c2, j2⟩ := b_north (sc := (L, xs)) (d := 0) (w := w) hI 
  obtain ⟨⟨fs, hm⟩, hno⟩ := ev_kept c1
  obtain ⟨h', k⟩ := ih w2 s2 l2 A2 B2 j2
  refine ⟨h', ?_⟩
  repeat (first | refine ev_gos 99 rfl ?_ | refine ev_gf2 rfl rfl rfl rfl ?_ | refine ev_gf2 rfl rfl HH_land rfl ?_ | refine ev_gf2 rfl rfl HH_draft rfl ?_ | refine ev_gf2 rfl rfl (by with_reducible assumption) rfl ?_)
  refine ev_cv rfl rfl rfl c1 ?_
  repeat (first | refine ev_gos 99 rfl ?_ | refine ev_gf2 rfl rfl rfl rfl ?_ | refine ev_gf2 rfl rfl HH_land rfl ?_ | refine ev_gf2 rfl rfl HH_draft rfl ?_ | refine ev_gf2 rfl rfl (by with_reducible assumption) rfl ?_)
  refine ev_cv rfl rfl hm c2 ?_
  refine ev_ift rfl rfl rfl (c_eq rfl) ?_
  exact law_back (v := v) k 0 (Or.inr trivial)
set_option maxRecDepth 100000 in
theorem law_2 (hL : L ≤ 256) {i : Nat} (hi : i + 4 ≤ L) {w : Bool} {s : Nat → Int32} {l : Nat → Int64} {A : Nat → Nat → Int32} {B : Nat → Nat → Int64} (hj : Jn s l A B) (ih : ∀ (w : Bool) (s : Nat → Int32) (l : Nat → Int64) (A : Nat → Nat → Int32) (B : Nat → Nat → Int64), Jn s l A B → ∃ h', LawAt L xs (i + 4) (HH w s l A B) h') : ∃ h', Ev (L, xs) 13 m_W_law 212 [some (.ref 1000), some (.ref 0), some (.ref 26), some (.int (nI i))] [] (HH w s l A B) (some (.int 1)) h' := by
  obtain ⟨W, H, P, fi, c, hI⟩ := hj
  obtain ⟨v, h1, w2, s2, l2, A2, B2, c1, c2, j2⟩ := b_fault (sc := (L, xs)) (d := 0) (w := w) hI 
  obtain ⟨⟨fs, hm⟩, hno⟩ := ev_kept c1
  obtain ⟨h', k⟩ := ih w2 s2 l2 A2 B2 j2
  refine ⟨h', ?_⟩
  repeat (first | refine ev_gos 99 rfl ?_ | refine ev_gf2 rfl rfl rfl rfl ?_ | refine ev_gf2 rfl rfl HH_land rfl ?_ | refine ev_gf2 rfl rfl HH_draft rfl ?_ | refine ev_gf2 rfl rfl (by with_reducible assumption) rfl ?_)
  refine ev_cv rfl rfl rfl c1 ?_
  repeat (first | refine ev_gos 99 rfl ?_ | refine ev_gf2 rfl rfl rfl rfl ?_ | refine ev_gf2 rfl rfl HH_land rfl ?_ | refine ev_gf2 rfl rfl HH_draft rfl ?_ | refine ev_gf2 rfl rfl (by with_reducible assumption) rfl ?_)
  refine ev_cv rfl rfl hm c2 ?_
  refine ev_ift rfl rfl rfl (c_eq rfl) ?_
  exact law_back (v := v) k 0 (Or.inr trivial)
set_option maxRecDepth 100000 in
theorem law_3 (hL : L ≤ 256) {i : Nat} (hi : i + 4 ≤ L) {w : Bool} {s : Nat → Int32} {l : Nat → Int64} {A : Nat → Nat → Int32} {B : Nat → Nat → Int64} (hj : Jn s l A B) (ih : ∀ (w : Bool) (s : Nat → Int32) (l : Nat → Int64) (A : Nat → Nat → Int32) (B : Nat → Nat → Int64), Jn s l A B → ∃ h', LawAt L xs (i + 4) (HH w s l A B) h') : ∃ h', Ev (L, xs) 13 m_W_law 225 [some (.ref 1000), some (.ref 0), some (.ref 26), some (.int (nI i))] [] (HH w s l A B) (some (.int 1)) h' := by
  obtain ⟨W, H, P, fi, c, hI⟩ := hj
  obtain ⟨v, h1, w2, s2, l2, A2, B2, c1, c2, j2⟩ := b_told (sc := (L, xs)) (d := 0) (w := w) hI (xs (i + 1))
  obtain ⟨⟨fs, hm⟩, hno⟩ := ev_kept c1
  obtain ⟨h', k⟩ := ih w2 s2 l2 A2 B2 j2
  refine ⟨h', ?_⟩
  repeat (first | refine ev_gos 99 rfl ?_ | refine ev_gf2 rfl rfl rfl rfl ?_ | refine ev_gf2 rfl rfl HH_land rfl ?_ | refine ev_gf2 rfl rfl HH_draft rfl ?_ | refine ev_gf2 rfl rfl (by with_reducible assumption) rfl ?_)
  refine ev_sx (m := L) (f := xs) (i + 1) rfl rfl (nI_add i 1) (by omega) (by omega) ?_
  refine ev_cv rfl rfl rfl c1 ?_
  repeat (first | refine ev_gos 99 rfl ?_ | refine ev_gf2 rfl rfl rfl rfl ?_ | refine ev_gf2 rfl rfl HH_land rfl ?_ | refine ev_gf2 rfl rfl HH_draft rfl ?_ | refine ev_gf2 rfl rfl (by with_reducible assumption) rfl ?_)
  refine ev_sx (m := L) (f := xs) (i + 1) rfl (rd_no hno) (nI_add i 1) (by omega) (by omega) ?_
  refine ev_cv rfl rfl hm c2 ?_
  refine ev_ift rfl rfl rfl (c_eq rfl) ?_
  exact law_back (v := v) k 0 (Or.inr trivial)
set_option maxRecDepth 100000 in
theorem law_4 (hL : L ≤ 256) {i : Nat} (hi : i + 4 ≤ L) {w : Bool} {s : Nat → Int32} {l : Nat → Int64} {A : Nat → Nat → Int32} {B : Nat → Nat → Int64} (hj : Jn s l A B) (ih : ∀ (w : Bool) (s : Nat → Int32) (l : Nat → Int64) (A : Nat → Nat → Int32) (B : Nat → Nat → Int64), Jn s l A B → ∃ h', LawAt L xs (i + 4) (HH w s l A B) h') : ∃ h', Ev (L, xs) 13 m_W_law 248 [some (.ref 1000), some (.ref 0), some (.ref 26), some (.int (nI i))] [] (HH w s l A B) (some (.int 1)) h' := by
  obtain ⟨W, H, P, fi, c, hI⟩ := hj
  obtain ⟨v, h1, w2, s2, l2, A2, B2, c1, c2, j2⟩ := b_cell (sc := (L, xs)) (d := 0) (w := w) hI (xs (i + 1)) (xs (i + 2))
  obtain ⟨⟨fs, hm⟩, hno⟩ := ev_kept c1
  obtain ⟨h', k⟩ := ih w2 s2 l2 A2 B2 j2
  refine ⟨h', ?_⟩
  repeat (first | refine ev_gos 99 rfl ?_ | refine ev_gf2 rfl rfl rfl rfl ?_ | refine ev_gf2 rfl rfl HH_land rfl ?_ | refine ev_gf2 rfl rfl HH_draft rfl ?_ | refine ev_gf2 rfl rfl (by with_reducible assumption) rfl ?_)
  refine ev_sx (m := L) (f := xs) (i + 1) rfl rfl (nI_add i 1) (by omega) (by omega) ?_
  repeat (first | refine ev_gos 99 rfl ?_ | refine ev_gf2 rfl rfl rfl rfl ?_ | refine ev_gf2 rfl rfl HH_land rfl ?_ | refine ev_gf2 rfl rfl HH_draft rfl ?_ | refine ev_gf2 rfl rfl (by with_reducible assumption) rfl ?_)
  refine ev_sx (m := L) (f := xs) (i + 2) rfl rfl (nI_add i 2) (by omega) (by omega) ?_
  refine ev_cv rfl rfl rfl c1 ?_
  repeat (first | refine ev_gos 99 rfl ?_ | refine ev_gf2 rfl rfl rfl rfl ?_ | refine ev_gf2 rfl rfl HH_land rfl ?_ | refine ev_gf2 rfl rfl HH_draft rfl ?_ | refine ev_gf2 rfl rfl (by with_reducible assumption) rfl ?_)
  refine ev_sx (m := L) (f := xs) (i + 1) rfl (rd_no hno) (nI_add i 1) (by omega) (by omega) ?_
  repeat (first | refine ev_gos 99 rfl ?_ | refine ev_gf2 rfl rfl rfl rfl ?_ | refine ev_gf2 rfl rfl HH_land rfl ?_ | refine ev_gf2 rfl rfl HH_draft rfl ?_ | refine ev_gf2 rfl rfl (by with_reducible assumption) rfl ?_)
  refine ev_sx (m := L) (f := xs) (i + 2) rfl (rd_no hno) (nI_add i 2) (by omega) (by omega) ?_
  refine ev_cv rfl rfl hm c2 ?_
  refine ev_ift rfl rfl rfl (c_eq rfl) ?_
  exact law_back (v := v) k 0 (Or.inr trivial)
set_option maxRecDepth 100000 in
theorem law_5 (hL : L ≤ 256) {i : Nat} (hi : i + 4 ≤ L) {w : Bool} {s : Nat → Int32} {l : Nat → Int64} {A : Nat → Nat → Int32} {B : Nat → Nat → Int64} (hj : Jn s l A B) (ih : ∀ (w : Bool) (s : Nat → Int32) (l : Nat → Int64) (A : Nat → Nat → Int32) (B : Nat → Nat → Int64), Jn s l A B → ∃ h', LawAt L xs (i + 4) (HH w s l A B) h') : ∃ h', Ev (L, xs) 13 m_W_law 281 [some (.ref 1000), some (.ref 0), some (.ref 26), some (.int (nI i))] [] (HH w s l A B) (some (.int 1)) h' := by
  obtain ⟨W, H, P, fi, c, hI⟩ := hj
  obtain ⟨v, h1, w2, s2, l2, A2, B2, c1, c2, j2⟩ := b_person (sc := (L, xs)) (d := 0) (w := w) hI (xs (i + 1)) (xs (i + 2))
  obtain ⟨⟨fs, hm⟩, hno⟩ := ev_kept c1
  obtain ⟨h', k⟩ := ih w2 s2 l2 A2 B2 j2
  refine ⟨h', ?_⟩
  repeat (first | refine ev_gos 99 rfl ?_ | refine ev_gf2 rfl rfl rfl rfl ?_ | refine ev_gf2 rfl rfl HH_land rfl ?_ | refine ev_gf2 rfl rfl HH_draft rfl ?_ | refine ev_gf2 rfl rfl (by with_reducible assumption) rfl ?_)
  refine ev_sx (m := L) (f := xs) (i + 1) rfl rfl (nI_add i 1) (by omega) (by omega) ?_
  repeat (first | refine ev_gos 99 rfl ?_ | refine ev_gf2 rfl rfl rfl rfl ?_ | refine ev_gf2 rfl rfl HH_land rfl ?_ | refine ev_gf2 rfl rfl HH_draft rfl ?_ | refine ev_gf2 rfl rfl (by with_reducible assumption) rfl ?_)
  refine ev_sx (m := L) (f := xs) (i + 2) rfl rfl (nI_add i 2) (by omega) (by omega) ?_
  refine ev_cv rfl rfl rfl c1 ?_
  repeat (first | refine ev_gos 99 rfl ?_ | refine ev_gf2 rfl rfl rfl rfl ?_ | refine ev_gf2 rfl rfl HH_land rfl ?_ | refine ev_gf2 rfl rfl HH_draft rfl ?_ | refine ev_gf2 rfl rfl (by with_reducible assumption) rfl ?_)
  refine ev_sx (m := L) (f := xs) (i + 1) rfl (rd_no hno) (nI_add i 1) (by omega) (by omega) ?_
  repeat (first | refine ev_gos 99 rfl ?_ | refine ev_gf2 rfl rfl rfl rfl ?_ | refine ev_gf2 rfl rfl HH_land rfl ?_ | refine ev_gf2 rfl rfl HH_draft rfl ?_ | refine ev_gf2 rfl rfl (by with_reducible assumption) rfl ?_)
  refine ev_sx (m := L) (f := xs) (i + 2) rfl (rd_no hno) (nI_add i 2) (by omega) (by omega) ?_
  refine ev_cv rfl rfl hm c2 ?_
  refine ev_ift rfl rfl rfl (c_eq rfl) ?_
  exact law_back (v := v) k 0 (Or.inr trivial)
set_option maxRecDepth 100000 in
theorem law_6 (hL : L ≤ 256) {i : Nat} (hi : i + 4 ≤ L) {w : Bool} {s : Nat → Int32} {l : Nat → Int64} {A : Nat → Nat → Int32} {B : Nat → Nat → Int64} (hj : Jn s l A B) (ih : ∀ (w : Bool) (s : Nat → Int32) (l : Nat → Int64) (A : Nat → Nat → Int32) (B : Nat → Nat → Int64), Jn s l A B → ∃ h', LawAt L xs (i + 4) (HH w s l A B) h') : ∃ h', Ev (L, xs) 13 m_W_law 314 [some (.ref 1000), some (.ref 0), some (.ref 26), some (.int (nI i))] [] (HH w s l A B) (some (.int 1)) h' := by
  obtain ⟨W, H, P, fi, c, hI⟩ := hj
  obtain ⟨v, h1, w2, s2, l2, A2, B2, c1, c2, j2⟩ := b_lie (sc := (L, xs)) (d := 0) (w := w) hI (xs (i + 1)) (xs (i + 2))
  obtain ⟨⟨fs, hm⟩, hno⟩ := ev_kept c1
  obtain ⟨h', k⟩ := ih w2 s2 l2 A2 B2 j2
  refine ⟨h', ?_⟩
  repeat (first | refine ev_gos 99 rfl ?_ | refine ev_gf2 rfl rfl rfl rfl ?_ | refine ev_gf2 rfl rfl HH_land rfl ?_ | refine ev_gf2 rfl rfl HH_draft rfl ?_ | refine ev_gf2 rfl rfl (by with_reducible assumption) rfl ?_)
  refine ev_sx (m := L) (f := xs) (i + 1) rfl rfl (nI_add i 1) (by omega) (by omega) ?_
  repeat (first | refine ev_gos 99 rfl ?_ | refine ev_gf2 rfl rfl rfl rfl ?_ | refine ev_gf2 rfl rfl HH_land rfl ?_ | refine ev_gf2 rfl rfl HH_draft rfl ?_ | refine ev_gf2 rfl rfl (by with_reducible assumption) rfl ?_)
  refine ev_sx (m := L) (f := xs) (i + 2) rfl rfl (nI_add i 2) (by omega) (by omega) ?_
  refine ev_cv rfl rfl rfl c1 ?_
  repeat (first | refine ev_gos 99 rfl ?_ | refine ev_gf2 rfl rfl rfl rfl ?_ | refine ev_gf2 rfl rfl HH_land rfl ?_ | refine ev_gf2 rfl rfl HH_draft rfl ?_ | refine ev_gf2 rfl rfl (by with_reducible assumption) rfl ?_)
  refine ev_sx (m := L) (f := xs) (i + 1) rfl (rd_no hno) (nI_add i 1) (by omega) (by omega) ?_
  repeat (first | refine ev_gos 99 rfl ?_ | refine ev_gf2 rfl rfl rfl rfl ?_ | refine ev_gf2 rfl rfl HH_land rfl ?_ | refine ev_gf2 rfl rfl HH_draft rfl ?_ | refine ev_gf2 rfl rfl (by with_reducible assumption) rfl ?_)
  refine ev_sx (m := L) (f := xs) (i + 2) rfl (rd_no hno) (nI_add i 2) (by omega) (by omega) ?_
  refine ev_cv rfl rfl hm c2 ?_
  refine ev_ift rfl rfl rfl (c_eq rfl) ?_
  exact law_back (v := v) k 0 (Or.inr trivial)
set_option maxRecDepth 100000 in
theorem law_7 (hL : L ≤ 256) {i : Nat} (hi : i + 4 ≤ L) {w : Bool} {s : Nat → Int32} {l : Nat → Int64} {A : Nat → Nat → Int32} {B : Nat → Nat → Int64} (hj : Jn s l A B) (ih : ∀ (w : Bool) (s : Nat → Int32) (l : Nat → Int64) (A : Nat → Nat → Int32) (B : Nat → Nat → Int64), Jn s l A B → ∃ h', LawAt L xs (i + 4) (HH w s l A B) h') : ∃ h', Ev (L, xs) 13 m_W_law 347 [some (.ref 1000), some (.ref 0), some (.ref 26), some (.int (nI i))] [] (HH w s l A B) (some (.int 1)) h' := by
  obtain ⟨W, H, P, fi, c, hI⟩ := hj
  obtain ⟨v, h1, w2, s2, l2, A2, B2, c1, c2, j2⟩ := b_rise (sc := (L, xs)) (d := 0) (w := w) hI (xs (i + 1))
  obtain ⟨⟨fs, hm⟩, hno⟩ := ev_kept c1
  obtain ⟨h', k⟩ := ih w2 s2 l2 A2 B2 j2
  refine ⟨h', ?_⟩
  repeat (first | refine ev_gos 99 rfl ?_ | refine ev_gf2 rfl rfl rfl rfl ?_ | refine ev_gf2 rfl rfl HH_land rfl ?_ | refine ev_gf2 rfl rfl HH_draft rfl ?_ | refine ev_gf2 rfl rfl (by with_reducible assumption) rfl ?_)
  refine ev_sx (m := L) (f := xs) (i + 1) rfl rfl (nI_add i 1) (by omega) (by omega) ?_
  refine ev_cv rfl rfl rfl c1 ?_
  repeat (first | refine ev_gos 99 rfl ?_ | refine ev_gf2 rfl rfl rfl rfl ?_ | refine ev_gf2 rfl rfl HH_land rfl ?_ | refine ev_gf2 rfl rfl HH_draft rfl ?_ | refine ev_gf2 rfl rfl (by with_reducible assumption) rfl ?_)
  refine ev_sx (m := L) (f := xs) (i + 1) rfl (rd_no hno) (nI_add i 1) (by omega) (by omega) ?_
  refine ev_cv rfl rfl hm c2 ?_
  refine ev_ift rfl rfl rfl (c_eq rfl) ?_
  exact law_back (v := v) k 0 (Or.inr trivial)
set_option maxRecDepth 100000 in
theorem law_8 (hL : L ≤ 256) {i : Nat} (hi : i + 4 ≤ L) {w : Bool} {s : Nat → Int32} {l : Nat → Int64} {A : Nat → Nat → Int32} {B : Nat → Nat → Int64} (hj : Jn s l A B) (ih : ∀ (w : Bool) (s : Nat → Int32) (l : Nat → Int64) (A : Nat → Nat → Int32) (B : Nat → Nat → Int64), Jn s l A B → ∃ h', LawAt L xs (i + 4) (HH w s l A B) h') : ∃ h', Ev (L, xs) 13 m_W_law 370 [some (.ref 1000), some (.ref 0), some (.ref 26), some (.int (nI i))] [] (HH w s l A B) (some (.int 1)) h' := by
  obtain ⟨W, H, P, fi, c, hI⟩ := hj
  obtain ⟨v, h1, w2, s2, l2, A2, B2, c1, c2, j2⟩ := b_night (sc := (L, xs)) (d := 0) (w := w) hI (xs (i + 1))
  obtain ⟨⟨fs, hm⟩, hno⟩ := ev_kept c1
  obtain ⟨h', k⟩ := ih w2 s2 l2 A2 B2 j2
  refine ⟨h', ?_⟩
  repeat (first | refine ev_gos 99 rfl ?_ | refine ev_gf2 rfl rfl rfl rfl ?_ | refine ev_gf2 rfl rfl HH_land rfl ?_ | refine ev_gf2 rfl rfl HH_draft rfl ?_ | refine ev_gf2 rfl rfl (by with_reducible assumption) rfl ?_)
  refine ev_sx (m := L) (f := xs) (i + 1) rfl rfl (nI_add i 1) (by omega) (by omega) ?_
  refine ev_cv rfl rfl rfl c1 ?_
  repeat (first | refine ev_gos 99 rfl ?_ | refine ev_gf2 rfl rfl rfl rfl ?_ | refine ev_gf2 rfl rfl HH_land rfl ?_ | refine ev_gf2 rfl rfl HH_draft rfl ?_ | refine ev_gf2 rfl rfl (by with_reducible assumption) rfl ?_)
  refine ev_sx (m := L) (f := xs) (i + 1) rfl (rd_no hno) (nI_add i 1) (by omega) (by omega) ?_
  refine ev_cv rfl rfl hm c2 ?_
  refine ev_ift rfl rfl rfl (c_eq rfl) ?_
  exact law_back (v := v) k 0 (Or.inr trivial)
set_option maxRecDepth 100000 in
theorem law_9 (hL : L ≤ 256) {i : Nat} (hi : i + 4 ≤ L) {w : Bool} {s : Nat → Int32} {l : Nat → Int64} {A : Nat → Nat → Int32} {B : Nat → Nat → Int64} (hj : Jn s l A B) (ih : ∀ (w : Bool) (s : Nat → Int32) (l : Nat → Int64) (A : Nat → Nat → Int32) (B : Nat → Nat → Int64), Jn s l A B → ∃ h', LawAt L xs (i + 4) (HH w s l A B) h') : ∃ h', Ev (L, xs) 13 m_W_law 393 [some (.ref 1000), some (.ref 0), some (.ref 26), some (.int (nI i))] [] (HH w s l A B) (some (.int 1)) h' := by
  obtain ⟨W, H, P, fi, c, hI⟩ := hj
  obtain ⟨v, h1, w2, s2, l2, A2, B2, c1, c2, j2⟩ := b_thaw (sc := (L, xs)) (d := 0) (w := w) hI 
  obtain ⟨⟨fs, hm⟩, hno⟩ := ev_kept c1
  obtain ⟨h', k⟩ := ih w2 s2 l2 A2 B2 j2
  refine ⟨h', ?_⟩
  repeat (first | refine ev_gos 99 rfl ?_ | refine ev_gf2 rfl rfl rfl rfl ?_ | refine ev_gf2 rfl rfl HH_land rfl ?_ | refine ev_gf2 rfl rfl HH_draft rfl ?_ | refine ev_gf2 rfl rfl (by with_reducible assumption) rfl ?_)
  refine ev_cv rfl rfl rfl c1 ?_
  repeat (first | refine ev_gos 99 rfl ?_ | refine ev_gf2 rfl rfl rfl rfl ?_ | refine ev_gf2 rfl rfl HH_land rfl ?_ | refine ev_gf2 rfl rfl HH_draft rfl ?_ | refine ev_gf2 rfl rfl (by with_reducible assumption) rfl ?_)
  refine ev_cv rfl rfl hm c2 ?_
  refine ev_ift rfl rfl rfl (c_eq rfl) ?_
  exact law_back (v := v) k 0 (Or.inr trivial)
set_option maxRecDepth 100000 in
theorem law_10 (hL : L ≤ 256) {i : Nat} (hi : i + 4 ≤ L) {w : Bool} {s : Nat → Int32} {l : Nat → Int64} {A : Nat → Nat → Int32} {B : Nat → Nat → Int64} (hj : Jn s l A B) (ih : ∀ (w : Bool) (s : Nat → Int32) (l : Nat → Int64) (A : Nat → Nat → Int32) (B : Nat → Nat → Int64), Jn s l A B → ∃ h', LawAt L xs (i + 4) (HH w s l A B) h') : ∃ h', Ev (L, xs) 13 m_W_law 406 [some (.ref 1000), some (.ref 0), some (.ref 26), some (.int (nI i))] [] (HH w s l A B) (some (.int 1)) h' := by
  obtain ⟨W, H, P, fi, c, hI⟩ := hj
  obtain ⟨v, h1, w2, s2, l2, A2, B2, c1, c2, j2⟩ := b_snow (sc := (L, xs)) (d := 0) (w := w) hI 
  obtain ⟨⟨fs, hm⟩, hno⟩ := ev_kept c1
  obtain ⟨h', k⟩ := ih w2 s2 l2 A2 B2 j2
  refine ⟨h', ?_⟩
  repeat (first | refine ev_gos 99 rfl ?_ | refine ev_gf2 rfl rfl rfl rfl ?_ | refine ev_gf2 rfl rfl HH_land rfl ?_ | refine ev_gf2 rfl rfl HH_draft rfl ?_ | refine ev_gf2 rfl rfl (by with_reducible assumption) rfl ?_)
  refine ev_cv rfl rfl rfl c1 ?_
  repeat (first | refine ev_gos 99 rfl ?_ | refine ev_gf2 rfl rfl rfl rfl ?_ | refine ev_gf2 rfl rfl HH_land rfl ?_ | refine ev_gf2 rfl rfl HH_draft rfl ?_ | refine ev_gf2 rfl rfl (by with_reducible assumption) rfl ?_)
  refine ev_cv rfl rfl hm c2 ?_
  refine ev_ift rfl rfl rfl (c_eq rfl) ?_
  exact law_back (v := v) k 0 (Or.inr trivial)
set_option maxRecDepth 100000 in
theorem law_11 (hL : L ≤ 256) {i : Nat} (hi : i + 4 ≤ L) {w : Bool} {s : Nat → Int32} {l : Nat → Int64} {A : Nat → Nat → Int32} {B : Nat → Nat → Int64} (hj : Jn s l A B) (ih : ∀ (w : Bool) (s : Nat → Int32) (l : Nat → Int64) (A : Nat → Nat → Int32) (B : Nat → Nat → Int64), Jn s l A B → ∃ h', LawAt L xs (i + 4) (HH w s l A B) h') : ∃ h', Ev (L, xs) 13 m_W_law 419 [some (.ref 1000), some (.ref 0), some (.ref 26), some (.int (nI i))] [] (HH w s l A B) (some (.int 1)) h' := by
  obtain ⟨W, H, P, fi, c, hI⟩ := hj
  obtain ⟨v, h1, w2, s2, l2, A2, B2, c1, c2, j2⟩ := b_hare (sc := (L, xs)) (d := 0) (w := w) hI (xs (i + 1))
  obtain ⟨⟨fs, hm⟩, hno⟩ := ev_kept c1
  obtain ⟨h', k⟩ := ih w2 s2 l2 A2 B2 j2
  refine ⟨h', ?_⟩
  repeat (first | refine ev_gos 99 rfl ?_ | refine ev_gf2 rfl rfl rfl rfl ?_ | refine ev_gf2 rfl rfl HH_land rfl ?_ | refine ev_gf2 rfl rfl HH_draft rfl ?_ | refine ev_gf2 rfl rfl (by with_reducible assumption) rfl ?_)
  refine ev_sx (m := L) (f := xs) (i + 1) rfl rfl (nI_add i 1) (by omega) (by omega) ?_
  refine ev_cv rfl rfl rfl c1 ?_
  repeat (first | refine ev_gos 99 rfl ?_ | refine ev_gf2 rfl rfl rfl rfl ?_ | refine ev_gf2 rfl rfl HH_land rfl ?_ | refine ev_gf2 rfl rfl HH_draft rfl ?_ | refine ev_gf2 rfl rfl (by with_reducible assumption) rfl ?_)
  refine ev_sx (m := L) (f := xs) (i + 1) rfl (rd_no hno) (nI_add i 1) (by omega) (by omega) ?_
  refine ev_cv rfl rfl hm c2 ?_
  refine ev_ift rfl rfl rfl (c_eq rfl) ?_
  exact law_back (v := v) k 0 (Or.inr trivial)
set_option maxRecDepth 100000 in
theorem law_12 (hL : L ≤ 256) {i : Nat} (hi : i + 4 ≤ L) {w : Bool} {s : Nat → Int32} {l : Nat → Int64} {A : Nat → Nat → Int32} {B : Nat → Nat → Int64} (hj : Jn s l A B) (ih : ∀ (w : Bool) (s : Nat → Int32) (l : Nat → Int64) (A : Nat → Nat → Int32) (B : Nat → Nat → Int64), Jn s l A B → ∃ h', LawAt L xs (i + 4) (HH w s l A B) h') : ∃ h', Ev (L, xs) 13 m_W_law 442 [some (.ref 1000), some (.ref 0), some (.ref 26), some (.int (nI i))] [] (HH w s l A B) (some (.int 1)) h' := by
  obtain ⟨W, H, P, fi, c, hI⟩ := hj
  obtain ⟨v, h1, w2, s2, l2, A2, B2, c1, c2, j2⟩ := b_pin (sc := (L, xs)) (d := 0) (w := w) hI (xs (i + 1))
  obtain ⟨⟨fs, hm⟩, hno⟩ := ev_kept c1
  obtain ⟨h', k⟩ := ih w2 s2 l2 A2 B2 j2
  refine ⟨h', ?_⟩
  repeat (first | refine ev_gos 99 rfl ?_ | refine ev_gf2 rfl rfl rfl rfl ?_ | refine ev_gf2 rfl rfl HH_land rfl ?_ | refine ev_gf2 rfl rfl HH_draft rfl ?_ | refine ev_gf2 rfl rfl (by with_reducible assumption) rfl ?_)
  refine ev_sx (m := L) (f := xs) (i + 1) rfl rfl (nI_add i 1) (by omega) (by omega) ?_
  refine ev_cv rfl rfl rfl c1 ?_
  repeat (first | refine ev_gos 99 rfl ?_ | refine ev_gf2 rfl rfl rfl rfl ?_ | refine ev_gf2 rfl rfl HH_land rfl ?_ | refine ev_gf2 rfl rfl HH_draft rfl ?_ | refine ev_gf2 rfl rfl (by with_reducible assumption) rfl ?_)
  refine ev_sx (m := L) (f := xs) (i + 1) rfl (rd_no hno) (nI_add i 1) (by omega) (by omega) ?_
  refine ev_cv rfl rfl hm c2 ?_
  refine ev_ift rfl rfl rfl (c_eq rfl) ?_
  exact law_back (v := v) k 0 (Or.inr trivial)
set_option maxRecDepth 100000 in
theorem law_13 (hL : L ≤ 256) {i : Nat} (hi : i + 4 ≤ L) {w : Bool} {s : Nat → Int32} {l : Nat → Int64} {A : Nat → Nat → Int32} {B : Nat → Nat → Int64} (hj : Jn s l A B) (ih : ∀ (w : Bool) (s : Nat → Int32) (l : Nat → Int64) (A : Nat → Nat → Int32) (B : Nat → Nat → Int64), Jn s l A B → ∃ h', LawAt L xs (i + 4) (HH w s l A B) h') : ∃ h', Ev (L, xs) 13 m_W_law 465 [some (.ref 1000), some (.ref 0), some (.ref 26), some (.int (nI i))] [] (HH w s l A B) (some (.int 1)) h' := by
  obtain ⟨W, H, P, fi, c, hI⟩ := hj
  obtain ⟨v, h1, w2, s2, l2, A2, B2, c1, c2, j2⟩ := b_wind (sc := (L, xs)) (d := 0) (w := w) hI (xs (i + 1))
  obtain ⟨⟨fs, hm⟩, hno⟩ := ev_kept c1
  obtain ⟨h', k⟩ := ih w2 s2 l2 A2 B2 j2
  refine ⟨h', ?_⟩
  repeat (first | refine ev_gos 99 rfl ?_ | refine ev_gf2 rfl rfl rfl rfl ?_ | refine ev_gf2 rfl rfl HH_land rfl ?_ | refine ev_gf2 rfl rfl HH_draft rfl ?_ | refine ev_gf2 rfl rfl (by with_reducible assumption) rfl ?_)
  refine ev_sx (m := L) (f := xs) (i + 1) rfl rfl (nI_add i 1) (by omega) (by omega) ?_
  refine ev_cv rfl rfl rfl c1 ?_
  repeat (first | refine ev_gos 99 rfl ?_ | refine ev_gf2 rfl rfl rfl rfl ?_ | refine ev_gf2 rfl rfl HH_land rfl ?_ | refine ev_gf2 rfl rfl HH_draft rfl ?_ | refine ev_gf2 rfl rfl (by with_reducible assumption) rfl ?_)
  refine ev_sx (m := L) (f := xs) (i + 1) rfl (rd_no hno) (nI_add i 1) (by omega) (by omega) ?_
  refine ev_cv rfl rfl hm c2 ?_
  refine ev_ift rfl rfl rfl (c_eq rfl) ?_
  exact law_back (v := v) k 0 (Or.inr trivial)
set_option maxRecDepth 100000 in
theorem law_14 (hL : L ≤ 256) {i : Nat} (hi : i + 4 ≤ L) {w : Bool} {s : Nat → Int32} {l : Nat → Int64} {A : Nat → Nat → Int32} {B : Nat → Nat → Int64} (hj : Jn s l A B) (ih : ∀ (w : Bool) (s : Nat → Int32) (l : Nat → Int64) (A : Nat → Nat → Int32) (B : Nat → Nat → Int64), Jn s l A B → ∃ h', LawAt L xs (i + 4) (HH w s l A B) h') : ∃ h', Ev (L, xs) 13 m_W_law 488 [some (.ref 1000), some (.ref 0), some (.ref 26), some (.int (nI i))] [] (HH w s l A B) (some (.int 1)) h' := by
  obtain ⟨W, H, P, fi, c, hI⟩ := hj
  obtain ⟨v, h1, w2, s2, l2, A2, B2, c1, c2, j2⟩ := b_drift (sc := (L, xs)) (d := 0) (w := w) hI (xs (i + 1))
  obtain ⟨⟨fs, hm⟩, hno⟩ := ev_kept c1
  obtain ⟨h', k⟩ := ih w2 s2 l2 A2 B2 j2
  refine ⟨h', ?_⟩
  repeat (first | refine ev_gos 99 rfl ?_ | refine ev_gf2 rfl rfl rfl rfl ?_ | refine ev_gf2 rfl rfl HH_land rfl ?_ | refine ev_gf2 rfl rfl HH_draft rfl ?_ | refine ev_gf2 rfl rfl (by with_reducible assumption) rfl ?_)
  refine ev_sx (m := L) (f := xs) (i + 1) rfl rfl (nI_add i 1) (by omega) (by omega) ?_
  refine ev_cv rfl rfl rfl c1 ?_
  repeat (first | refine ev_gos 99 rfl ?_ | refine ev_gf2 rfl rfl rfl rfl ?_ | refine ev_gf2 rfl rfl HH_land rfl ?_ | refine ev_gf2 rfl rfl HH_draft rfl ?_ | refine ev_gf2 rfl rfl (by with_reducible assumption) rfl ?_)
  refine ev_sx (m := L) (f := xs) (i + 1) rfl (rd_no hno) (nI_add i 1) (by omega) (by omega) ?_
  refine ev_cv rfl rfl hm c2 ?_
  refine ev_ift rfl rfl rfl (c_eq rfl) ?_
  exact law_back (v := v) k 0 (Or.inr trivial)
set_option maxRecDepth 100000 in
theorem law_15 (hL : L ≤ 256) {i : Nat} (hi : i + 4 ≤ L) {w : Bool} {s : Nat → Int32} {l : Nat → Int64} {A : Nat → Nat → Int32} {B : Nat → Nat → Int64} (hj : Jn s l A B) (ih : ∀ (w : Bool) (s : Nat → Int32) (l : Nat → Int64) (A : Nat → Nat → Int32) (B : Nat → Nat → Int64), Jn s l A B → ∃ h', LawAt L xs (i + 4) (HH w s l A B) h') : ∃ h', Ev (L, xs) 13 m_W_law 511 [some (.ref 1000), some (.ref 0), some (.ref 26), some (.int (nI i))] [] (HH w s l A B) (some (.int 1)) h' := by
  obtain ⟨W, H, P, fi, c, hI⟩ := hj
  obtain ⟨v, h1, w2, s2, l2, A2, B2, c1, c2, j2⟩ := b_undo (sc := (L, xs)) (d := 0) (w := w) hI (xs (i + 1))
  obtain ⟨⟨fs, hm⟩, hno⟩ := ev_kept c1
  obtain ⟨h', k⟩ := ih w2 s2 l2 A2 B2 j2
  refine ⟨h', ?_⟩
  repeat (first | refine ev_gos 99 rfl ?_ | refine ev_gf2 rfl rfl rfl rfl ?_ | refine ev_gf2 rfl rfl HH_land rfl ?_ | refine ev_gf2 rfl rfl HH_draft rfl ?_ | refine ev_gf2 rfl rfl (by with_reducible assumption) rfl ?_)
  refine ev_sx (m := L) (f := xs) (i + 1) rfl rfl (nI_add i 1) (by omega) (by omega) ?_
  refine ev_cv rfl rfl rfl c1 ?_
  repeat (first | refine ev_gos 99 rfl ?_ | refine ev_gf2 rfl rfl rfl rfl ?_ | refine ev_gf2 rfl rfl HH_land rfl ?_ | refine ev_gf2 rfl rfl HH_draft rfl ?_ | refine ev_gf2 rfl rfl (by with_reducible assumption) rfl ?_)
  refine ev_sx (m := L) (f := xs) (i + 1) rfl (rd_no hno) (nI_add i 1) (by omega) (by omega) ?_
  refine ev_cv rfl rfl hm c2 ?_
  refine ev_ift rfl rfl rfl (c_eq rfl) ?_
  exact law_back (v := v) k 0 (Or.inr trivial)
set_option maxRecDepth 100000 in
theorem law_16 (hL : L ≤ 256) {i : Nat} (hi : i + 4 ≤ L) {w : Bool} {s : Nat → Int32} {l : Nat → Int64} {A : Nat → Nat → Int32} {B : Nat → Nat → Int64} (hj : Jn s l A B) (ih : ∀ (w : Bool) (s : Nat → Int32) (l : Nat → Int64) (A : Nat → Nat → Int32) (B : Nat → Nat → Int64), Jn s l A B → ∃ h', LawAt L xs (i + 4) (HH w s l A B) h') : ∃ h', Ev (L, xs) 13 m_W_law 534 [some (.ref 1000), some (.ref 0), some (.ref 26), some (.int (nI i))] [] (HH w s l A B) (some (.int 1)) h' := by
  obtain ⟨W, H, P, fi, c, hI⟩ := hj
  obtain ⟨v, h1, w2, s2, l2, A2, B2, c1, c2, j2⟩ := b_left (sc := (L, xs)) (d := 0) (w := w) hI (xs (i + 1)) (xs (i + 2))
  obtain ⟨⟨fs, hm⟩, hno⟩ := ev_kept c1
  obtain ⟨h', k⟩ := ih w2 s2 l2 A2 B2 j2
  refine ⟨h', ?_⟩
  repeat (first | refine ev_gos 99 rfl ?_ | refine ev_gf2 rfl rfl rfl rfl ?_ | refine ev_gf2 rfl rfl HH_land rfl ?_ | refine ev_gf2 rfl rfl HH_draft rfl ?_ | refine ev_gf2 rfl rfl (by with_reducible assumption) rfl ?_)
  refine ev_sx (m := L) (f := xs) (i + 1) rfl rfl (nI_add i 1) (by omega) (by omega) ?_
  repeat (first | refine ev_gos 99 rfl ?_ | refine ev_gf2 rfl rfl rfl rfl ?_ | refine ev_gf2 rfl rfl HH_land rfl ?_ | refine ev_gf2 rfl rfl HH_draft rfl ?_ | refine ev_gf2 rfl rfl (by with_reducible assumption) rfl ?_)
  refine ev_sx (m := L) (f := xs) (i + 2) rfl rfl (nI_add i 2) (by omega) (by omega) ?_
  refine ev_cv rfl rfl rfl c1 ?_
  repeat (first | refine ev_gos 99 rfl ?_ | refine ev_gf2 rfl rfl rfl rfl ?_ | refine ev_gf2 rfl rfl HH_land rfl ?_ | refine ev_gf2 rfl rfl HH_draft rfl ?_ | refine ev_gf2 rfl rfl (by with_reducible assumption) rfl ?_)
  refine ev_sx (m := L) (f := xs) (i + 1) rfl (rd_no hno) (nI_add i 1) (by omega) (by omega) ?_
  repeat (first | refine ev_gos 99 rfl ?_ | refine ev_gf2 rfl rfl rfl rfl ?_ | refine ev_gf2 rfl rfl HH_land rfl ?_ | refine ev_gf2 rfl rfl HH_draft rfl ?_ | refine ev_gf2 rfl rfl (by with_reducible assumption) rfl ?_)
  refine ev_sx (m := L) (f := xs) (i + 2) rfl (rd_no hno) (nI_add i 2) (by omega) (by omega) ?_
  refine ev_cv rfl rfl hm c2 ?_
  refine ev_ift rfl rfl rfl (c_eq rfl) ?_
  exact law_back (v := v) k 0 (Or.inr trivial)
set_option maxRecDepth 100000 in
theorem law_17 (hL : L ≤ 256) {i : Nat} (hi : i + 4 ≤ L) {w : Bool} {s : Nat → Int32} {l : Nat → Int64} {A : Nat → Nat → Int32} {B : Nat → Nat → Int64} (hj : Jn s l A B) (ih : ∀ (w : Bool) (s : Nat → Int32) (l : Nat → Int64) (A : Nat → Nat → Int32) (B : Nat → Nat → Int64), Jn s l A B → ∃ h', LawAt L xs (i + 4) (HH w s l A B) h') : ∃ h', Ev (L, xs) 13 m_W_law 567 [some (.ref 1000), some (.ref 0), some (.ref 26), some (.int (nI i))] [] (HH w s l A B) (some (.int 1)) h' := by
  obtain ⟨W, H, P, fi, c, hI⟩ := hj
  obtain ⟨v, h1, w2, s2, l2, A2, B2, c1, c2, j2⟩ := b_willCount (sc := (L, xs)) (d := 0) (w := w) hI (xs (i + 1))
  obtain ⟨⟨fs, hm⟩, hno⟩ := ev_kept c1
  obtain ⟨h', k⟩ := ih w2 s2 l2 A2 B2 j2
  refine ⟨h', ?_⟩
  repeat (first | refine ev_gos 99 rfl ?_ | refine ev_gf2 rfl rfl rfl rfl ?_ | refine ev_gf2 rfl rfl HH_land rfl ?_ | refine ev_gf2 rfl rfl HH_draft rfl ?_ | refine ev_gf2 rfl rfl (by with_reducible assumption) rfl ?_)
  refine ev_sx (m := L) (f := xs) (i + 1) rfl rfl (nI_add i 1) (by omega) (by omega) ?_
  refine ev_cv rfl rfl rfl c1 ?_
  repeat (first | refine ev_gos 99 rfl ?_ | refine ev_gf2 rfl rfl rfl rfl ?_ | refine ev_gf2 rfl rfl HH_land rfl ?_ | refine ev_gf2 rfl rfl HH_draft rfl ?_ | refine ev_gf2 rfl rfl (by with_reducible assumption) rfl ?_)
  refine ev_sx (m := L) (f := xs) (i + 1) rfl (rd_no hno) (nI_add i 1) (by omega) (by omega) ?_
  refine ev_cv rfl rfl hm c2 ?_
  refine ev_ift rfl rfl rfl (c_eq rfl) ?_
  exact law_back (v := v) k 0 (Or.inr trivial)
set_option maxRecDepth 100000 in
theorem law_18 (hL : L ≤ 256) {i : Nat} (hi : i + 4 ≤ L) {w : Bool} {s : Nat → Int32} {l : Nat → Int64} {A : Nat → Nat → Int32} {B : Nat → Nat → Int64} (hj : Jn s l A B) (ih : ∀ (w : Bool) (s : Nat → Int32) (l : Nat → Int64) (A : Nat → Nat → Int32) (B : Nat → Nat → Int64), Jn s l A B → ∃ h', LawAt L xs (i + 4) (HH w s l A B) h') : ∃ h', Ev (L, xs) 13 m_W_law 590 [some (.ref 1000), some (.ref 0), some (.ref 26), some (.int (nI i))] [] (HH w s l A B) (some (.int 1)) h' := by
  obtain ⟨W, H, P, fi, c, hI⟩ := hj
  obtain ⟨v, h1, w2, s2, l2, A2, B2, c1, c2, j2⟩ := b_wrongFirst (sc := (L, xs)) (d := 0) (w := w) hI 
  obtain ⟨⟨fs, hm⟩, hno⟩ := ev_kept c1
  obtain ⟨h', k⟩ := ih w2 s2 l2 A2 B2 j2
  refine ⟨h', ?_⟩
  repeat (first | refine ev_gos 99 rfl ?_ | refine ev_gf2 rfl rfl rfl rfl ?_ | refine ev_gf2 rfl rfl HH_land rfl ?_ | refine ev_gf2 rfl rfl HH_draft rfl ?_ | refine ev_gf2 rfl rfl (by with_reducible assumption) rfl ?_)
  refine ev_cv rfl rfl rfl c1 ?_
  repeat (first | refine ev_gos 99 rfl ?_ | refine ev_gf2 rfl rfl rfl rfl ?_ | refine ev_gf2 rfl rfl HH_land rfl ?_ | refine ev_gf2 rfl rfl HH_draft rfl ?_ | refine ev_gf2 rfl rfl (by with_reducible assumption) rfl ?_)
  refine ev_cv rfl rfl hm c2 ?_
  refine ev_ift rfl rfl rfl (c_eq rfl) ?_
  exact law_back (v := v) k 0 (Or.inr trivial)
set_option maxRecDepth 100000 in
theorem law_19 (hL : L ≤ 256) {i : Nat} (hi : i + 4 ≤ L) {w : Bool} {s : Nat → Int32} {l : Nat → Int64} {A : Nat → Nat → Int32} {B : Nat → Nat → Int64} (hj : Jn s l A B) (ih : ∀ (w : Bool) (s : Nat → Int32) (l : Nat → Int64) (A : Nat → Nat → Int32) (B : Nat → Nat → Int64), Jn s l A B → ∃ h', LawAt L xs (i + 4) (HH w s l A B) h') : ∃ h', Ev (L, xs) 13 m_W_law 603 [some (.ref 1000), some (.ref 0), some (.ref 26), some (.int (nI i))] [] (HH w s l A B) (some (.int 1)) h' := by
  obtain ⟨W, H, P, fi, c, hI⟩ := hj
  obtain ⟨v, h1, w2, s2, l2, A2, B2, c1, c2, j2⟩ := b_canLie (sc := (L, xs)) (d := 0) (w := w) hI (xs (i + 1)) (xs (i + 2))
  obtain ⟨⟨fs, hm⟩, hno⟩ := ev_kept c1
  obtain ⟨h', k⟩ := ih w2 s2 l2 A2 B2 j2
  refine ⟨h', ?_⟩
  repeat (first | refine ev_gos 99 rfl ?_ | refine ev_gf2 rfl rfl rfl rfl ?_ | refine ev_gf2 rfl rfl HH_land rfl ?_ | refine ev_gf2 rfl rfl HH_draft rfl ?_ | refine ev_gf2 rfl rfl (by with_reducible assumption) rfl ?_)
  refine ev_sx (m := L) (f := xs) (i + 1) rfl rfl (nI_add i 1) (by omega) (by omega) ?_
  repeat (first | refine ev_gos 99 rfl ?_ | refine ev_gf2 rfl rfl rfl rfl ?_ | refine ev_gf2 rfl rfl HH_land rfl ?_ | refine ev_gf2 rfl rfl HH_draft rfl ?_ | refine ev_gf2 rfl rfl (by with_reducible assumption) rfl ?_)
  refine ev_sx (m := L) (f := xs) (i + 2) rfl rfl (nI_add i 2) (by omega) (by omega) ?_
  refine ev_cv rfl rfl rfl c1 ?_
  repeat (first | refine ev_gos 99 rfl ?_ | refine ev_gf2 rfl rfl rfl rfl ?_ | refine ev_gf2 rfl rfl HH_land rfl ?_ | refine ev_gf2 rfl rfl HH_draft rfl ?_ | refine ev_gf2 rfl rfl (by with_reducible assumption) rfl ?_)
  refine ev_sx (m := L) (f := xs) (i + 1) rfl (rd_no hno) (nI_add i 1) (by omega) (by omega) ?_
  repeat (first | refine ev_gos 99 rfl ?_ | refine ev_gf2 rfl rfl rfl rfl ?_ | refine ev_gf2 rfl rfl HH_land rfl ?_ | refine ev_gf2 rfl rfl HH_draft rfl ?_ | refine ev_gf2 rfl rfl (by with_reducible assumption) rfl ?_)
  refine ev_sx (m := L) (f := xs) (i + 2) rfl (rd_no hno) (nI_add i 2) (by omega) (by omega) ?_
  refine ev_cv rfl rfl hm c2 ?_
  refine ev_ift rfl rfl rfl (c_eq rfl) ?_
  exact law_back (v := v) k 0 (Or.inr trivial)
set_option maxRecDepth 100000 in
theorem law_20 (hL : L ≤ 256) {i : Nat} (hi : i + 4 ≤ L) {w : Bool} {s : Nat → Int32} {l : Nat → Int64} {A : Nat → Nat → Int32} {B : Nat → Nat → Int64} (hj : Jn s l A B) (ih : ∀ (w : Bool) (s : Nat → Int32) (l : Nat → Int64) (A : Nat → Nat → Int32) (B : Nat → Nat → Int64), Jn s l A B → ∃ h', LawAt L xs (i + 4) (HH w s l A B) h') : ∃ h', Ev (L, xs) 13 m_W_law 636 [some (.ref 1000), some (.ref 0), some (.ref 26), some (.int (nI i))] [] (HH w s l A B) (some (.int 1)) h' := by
  obtain ⟨W, H, P, fi, c, hI⟩ := hj
  obtain ⟨v, h1, w2, s2, l2, A2, B2, c1, c2, j2⟩ := b_round (sc := (L, xs)) (d := 0) (w := w) hI (xs (i + 1)) (xs (i + 2)) (xs (i + 3))
  obtain ⟨⟨fs, hm⟩, hno⟩ := ev_kept c1
  obtain ⟨h', k⟩ := ih w2 s2 l2 A2 B2 j2
  refine ⟨h', ?_⟩
  repeat (first | refine ev_gos 99 rfl ?_ | refine ev_gf2 rfl rfl rfl rfl ?_ | refine ev_gf2 rfl rfl HH_land rfl ?_ | refine ev_gf2 rfl rfl HH_draft rfl ?_ | refine ev_gf2 rfl rfl (by with_reducible assumption) rfl ?_)
  refine ev_sx (m := L) (f := xs) (i + 1) rfl rfl (nI_add i 1) (by omega) (by omega) ?_
  repeat (first | refine ev_gos 99 rfl ?_ | refine ev_gf2 rfl rfl rfl rfl ?_ | refine ev_gf2 rfl rfl HH_land rfl ?_ | refine ev_gf2 rfl rfl HH_draft rfl ?_ | refine ev_gf2 rfl rfl (by with_reducible assumption) rfl ?_)
  refine ev_sx (m := L) (f := xs) (i + 2) rfl rfl (nI_add i 2) (by omega) (by omega) ?_
  repeat (first | refine ev_gos 99 rfl ?_ | refine ev_gf2 rfl rfl rfl rfl ?_ | refine ev_gf2 rfl rfl HH_land rfl ?_ | refine ev_gf2 rfl rfl HH_draft rfl ?_ | refine ev_gf2 rfl rfl (by with_reducible assumption) rfl ?_)
  refine ev_sx (m := L) (f := xs) (i + 3) rfl rfl (nI_add i 3) (by omega) (by omega) ?_
  refine ev_cv rfl rfl rfl c1 ?_
  repeat (first | refine ev_gos 99 rfl ?_ | refine ev_gf2 rfl rfl rfl rfl ?_ | refine ev_gf2 rfl rfl HH_land rfl ?_ | refine ev_gf2 rfl rfl HH_draft rfl ?_ | refine ev_gf2 rfl rfl (by with_reducible assumption) rfl ?_)
  refine ev_sx (m := L) (f := xs) (i + 1) rfl (rd_no hno) (nI_add i 1) (by omega) (by omega) ?_
  repeat (first | refine ev_gos 99 rfl ?_ | refine ev_gf2 rfl rfl rfl rfl ?_ | refine ev_gf2 rfl rfl HH_land rfl ?_ | refine ev_gf2 rfl rfl HH_draft rfl ?_ | refine ev_gf2 rfl rfl (by with_reducible assumption) rfl ?_)
  refine ev_sx (m := L) (f := xs) (i + 2) rfl (rd_no hno) (nI_add i 2) (by omega) (by omega) ?_
  repeat (first | refine ev_gos 99 rfl ?_ | refine ev_gf2 rfl rfl rfl rfl ?_ | refine ev_gf2 rfl rfl HH_land rfl ?_ | refine ev_gf2 rfl rfl HH_draft rfl ?_ | refine ev_gf2 rfl rfl (by with_reducible assumption) rfl ?_)
  refine ev_sx (m := L) (f := xs) (i + 3) rfl (rd_no hno) (nI_add i 3) (by omega) (by omega) ?_
  refine ev_cv rfl rfl hm c2 ?_
  refine ev_ift rfl rfl rfl (c_eq rfl) ?_
  exact law_back (v := v) k 0 (Or.inr trivial)
set_option maxRecDepth 100000 in
theorem law_21 (hL : L ≤ 256) {i : Nat} (hi : i + 4 ≤ L) {w : Bool} {s : Nat → Int32} {l : Nat → Int64} {A : Nat → Nat → Int32} {B : Nat → Nat → Int64} (hj : Jn s l A B) (ih : ∀ (w : Bool) (s : Nat → Int32) (l : Nat → Int64) (A : Nat → Nat → Int32) (B : Nat → Nat → Int64), Jn s l A B → ∃ h', LawAt L xs (i + 4) (HH w s l A B) h') : ∃ h', Ev (L, xs) 13 m_W_law 679 [some (.ref 1000), some (.ref 0), some (.ref 26), some (.int (nI i))] [] (HH w s l A B) (some (.int 1)) h' := by
  obtain ⟨W, H, P, fi, c, hI⟩ := hj
  obtain ⟨v, h1, w2, s2, l2, A2, B2, c1, c2, j2⟩ := b_touch (sc := (L, xs)) (d := 0) (w := w) hI (xs (i + 1))
  obtain ⟨⟨fs, hm⟩, hno⟩ := ev_kept c1
  obtain ⟨h', k⟩ := ih w2 s2 l2 A2 B2 j2
  refine ⟨h', ?_⟩
  repeat (first | refine ev_gos 99 rfl ?_ | refine ev_gf2 rfl rfl rfl rfl ?_ | refine ev_gf2 rfl rfl HH_land rfl ?_ | refine ev_gf2 rfl rfl HH_draft rfl ?_ | refine ev_gf2 rfl rfl (by with_reducible assumption) rfl ?_)
  refine ev_sx (m := L) (f := xs) (i + 1) rfl rfl (nI_add i 1) (by omega) (by omega) ?_
  refine ev_cv rfl rfl rfl c1 ?_
  repeat (first | refine ev_gos 99 rfl ?_ | refine ev_gf2 rfl rfl rfl rfl ?_ | refine ev_gf2 rfl rfl HH_land rfl ?_ | refine ev_gf2 rfl rfl HH_draft rfl ?_ | refine ev_gf2 rfl rfl (by with_reducible assumption) rfl ?_)
  refine ev_sx (m := L) (f := xs) (i + 1) rfl (rd_no hno) (nI_add i 1) (by omega) (by omega) ?_
  refine ev_cv rfl rfl hm c2 ?_
  refine ev_ift rfl rfl rfl (c_eq rfl) ?_
  exact law_back (v := v) k 0 (Or.inr trivial)
set_option maxRecDepth 100000 in
theorem law_22 (hL : L ≤ 256) {i : Nat} (hi : i + 4 ≤ L) {w : Bool} {s : Nat → Int32} {l : Nat → Int64} {A : Nat → Nat → Int32} {B : Nat → Nat → Int64} (hj : Jn s l A B) (ih : ∀ (w : Bool) (s : Nat → Int32) (l : Nat → Int64) (A : Nat → Nat → Int32) (B : Nat → Nat → Int64), Jn s l A B → ∃ h', LawAt L xs (i + 4) (HH w s l A B) h') : ∃ h', Ev (L, xs) 13 m_W_law 702 [some (.ref 1000), some (.ref 0), some (.ref 26), some (.int (nI i))] [] (HH w s l A B) (some (.int 1)) h' := by
  obtain ⟨W, H, P, fi, c, hI⟩ := hj
  obtain ⟨v, h1, w2, s2, l2, A2, B2, c1, c2, j2⟩ := b_still (sc := (L, xs)) (d := 0) (w := w) hI (xs (i + 1)) (xs (i + 2))
  obtain ⟨⟨fs, hm⟩, hno⟩ := ev_kept c1
  obtain ⟨h', k⟩ := ih w2 s2 l2 A2 B2 j2
  refine ⟨h', ?_⟩
  repeat (first | refine ev_gos 99 rfl ?_ | refine ev_gf2 rfl rfl rfl rfl ?_ | refine ev_gf2 rfl rfl HH_land rfl ?_ | refine ev_gf2 rfl rfl HH_draft rfl ?_ | refine ev_gf2 rfl rfl (by with_reducible assumption) rfl ?_)
  refine ev_sx (m := L) (f := xs) (i + 1) rfl rfl (nI_add i 1) (by omega) (by omega) ?_
  repeat (first | refine ev_gos 99 rfl ?_ | refine ev_gf2 rfl rfl rfl rfl ?_ | refine ev_gf2 rfl rfl HH_land rfl ?_ | refine ev_gf2 rfl rfl HH_draft rfl ?_ | refine ev_gf2 rfl rfl (by with_reducible assumption) rfl ?_)
  refine ev_sx (m := L) (f := xs) (i + 2) rfl rfl (nI_add i 2) (by omega) (by omega) ?_
  refine ev_cv rfl rfl rfl c1 ?_
  repeat (first | refine ev_gos 99 rfl ?_ | refine ev_gf2 rfl rfl rfl rfl ?_ | refine ev_gf2 rfl rfl HH_land rfl ?_ | refine ev_gf2 rfl rfl HH_draft rfl ?_ | refine ev_gf2 rfl rfl (by with_reducible assumption) rfl ?_)
  refine ev_sx (m := L) (f := xs) (i + 1) rfl (rd_no hno) (nI_add i 1) (by omega) (by omega) ?_
  repeat (first | refine ev_gos 99 rfl ?_ | refine ev_gf2 rfl rfl rfl rfl ?_ | refine ev_gf2 rfl rfl HH_land rfl ?_ | refine ev_gf2 rfl rfl HH_draft rfl ?_ | refine ev_gf2 rfl rfl (by with_reducible assumption) rfl ?_)
  refine ev_sx (m := L) (f := xs) (i + 2) rfl (rd_no hno) (nI_add i 2) (by omega) (by omega) ?_
  refine ev_cv rfl rfl hm c2 ?_
  refine ev_ift rfl rfl rfl (c_eq rfl) ?_
  exact law_back (v := v) k 0 (Or.inr trivial)
set_option maxRecDepth 100000 in
theorem law_23 (hL : L ≤ 256) {i : Nat} (hi : i + 4 ≤ L) {w : Bool} {s : Nat → Int32} {l : Nat → Int64} {A : Nat → Nat → Int32} {B : Nat → Nat → Int64} (hj : Jn s l A B) (ih : ∀ (w : Bool) (s : Nat → Int32) (l : Nat → Int64) (A : Nat → Nat → Int32) (B : Nat → Nat → Int64), Jn s l A B → ∃ h', LawAt L xs (i + 4) (HH w s l A B) h') : ∃ h', Ev (L, xs) 13 m_W_law 735 [some (.ref 1000), some (.ref 0), some (.ref 26), some (.int (nI i))] [] (HH w s l A B) (some (.int 1)) h' := by
  obtain ⟨W, H, P, fi, c, hI⟩ := hj
  obtain ⟨v, h1, w2, s2, l2, A2, B2, c1, c2, j2⟩ := b_find (sc := (L, xs)) (d := 0) (w := w) hI (xs (i + 1)) (decide (¬ xs (i + 2) = 0))
  obtain ⟨⟨fs, hm⟩, hno⟩ := ev_kept c1
  obtain ⟨h', k⟩ := ih w2 s2 l2 A2 B2 j2
  refine ⟨h', ?_⟩
  have key : ∀ bb : Bool, decide (¬ xs (i + 2) = 0) = bb → Ev (L, xs) 13 m_W_law 735 [some (.ref 1000), some (.ref 0), some (.ref 26), some (.int (nI i))] [] (HH w s l A B) (some (.int 1)) h' := by
    intro bb hbb
    rw [hbb] at c1 c2
    repeat (first | refine ev_gos 99 rfl ?_ | refine ev_gf2 rfl rfl rfl rfl ?_ | refine ev_gf2 rfl rfl HH_land rfl ?_ | refine ev_gf2 rfl rfl HH_draft rfl ?_ | refine ev_gf2 rfl rfl (by with_reducible assumption) rfl ?_)
    refine ev_sx (m := L) (f := xs) (i + 1) rfl rfl (nI_add i 1) (by omega) (by omega) ?_
    repeat (first | refine ev_gos 99 rfl ?_ | refine ev_gf2 rfl rfl rfl rfl ?_ | refine ev_gf2 rfl rfl HH_land rfl ?_ | refine ev_gf2 rfl rfl HH_draft rfl ?_ | refine ev_gf2 rfl rfl (by with_reducible assumption) rfl ?_)
    refine ev_sx (m := L) (f := xs) (i + 2) rfl rfl (nI_add i 2) (by omega) (by omega) ?_
    have fin : Ev (L, xs) 13 m_W_law 754 [some (.ref 1000), some (.ref 0), some (.ref 26), some (.int (nI i))] [.int (b01 bb), .int (xs (i + 1)), .ref 0] (HH w s l A B) (some (.int 1)) h' := by
      refine ev_cv rfl rfl rfl c1 ?_
      repeat (first | refine ev_gos 99 rfl ?_ | refine ev_gf2 rfl rfl rfl rfl ?_ | refine ev_gf2 rfl rfl HH_land rfl ?_ | refine ev_gf2 rfl rfl HH_draft rfl ?_ | refine ev_gf2 rfl rfl (by with_reducible assumption) rfl ?_)
      refine ev_sx (m := L) (f := xs) (i + 1) rfl (rd_no hno) (nI_add i 1) (by omega) (by omega) ?_
      repeat (first | refine ev_gos 99 rfl ?_ | refine ev_gf2 rfl rfl rfl rfl ?_ | refine ev_gf2 rfl rfl HH_land rfl ?_ | refine ev_gf2 rfl rfl HH_draft rfl ?_ | refine ev_gf2 rfl rfl (by with_reducible assumption) rfl ?_)
      refine ev_sx (m := L) (f := xs) (i + 2) rfl (rd_no hno) (nI_add i 2) (by omega) (by omega) ?_
      have fin2 : Ev (L, xs) 13 m_W_law 776 [some (.ref 1000), some (.ref 0), some (.ref 26), some (.int (nI i))] [.int (b01 bb), .int (xs (i + 1)), .ref 26, .int v] h1 (some (.int 1)) h' := by
        refine ev_cv rfl rfl hm c2 ?_
        refine ev_ift rfl rfl rfl (c_eq rfl) ?_
        exact law_back (v := v) k 0 (Or.inr trivial)
      cases bb with
      | true =>
        have hx := of_decide_eq_true hbb
        refine ev_iff rfl rfl rfl (j_eq hx) ?_
        repeat (first | refine ev_gos 99 rfl ?_ | refine ev_gf2 rfl rfl rfl rfl ?_ | refine ev_gf2 rfl rfl HH_land rfl ?_ | refine ev_gf2 rfl rfl HH_draft rfl ?_ | refine ev_gf2 rfl rfl (by with_reducible assumption) rfl ?_)
        exact fin2
      | false =>
        have hx := Classical.not_not.mp (of_decide_eq_false hbb)
        refine ev_ift rfl rfl rfl (i_eq hx) ?_
        repeat (first | refine ev_gos 99 rfl ?_ | refine ev_gf2 rfl rfl rfl rfl ?_ | refine ev_gf2 rfl rfl HH_land rfl ?_ | refine ev_gf2 rfl rfl HH_draft rfl ?_ | refine ev_gf2 rfl rfl (by with_reducible assumption) rfl ?_)
        exact fin2
    cases bb with
    | true =>
      have hx := of_decide_eq_true hbb
      refine ev_iff rfl rfl rfl (j_eq hx) ?_
      repeat (first | refine ev_gos 99 rfl ?_ | refine ev_gf2 rfl rfl rfl rfl ?_ | refine ev_gf2 rfl rfl HH_land rfl ?_ | refine ev_gf2 rfl rfl HH_draft rfl ?_ | refine ev_gf2 rfl rfl (by with_reducible assumption) rfl ?_)
      exact fin
    | false =>
      have hx := Classical.not_not.mp (of_decide_eq_false hbb)
      refine ev_ift rfl rfl rfl (i_eq hx) ?_
      repeat (first | refine ev_gos 99 rfl ?_ | refine ev_gf2 rfl rfl rfl rfl ?_ | refine ev_gf2 rfl rfl HH_land rfl ?_ | refine ev_gf2 rfl rfl HH_draft rfl ?_ | refine ev_gf2 rfl rfl (by with_reducible assumption) rfl ?_)
      exact fin
  exact key _ rfl
set_option maxRecDepth 100000 in
theorem law_24 (hL : L ≤ 256) {i : Nat} (hi : i + 4 ≤ L) {w : Bool} {s : Nat → Int32} {l : Nat → Int64} {A : Nat → Nat → Int32} {B : Nat → Nat → Int64} (hj : Jn s l A B) (ih : ∀ (w : Bool) (s : Nat → Int32) (l : Nat → Int64) (A : Nat → Nat → Int32) (B : Nat → Nat → Int64), Jn s l A B → ∃ h', LawAt L xs (i + 4) (HH w s l A B) h') : ∃ h', Ev (L, xs) 13 m_W_law 784 [some (.ref 1000), some (.ref 0), some (.ref 26), some (.int (nI i))] [] (HH w s l A B) (some (.int 1)) h' := by
  obtain ⟨W, H, P, fi, c, hI⟩ := hj
  obtain ⟨v, h1, w2, s2, l2, A2, B2, c1, c2, j2⟩ := b_fits (sc := (L, xs)) (d := 0) (w := w) hI (xs (i + 1))
  obtain ⟨⟨fs, hm⟩, hno⟩ := ev_kept c1
  obtain ⟨h', k⟩ := ih w2 s2 l2 A2 B2 j2
  refine ⟨h', ?_⟩
  repeat (first | refine ev_gos 99 rfl ?_ | refine ev_gf2 rfl rfl rfl rfl ?_ | refine ev_gf2 rfl rfl HH_land rfl ?_ | refine ev_gf2 rfl rfl HH_draft rfl ?_ | refine ev_gf2 rfl rfl (by with_reducible assumption) rfl ?_)
  refine ev_sx (m := L) (f := xs) (i + 1) rfl rfl (nI_add i 1) (by omega) (by omega) ?_
  refine ev_cv rfl rfl rfl c1 ?_
  repeat (first | refine ev_gos 99 rfl ?_ | refine ev_gf2 rfl rfl rfl rfl ?_ | refine ev_gf2 rfl rfl HH_land rfl ?_ | refine ev_gf2 rfl rfl HH_draft rfl ?_ | refine ev_gf2 rfl rfl (by with_reducible assumption) rfl ?_)
  refine ev_sx (m := L) (f := xs) (i + 1) rfl (rd_no hno) (nI_add i 1) (by omega) (by omega) ?_
  refine ev_cv rfl rfl hm c2 ?_
  refine ev_ift rfl rfl rfl (c_eq rfl) ?_
  exact law_back (v := v) k 0 (Or.inr trivial)
set_option maxRecDepth 100000 in
theorem law_25 (hL : L ≤ 256) {i : Nat} (hi : i + 4 ≤ L) {w : Bool} {s : Nat → Int32} {l : Nat → Int64} {A : Nat → Nat → Int32} {B : Nat → Nat → Int64} (hj : Jn s l A B) (ih : ∀ (w : Bool) (s : Nat → Int32) (l : Nat → Int64) (A : Nat → Nat → Int32) (B : Nat → Nat → Int64), Jn s l A B → ∃ h', LawAt L xs (i + 4) (HH w s l A B) h') : ∃ h', Ev (L, xs) 13 m_W_law 807 [some (.ref 1000), some (.ref 0), some (.ref 26), some (.int (nI i))] [] (HH w s l A B) (some (.int 1)) h' := by
  obtain ⟨W, H, P, fi, c, hI⟩ := hj
  obtain ⟨v, h1, w2, s2, l2, A2, B2, c1, c2, j2⟩ := b_look (sc := (L, xs)) (d := 0) (w := w) hI 
  obtain ⟨⟨fs, hm⟩, hno⟩ := ev_kept c1
  obtain ⟨h', k⟩ := ih w2 s2 l2 A2 B2 j2
  refine ⟨h', ?_⟩
  repeat (first | refine ev_gos 99 rfl ?_ | refine ev_gf2 rfl rfl rfl rfl ?_ | refine ev_gf2 rfl rfl HH_land rfl ?_ | refine ev_gf2 rfl rfl HH_draft rfl ?_ | refine ev_gf2 rfl rfl (by with_reducible assumption) rfl ?_)
  refine ev_cv rfl rfl rfl c1 ?_
  repeat (first | refine ev_gos 99 rfl ?_ | refine ev_gf2 rfl rfl rfl rfl ?_ | refine ev_gf2 rfl rfl HH_land rfl ?_ | refine ev_gf2 rfl rfl HH_draft rfl ?_ | refine ev_gf2 rfl rfl (by with_reducible assumption) rfl ?_)
  refine ev_cv rfl rfl hm c2 ?_
  refine ev_ift rfl rfl rfl (c_eq rfl) ?_
  exact law_back (v := v) k 0 (Or.inr trivial)
set_option maxRecDepth 100000 in
theorem law_26 (hL : L ≤ 256) {i : Nat} (hi : i + 4 ≤ L) {w : Bool} {s : Nat → Int32} {l : Nat → Int64} {A : Nat → Nat → Int32} {B : Nat → Nat → Int64} (hj : Jn s l A B) (ih : ∀ (w : Bool) (s : Nat → Int32) (l : Nat → Int64) (A : Nat → Nat → Int32) (B : Nat → Nat → Int64), Jn s l A B → ∃ h', LawAt L xs (i + 4) (HH w s l A B) h') : ∃ h', Ev (L, xs) 13 m_W_law 820 [some (.ref 1000), some (.ref 0), some (.ref 26), some (.int (nI i))] [] (HH w s l A B) (some (.int 1)) h' := by
  obtain ⟨W, H, P, fi, c, hI⟩ := hj
  obtain ⟨v, h1, w2, s2, l2, A2, B2, c1, c2, j2⟩ := b_write (sc := (L, xs)) (d := 0) (w := w) hI (xs (i + 1))
  obtain ⟨⟨fs, hm⟩, hno⟩ := ev_kept c1
  obtain ⟨h', k⟩ := ih w2 s2 l2 A2 B2 j2
  refine ⟨h', ?_⟩
  repeat (first | refine ev_gos 99 rfl ?_ | refine ev_gf2 rfl rfl rfl rfl ?_ | refine ev_gf2 rfl rfl HH_land rfl ?_ | refine ev_gf2 rfl rfl HH_draft rfl ?_ | refine ev_gf2 rfl rfl (by with_reducible assumption) rfl ?_)
  refine ev_sx (m := L) (f := xs) (i + 1) rfl rfl (nI_add i 1) (by omega) (by omega) ?_
  refine ev_cv rfl rfl rfl c1 ?_
  repeat (first | refine ev_gos 99 rfl ?_ | refine ev_gf2 rfl rfl rfl rfl ?_ | refine ev_gf2 rfl rfl HH_land rfl ?_ | refine ev_gf2 rfl rfl HH_draft rfl ?_ | refine ev_gf2 rfl rfl (by with_reducible assumption) rfl ?_)
  refine ev_sx (m := L) (f := xs) (i + 1) rfl (rd_no hno) (nI_add i 1) (by omega) (by omega) ?_
  refine ev_cv rfl rfl hm c2 ?_
  refine ev_ift rfl rfl rfl (c_eq rfl) ?_
  exact law_back (v := v) k 0 (Or.inr trivial)
set_option maxRecDepth 100000 in
theorem law_27 (hL : L ≤ 256) {i : Nat} (hi : i + 4 ≤ L) {w : Bool} {s : Nat → Int32} {l : Nat → Int64} {A : Nat → Nat → Int32} {B : Nat → Nat → Int64} (hj : Jn s l A B) (ih : ∀ (w : Bool) (s : Nat → Int32) (l : Nat → Int64) (A : Nat → Nat → Int32) (B : Nat → Nat → Int64), Jn s l A B → ∃ h', LawAt L xs (i + 4) (HH w s l A B) h') : ∃ h', Ev (L, xs) 13 m_W_law 843 [some (.ref 1000), some (.ref 0), some (.ref 26), some (.int (nI i))] [] (HH w s l A B) (some (.int 1)) h' := by
  obtain ⟨W, H, P, fi, c, hI⟩ := hj
  obtain ⟨v, h1, w2, s2, l2, A2, B2, c1, c2, j2⟩ := b_judge (sc := (L, xs)) (d := 0) (w := w) hI 
  obtain ⟨⟨fs, hm⟩, hno⟩ := ev_kept c1
  obtain ⟨h', k⟩ := ih w2 s2 l2 A2 B2 j2
  refine ⟨h', ?_⟩
  repeat (first | refine ev_gos 99 rfl ?_ | refine ev_gf2 rfl rfl rfl rfl ?_ | refine ev_gf2 rfl rfl HH_land rfl ?_ | refine ev_gf2 rfl rfl HH_draft rfl ?_ | refine ev_gf2 rfl rfl (by with_reducible assumption) rfl ?_)
  refine ev_cv rfl rfl rfl c1 ?_
  repeat (first | refine ev_gos 99 rfl ?_ | refine ev_gf2 rfl rfl rfl rfl ?_ | refine ev_gf2 rfl rfl HH_land rfl ?_ | refine ev_gf2 rfl rfl HH_draft rfl ?_ | refine ev_gf2 rfl rfl (by with_reducible assumption) rfl ?_)
  refine ev_cv rfl rfl hm c2 ?_
  refine ev_ift rfl rfl rfl (c_eq rfl) ?_
  exact law_back (v := v) k 0 (Or.inr trivial)
set_option maxRecDepth 100000 in
theorem law_28 (hL : L ≤ 256) {i : Nat} (hi : i + 4 ≤ L) {w : Bool} {s : Nat → Int32} {l : Nat → Int64} {A : Nat → Nat → Int32} {B : Nat → Nat → Int64} (hj : Jn s l A B) (ih : ∀ (w : Bool) (s : Nat → Int32) (l : Nat → Int64) (A : Nat → Nat → Int32) (B : Nat → Nat → Int64), Jn s l A B → ∃ h', LawAt L xs (i + 4) (HH w s l A B) h') : ∃ h', Ev (L, xs) 13 m_W_law 856 [some (.ref 1000), some (.ref 0), some (.ref 26), some (.int (nI i))] [] (HH w s l A B) (some (.int 1)) h' := by
  obtain ⟨W, H, P, fi, c, hI⟩ := hj
  obtain ⟨v, h1, w2, s2, l2, A2, B2, c1, c2, j2⟩ := b_tear (sc := (L, xs)) (d := 0) (w := w) hI 
  obtain ⟨⟨fs, hm⟩, hno⟩ := ev_kept c1
  obtain ⟨h', k⟩ := ih w2 s2 l2 A2 B2 j2
  refine ⟨h', ?_⟩
  repeat (first | refine ev_gos 99 rfl ?_ | refine ev_gf2 rfl rfl rfl rfl ?_ | refine ev_gf2 rfl rfl HH_land rfl ?_ | refine ev_gf2 rfl rfl HH_draft rfl ?_ | refine ev_gf2 rfl rfl (by with_reducible assumption) rfl ?_)
  refine ev_cv rfl rfl rfl c1 ?_
  repeat (first | refine ev_gos 99 rfl ?_ | refine ev_gf2 rfl rfl rfl rfl ?_ | refine ev_gf2 rfl rfl HH_land rfl ?_ | refine ev_gf2 rfl rfl HH_draft rfl ?_ | refine ev_gf2 rfl rfl (by with_reducible assumption) rfl ?_)
  refine ev_cv rfl rfl hm c2 ?_
  refine ev_ift rfl rfl rfl (c_eq rfl) ?_
  exact law_back (v := v) k 0 (Or.inr trivial)
set_option maxRecDepth 100000 in
theorem law_29 (hL : L ≤ 256) {i : Nat} (hi : i + 4 ≤ L) {w : Bool} {s : Nat → Int32} {l : Nat → Int64} {A : Nat → Nat → Int32} {B : Nat → Nat → Int64} (hj : Jn s l A B) (ih : ∀ (w : Bool) (s : Nat → Int32) (l : Nat → Int64) (A : Nat → Nat → Int32) (B : Nat → Nat → Int64), Jn s l A B → ∃ h', LawAt L xs (i + 4) (HH w s l A B) h') : ∃ h', Ev (L, xs) 13 m_W_law 869 [some (.ref 1000), some (.ref 0), some (.ref 26), some (.int (nI i))] [] (HH w s l A B) (some (.int 1)) h' := by
  obtain ⟨W, H, P, fi, c, hI⟩ := hj
  obtain ⟨v, h1, w2, s2, l2, A2, B2, c1, c2, j2⟩ := b_seed (sc := (L, xs)) (d := 0) (w := w) hI (xs (i + 1))
  obtain ⟨⟨fs, hm⟩, hno⟩ := ev_kept c1
  obtain ⟨h', k⟩ := ih w2 s2 l2 A2 B2 j2
  refine ⟨h', ?_⟩
  repeat (first | refine ev_gos 99 rfl ?_ | refine ev_gf2 rfl rfl rfl rfl ?_ | refine ev_gf2 rfl rfl HH_land rfl ?_ | refine ev_gf2 rfl rfl HH_draft rfl ?_ | refine ev_gf2 rfl rfl (by with_reducible assumption) rfl ?_)
  refine ev_sx (m := L) (f := xs) (i + 1) rfl rfl (nI_add i 1) (by omega) (by omega) ?_
  refine ev_cv rfl rfl rfl c1 ?_
  repeat (first | refine ev_gos 99 rfl ?_ | refine ev_gf2 rfl rfl rfl rfl ?_ | refine ev_gf2 rfl rfl HH_land rfl ?_ | refine ev_gf2 rfl rfl HH_draft rfl ?_ | refine ev_gf2 rfl rfl (by with_reducible assumption) rfl ?_)
  refine ev_sx (m := L) (f := xs) (i + 1) rfl (rd_no hno) (nI_add i 1) (by omega) (by omega) ?_
  refine ev_cv rfl rfl hm c2 ?_
  refine ev_ift rfl rfl rfl (c_eq rfl) ?_
  exact law_back (v := v) k 0 (Or.inr trivial)
set_option maxRecDepth 100000 in
theorem law_30 (hL : L ≤ 256) {i : Nat} (hi : i + 4 ≤ L) {w : Bool} {s : Nat → Int32} {l : Nat → Int64} {A : Nat → Nat → Int32} {B : Nat → Nat → Int64} (hj : Jn s l A B) (ih : ∀ (w : Bool) (s : Nat → Int32) (l : Nat → Int64) (A : Nat → Nat → Int32) (B : Nat → Nat → Int64), Jn s l A B → ∃ h', LawAt L xs (i + 4) (HH w s l A B) h') : ∃ h', Ev (L, xs) 13 m_W_law 892 [some (.ref 1000), some (.ref 0), some (.ref 26), some (.int (nI i))] [] (HH w s l A B) (some (.int 1)) h' := by
  obtain ⟨W, H, P, fi, c, hI⟩ := hj
  obtain ⟨v, h1, w2, s2, l2, A2, B2, c1, c2, j2⟩ := b_keep (sc := (L, xs)) (d := 0) (w := w) hI (xs (i + 1))
  obtain ⟨⟨fs, hm⟩, hno⟩ := ev_kept c1
  obtain ⟨h', k⟩ := ih w2 s2 l2 A2 B2 j2
  refine ⟨h', ?_⟩
  repeat (first | refine ev_gos 99 rfl ?_ | refine ev_gf2 rfl rfl rfl rfl ?_ | refine ev_gf2 rfl rfl HH_land rfl ?_ | refine ev_gf2 rfl rfl HH_draft rfl ?_ | refine ev_gf2 rfl rfl (by with_reducible assumption) rfl ?_)
  refine ev_sx (m := L) (f := xs) (i + 1) rfl rfl (nI_add i 1) (by omega) (by omega) ?_
  refine ev_cv rfl rfl rfl c1 ?_
  repeat (first | refine ev_gos 99 rfl ?_ | refine ev_gf2 rfl rfl rfl rfl ?_ | refine ev_gf2 rfl rfl HH_land rfl ?_ | refine ev_gf2 rfl rfl HH_draft rfl ?_ | refine ev_gf2 rfl rfl (by with_reducible assumption) rfl ?_)
  refine ev_sx (m := L) (f := xs) (i + 1) rfl (rd_no hno) (nI_add i 1) (by omega) (by omega) ?_
  refine ev_cv rfl rfl hm c2 ?_
  refine ev_ift rfl rfl rfl (c_eq rfl) ?_
  exact law_back (v := v) k 0 (Or.inr trivial)
set_option maxRecDepth 100000 in
theorem law_31 (hL : L ≤ 256) {i : Nat} (hi : i + 4 ≤ L) {w : Bool} {s : Nat → Int32} {l : Nat → Int64} {A : Nat → Nat → Int32} {B : Nat → Nat → Int64} (hj : Jn s l A B) (ih : ∀ (w : Bool) (s : Nat → Int32) (l : Nat → Int64) (A : Nat → Nat → Int32) (B : Nat → Nat → Int64), Jn s l A B → ∃ h', LawAt L xs (i + 4) (HH w s l A B) h') : ∃ h', Ev (L, xs) 13 m_W_law 915 [some (.ref 1000), some (.ref 0), some (.ref 26), some (.int (nI i))] [] (HH w s l A B) (some (.int 1)) h' := by
  obtain ⟨W, H, P, fi, c, hI⟩ := hj
  obtain ⟨v, h1, w2, s2, l2, A2, B2, c1, c2, j2⟩ := b_goBack (sc := (L, xs)) (d := 0) (w := w) hI (xs (i + 1))
  obtain ⟨⟨fs, hm⟩, hno⟩ := ev_kept c1
  obtain ⟨h', k⟩ := ih w2 s2 l2 A2 B2 j2
  refine ⟨h', ?_⟩
  repeat (first | refine ev_gos 99 rfl ?_ | refine ev_gf2 rfl rfl rfl rfl ?_ | refine ev_gf2 rfl rfl HH_land rfl ?_ | refine ev_gf2 rfl rfl HH_draft rfl ?_ | refine ev_gf2 rfl rfl (by with_reducible assumption) rfl ?_)
  refine ev_sx (m := L) (f := xs) (i + 1) rfl rfl (nI_add i 1) (by omega) (by omega) ?_
  refine ev_cv rfl rfl rfl c1 ?_
  repeat (first | refine ev_gos 99 rfl ?_ | refine ev_gf2 rfl rfl rfl rfl ?_ | refine ev_gf2 rfl rfl HH_land rfl ?_ | refine ev_gf2 rfl rfl HH_draft rfl ?_ | refine ev_gf2 rfl rfl (by with_reducible assumption) rfl ?_)
  refine ev_sx (m := L) (f := xs) (i + 1) rfl (rd_no hno) (nI_add i 1) (by omega) (by omega) ?_
  refine ev_cv rfl rfl hm c2 ?_
  refine ev_ift rfl rfl rfl (c_eq rfl) ?_
  exact law_back (v := v) k 0 (Or.inr trivial)
set_option maxRecDepth 100000 in
theorem law_loop (hL : L ≤ 256) : ∀ (k i : Nat) (w : Bool) (s : Nat → Int32) (l : Nat → Int64) (A : Nat → Nat → Int32) (B : Nat → Nat → Int64), L - i ≤ k → i ≤ 300 → Jn s l A B → ∃ h', LawAt L xs i (HH w s l A B) h' := by
  intro k
  induction k with
  | zero =>
    intro i w s l A B hk hi hj
    exact ⟨_, law_end hL (by omega) hi⟩
  | succ k ih =>
    intro i w s l A B hk hi hj
    by_cases h4 : i + 4 ≤ L
    · have ih2 : ∀ (w : Bool) (s : Nat → Int32) (l : Nat → Int64) (A : Nat → Nat → Int32) (B : Nat → Nat → Int64), Jn s l A B → ∃ h', LawAt L xs (i + 4) (HH w s l A B) h' := fun w s l A B hq => ih (i + 4) w s l A B (by omega) (by omega) hq
      obtain ⟨j, j1, j2⟩ := pk_andE (xs i) (m := 31) 5 (by decide)
      have cs : (j = 0 ∨ j = 1 ∨ j = 2 ∨ j = 3 ∨ j = 4 ∨ j = 5 ∨ j = 6 ∨ j = 7) ∨ (j = 8 ∨ j = 9 ∨ j = 10 ∨ j = 11 ∨ j = 12 ∨ j = 13 ∨ j = 14 ∨ j = 15) ∨ (j = 16 ∨ j = 17 ∨ j = 18 ∨ j = 19 ∨ j = 20 ∨ j = 21 ∨ j = 22 ∨ j = 23) ∨ (j = 24 ∨ j = 25 ∨ j = 26 ∨ j = 27 ∨ j = 28 ∨ j = 29 ∨ j = 30 ∨ j = 31) := by omega
      rcases cs with (rfl | rfl | rfl | rfl | rfl | rfl | rfl | rfl) | (rfl | rfl | rfl | rfl | rfl | rfl | rfl | rfl) | (rfl | rfl | rfl | rfl | rfl | rfl | rfl | rfl) | (rfl | rfl | rfl | rfl | rfl | rfl | rfl | rfl)
      · obtain ⟨h', q⟩ := law_0 hL h4 (w := w) hj ih2
        refine ⟨h', law_pre hL h4 ?_⟩
        rw [j2]
        exact ev_sw rfl rfl (rfl : _ = some 176) q
      · obtain ⟨h', q⟩ := law_1 hL h4 (w := w) hj ih2
        refine ⟨h', law_pre hL h4 ?_⟩
        rw [j2]
        exact ev_sw rfl rfl (rfl : _ = some 199) q
      · obtain ⟨h', q⟩ := law_2 hL h4 (w := w) hj ih2
        refine ⟨h', law_pre hL h4 ?_⟩
        rw [j2]
        exact ev_sw rfl rfl (rfl : _ = some 212) q
      · obtain ⟨h', q⟩ := law_3 hL h4 (w := w) hj ih2
        refine ⟨h', law_pre hL h4 ?_⟩
        rw [j2]
        exact ev_sw rfl rfl (rfl : _ = some 225) q
      · obtain ⟨h', q⟩ := law_4 hL h4 (w := w) hj ih2
        refine ⟨h', law_pre hL h4 ?_⟩
        rw [j2]
        exact ev_sw rfl rfl (rfl : _ = some 248) q
      · obtain ⟨h', q⟩ := law_5 hL h4 (w := w) hj ih2
        refine ⟨h', law_pre hL h4 ?_⟩
        rw [j2]
        exact ev_sw rfl rfl (rfl : _ = some 281) q
      · obtain ⟨h', q⟩ := law_6 hL h4 (w := w) hj ih2
        refine ⟨h', law_pre hL h4 ?_⟩
        rw [j2]
        exact ev_sw rfl rfl (rfl : _ = some 314) q
      · obtain ⟨h', q⟩ := law_7 hL h4 (w := w) hj ih2
        refine ⟨h', law_pre hL h4 ?_⟩
        rw [j2]
        exact ev_sw rfl rfl (rfl : _ = some 347) q
      · obtain ⟨h', q⟩ := law_8 hL h4 (w := w) hj ih2
        refine ⟨h', law_pre hL h4 ?_⟩
        rw [j2]
        exact ev_sw rfl rfl (rfl : _ = some 370) q
      · obtain ⟨h', q⟩ := law_9 hL h4 (w := w) hj ih2
        refine ⟨h', law_pre hL h4 ?_⟩
        rw [j2]
        exact ev_sw rfl rfl (rfl : _ = some 393) q
      · obtain ⟨h', q⟩ := law_10 hL h4 (w := w) hj ih2
        refine ⟨h', law_pre hL h4 ?_⟩
        rw [j2]
        exact ev_sw rfl rfl (rfl : _ = some 406) q
      · obtain ⟨h', q⟩ := law_11 hL h4 (w := w) hj ih2
        refine ⟨h', law_pre hL h4 ?_⟩
        rw [j2]
        exact ev_sw rfl rfl (rfl : _ = some 419) q
      · obtain ⟨h', q⟩ := law_12 hL h4 (w := w) hj ih2
        refine ⟨h', law_pre hL h4 ?_⟩
        rw [j2]
        exact ev_sw rfl rfl (rfl : _ = some 442) q
      · obtain ⟨h', q⟩ := law_13 hL h4 (w := w) hj ih2
        refine ⟨h', law_pre hL h4 ?_⟩
        rw [j2]
        exact ev_sw rfl rfl (rfl : _ = some 465) q
      · obtain ⟨h', q⟩ := law_14 hL h4 (w := w) hj ih2
        refine ⟨h', law_pre hL h4 ?_⟩
        rw [j2]
        exact ev_sw rfl rfl (rfl : _ = some 488) q
      · obtain ⟨h', q⟩ := law_15 hL h4 (w := w) hj ih2
        refine ⟨h', law_pre hL h4 ?_⟩
        rw [j2]
        exact ev_sw rfl rfl (rfl : _ = some 511) q
      · obtain ⟨h', q⟩ := law_16 hL h4 (w := w) hj ih2
        refine ⟨h', law_pre hL h4 ?_⟩
        rw [j2]
        exact ev_sw rfl rfl (rfl : _ = some 534) q
      · obtain ⟨h', q⟩ := law_17 hL h4 (w := w) hj ih2
        refine ⟨h', law_pre hL h4 ?_⟩
        rw [j2]
        exact ev_sw rfl rfl (rfl : _ = some 567) q
      · obtain ⟨h', q⟩ := law_18 hL h4 (w := w) hj ih2
        refine ⟨h', law_pre hL h4 ?_⟩
        rw [j2]
        exact ev_sw rfl rfl (rfl : _ = some 590) q
      · obtain ⟨h', q⟩ := law_19 hL h4 (w := w) hj ih2
        refine ⟨h', law_pre hL h4 ?_⟩
        rw [j2]
        exact ev_sw rfl rfl (rfl : _ = some 603) q
      · obtain ⟨h', q⟩ := law_20 hL h4 (w := w) hj ih2
        refine ⟨h', law_pre hL h4 ?_⟩
        rw [j2]
        exact ev_sw rfl rfl (rfl : _ = some 636) q
      · obtain ⟨h', q⟩ := law_21 hL h4 (w := w) hj ih2
        refine ⟨h', law_pre hL h4 ?_⟩
        rw [j2]
        exact ev_sw rfl rfl (rfl : _ = some 679) q
      · obtain ⟨h', q⟩ := law_22 hL h4 (w := w) hj ih2
        refine ⟨h', law_pre hL h4 ?_⟩
        rw [j2]
        exact ev_sw rfl rfl (rfl : _ = some 702) q
      · obtain ⟨h', q⟩ := law_23 hL h4 (w := w) hj ih2
        refine ⟨h', law_pre hL h4 ?_⟩
        rw [j2]
        exact ev_sw rfl rfl (rfl : _ = some 735) q
      · obtain ⟨h', q⟩ := law_24 hL h4 (w := w) hj ih2
        refine ⟨h', law_pre hL h4 ?_⟩
        rw [j2]
        exact ev_sw rfl rfl (rfl : _ = some 784) q
      · obtain ⟨h', q⟩ := law_25 hL h4 (w := w) hj ih2
        refine ⟨h', law_pre hL h4 ?_⟩
        rw [j2]
        exact ev_sw rfl rfl (rfl : _ = some 807) q
      · obtain ⟨h', q⟩ := law_26 hL h4 (w := w) hj ih2
        refine ⟨h', law_pre hL h4 ?_⟩
        rw [j2]
        exact ev_sw rfl rfl (rfl : _ = some 820) q
      · obtain ⟨h', q⟩ := law_27 hL h4 (w := w) hj ih2
        refine ⟨h', law_pre hL h4 ?_⟩
        rw [j2]
        exact ev_sw rfl rfl (rfl : _ = some 843) q
      · obtain ⟨h', q⟩ := law_28 hL h4 (w := w) hj ih2
        refine ⟨h', law_pre hL h4 ?_⟩
        rw [j2]
        exact ev_sw rfl rfl (rfl : _ = some 856) q
      · obtain ⟨h', q⟩ := law_29 hL h4 (w := w) hj ih2
        refine ⟨h', law_pre hL h4 ?_⟩
        rw [j2]
        exact ev_sw rfl rfl (rfl : _ = some 869) q
      · obtain ⟨h', q⟩ := law_30 hL h4 (w := w) hj ih2
        refine ⟨h', law_pre hL h4 ?_⟩
        rw [j2]
        exact ev_sw rfl rfl (rfl : _ = some 892) q
      · obtain ⟨h', q⟩ := law_31 hL h4 (w := w) hj ih2
        refine ⟨h', law_pre hL h4 ?_⟩
        rw [j2]
        exact ev_sw rfl rfl (rfl : _ = some 915) q
    · exact ⟨_, law_end hL h4 hi⟩
end LAW
set_option maxRecDepth 100000 in
theorem law_run (L : Nat) (xs : Nat → Int32) (hL : L ≤ 256) : ∃ (d : Nat) (h' : AHp) (cn sn : Nat), d ≤ 1000 ∧ cn ≤ 600000 ∧ sn ≤ 7302250 ∧ Ek (L, xs) d m_W_law 0 (iniL 4 [.ref 1000]) [] [] (some (.int 1)) h' cn sn := by
  obtain ⟨h', k⟩ := law_loop (xs := xs) hL L 0 false _ _ _ _ (by omega) (by omega) Jn_0
  refine ⟨13, h', 39, 5225, by decide, by decide, by decide, ?_⟩
  unfold LawAt at k
  refine ev_al2 38 5211 rfl rfl rfl rfl rfl ?_
  repeat (first | refine ev_gos 99 rfl ?_ | refine ev_gf2 rfl rfl rfl rfl ?_ | refine ev_gf2 rfl rfl HH_land rfl ?_ | refine ev_gf2 rfl rfl HH_draft rfl ?_ | refine ev_gf2 rfl rfl (by with_reducible assumption) rfl ?_)
  refine ev_cal2 13 2370 rfl rfl rfl i_C rfl rfl ?_
  repeat (first | refine ev_gos 99 rfl ?_ | refine ev_gf2 rfl rfl rfl rfl ?_ | refine ev_gf2 rfl rfl HH_land rfl ?_ | refine ev_gf2 rfl rfl HH_draft rfl ?_ | refine ev_gf2 rfl rfl (by with_reducible assumption) rfl ?_)
  refine ev_al2 12 2346 rfl rfl rfl rfl rfl ?_
  repeat (first | refine ev_gos 99 rfl ?_ | refine ev_gf2 rfl rfl rfl rfl ?_ | refine ev_gf2 rfl rfl HH_land rfl ?_ | refine ev_gf2 rfl rfl HH_draft rfl ?_ | refine ev_gf2 rfl rfl (by with_reducible assumption) rfl ?_)
  refine ev_cal2 0 0 rfl rfl rfl i_M rfl rfl ?_
  repeat (first | refine ev_gos 99 rfl ?_ | refine ev_gf2 rfl rfl rfl rfl ?_ | refine ev_gf2 rfl rfl HH_land rfl ?_ | refine ev_gf2 rfl rfl HH_draft rfl ?_ | refine ev_gf2 rfl rfl (by with_reducible assumption) rfl ?_)
  exact k
