/-! constructors -/
section INI
variable {sc : Scr} {d : Nat}
theorem i_R (x0 : ACell) : Ek sc (d + 1) m_R_init 0 (iniL 1 [.ref 1]) [] [x0, oI 3 (dflt 3)] none [x0, oI 3 [.ref 2, .int 0, .int 0, .int (-1), .int 0, .int 0, .int 0], aI 240 (fun _ => 0)] 1 240 := by
  repeat (first | refine ev_gos 99 rfl ?_ | refine ev_gf2 rfl rfl rfl rfl ?_ | refine ev_gf2 rfl rfl HH_land rfl ?_ | refine ev_gf2 rfl rfl HH_draft rfl ?_ | refine ev_gf2 rfl rfl (by with_reducible assumption) rfl ?_)
  refine ev_hw rfl rfl rfl ?_
  repeat (first | refine ev_gos 99 rfl ?_ | refine ev_gf2 rfl rfl rfl rfl ?_ | refine ev_gf2 rfl rfl HH_land rfl ?_ | refine ev_gf2 rfl rfl HH_draft rfl ?_ | refine ev_gf2 rfl rfl (by with_reducible assumption) rfl ?_)
  refine ev_al2 0 0 rfl rfl rfl rfl rfl ?_
  refine ev_pf rfl rfl rfl ?_
  repeat (first | refine ev_gos 99 rfl ?_ | refine ev_gf2 rfl rfl rfl rfl ?_ | refine ev_gf2 rfl rfl HH_land rfl ?_ | refine ev_gf2 rfl rfl HH_draft rfl ?_ | refine ev_gf2 rfl rfl (by with_reducible assumption) rfl ?_)
  refine ev_pf rfl rfl rfl ?_
  exact ev_rv rfl rfl
theorem i_L3 (x0 x1 x2 : ACell) : Ek sc (d + 1) m_L_init 0 (iniL 1 [.ref 3]) [] [x0, x1, x2, oI 1 (dflt 1)] none [x0, x1, x2, oI 1 [.int 0, .int 0, .int 0, .int 0, .long 0, .long 0, .long 0, .long 0, .ref 4, .ref 5], aI 7 (fun _ => 0), aJ 245 (fun _ => 0)] 2 252 := by
  repeat (first | refine ev_gos 99 rfl ?_ | refine ev_gf2 rfl rfl rfl rfl ?_ | refine ev_gf2 rfl rfl HH_land rfl ?_ | refine ev_gf2 rfl rfl HH_draft rfl ?_ | refine ev_gf2 rfl rfl (by with_reducible assumption) rfl ?_)
  refine ev_hw rfl rfl rfl ?_
  repeat (first | refine ev_gos 99 rfl ?_ | refine ev_gf2 rfl rfl rfl rfl ?_ | refine ev_gf2 rfl rfl HH_land rfl ?_ | refine ev_gf2 rfl rfl HH_draft rfl ?_ | refine ev_gf2 rfl rfl (by with_reducible assumption) rfl ?_)
  refine ev_al2 1 245 rfl rfl rfl rfl rfl ?_
  refine ev_pf rfl rfl rfl ?_
  repeat (first | refine ev_gos 99 rfl ?_ | refine ev_gf2 rfl rfl rfl rfl ?_ | refine ev_gf2 rfl rfl HH_land rfl ?_ | refine ev_gf2 rfl rfl HH_draft rfl ?_ | refine ev_gf2 rfl rfl (by with_reducible assumption) rfl ?_)
  refine ev_al2 0 0 rfl rfl rfl rfl rfl ?_
  refine ev_pf rfl rfl rfl ?_
  exact ev_rv rfl rfl
theorem i_L6 (x0 x1 x2 x3 x4 x5 : ACell) : Ek sc (d + 1) m_L_init 0 (iniL 1 [.ref 6]) [] [x0, x1, x2, x3, x4, x5, oI 1 (dflt 1)] none [x0, x1, x2, x3, x4, x5, oI 1 [.int 0, .int 0, .int 0, .int 0, .long 0, .long 0, .long 0, .long 0, .ref 7, .ref 8], aI 7 (fun _ => 0), aJ 245 (fun _ => 0)] 2 252 := by
  repeat (first | refine ev_gos 99 rfl ?_ | refine ev_gf2 rfl rfl rfl rfl ?_ | refine ev_gf2 rfl rfl HH_land rfl ?_ | refine ev_gf2 rfl rfl HH_draft rfl ?_ | refine ev_gf2 rfl rfl (by with_reducible assumption) rfl ?_)
  refine ev_hw rfl rfl rfl ?_
  repeat (first | refine ev_gos 99 rfl ?_ | refine ev_gf2 rfl rfl rfl rfl ?_ | refine ev_gf2 rfl rfl HH_land rfl ?_ | refine ev_gf2 rfl rfl HH_draft rfl ?_ | refine ev_gf2 rfl rfl (by with_reducible assumption) rfl ?_)
  refine ev_al2 1 245 rfl rfl rfl rfl rfl ?_
  refine ev_pf rfl rfl rfl ?_
  repeat (first | refine ev_gos 99 rfl ?_ | refine ev_gf2 rfl rfl rfl rfl ?_ | refine ev_gf2 rfl rfl HH_land rfl ?_ | refine ev_gf2 rfl rfl HH_draft rfl ?_ | refine ev_gf2 rfl rfl (by with_reducible assumption) rfl ?_)
  refine ev_al2 0 0 rfl rfl rfl rfl rfl ?_
  refine ev_pf rfl rfl rfl ?_
  exact ev_rv rfl rfl
theorem i_F9 (x0 x1 x2 x3 x4 x5 x6 x7 x8 : ACell) : Ek sc (d + 1) m_F_init 0 (iniL 1 [.ref 9]) [] [x0, x1, x2, x3, x4, x5, x6, x7, x8, oI 0 (dflt 0)] none [x0, x1, x2, x3, x4, x5, x6, x7, x8, oI 0 [.ref 10, .ref 11, .int 0, .int 0], aI 49 (fun _ => 0), aI 7 (mapP (fun _ _ => -1) (fun _ => 0) 7)] 2 56 := by
  repeat (first | refine ev_gos 99 rfl ?_ | refine ev_gf2 rfl rfl rfl rfl ?_ | refine ev_gf2 rfl rfl HH_land rfl ?_ | refine ev_gf2 rfl rfl HH_draft rfl ?_ | refine ev_gf2 rfl rfl (by with_reducible assumption) rfl ?_)
  refine ev_hw rfl rfl rfl ?_
  repeat (first | refine ev_gos 99 rfl ?_ | refine ev_gf2 rfl rfl rfl rfl ?_ | refine ev_gf2 rfl rfl HH_land rfl ?_ | refine ev_gf2 rfl rfl HH_draft rfl ?_ | refine ev_gf2 rfl rfl (by with_reducible assumption) rfl ?_)
  refine ev_al2 1 7 rfl rfl rfl rfl rfl ?_
  refine ev_pf rfl rfl rfl ?_
  repeat (first | refine ev_gos 99 rfl ?_ | refine ev_gf2 rfl rfl rfl rfl ?_ | refine ev_gf2 rfl rfl HH_land rfl ?_ | refine ev_gf2 rfl rfl HH_draft rfl ?_ | refine ev_gf2 rfl rfl (by with_reducible assumption) rfl ?_)
  refine ev_al2 0 0 rfl rfl rfl rfl rfl ?_
  refine ev_pf rfl rfl rfl ?_
  refine (?_ : Ek sc _ m_F_init 20 _ _ [x0, x1, x2, x3, x4, x5, x6, x7, x8, oI 0 [.ref 10, .ref 11, .int 0, .int 0], aI 49 (fun _ => 0), aI 7 (fun _ => 0)] _ _ _ _)
  repeat (first | refine ev_gos 99 rfl ?_ | refine ev_gf2 rfl rfl rfl rfl ?_ | refine ev_gf2 rfl rfl HH_land rfl ?_ | refine ev_gf2 rfl rfl HH_draft rfl ?_ | refine ev_gf2 rfl rfl (by with_reducible assumption) rfl ?_)
  refine ev_cs rfl rfl rfl (e_fill (h := [x0, x1, x2, x3, x4, x5, x6, x7, x8, oI 0 [.ref 10, .ref 11, .int 0, .int 0], aI 49 (fun _ => 0), aI 7 (fun _ => 0)]) (q := 11) (m := 7) (f := (fun _ => 0)) rfl (by decide) (-1)) ?_
  exact ev_rv rfl rfl
theorem i_F12 (x0 x1 x2 x3 x4 x5 x6 x7 x8 x9 x10 x11 : ACell) : Ek sc (d + 1) m_F_init 0 (iniL 1 [.ref 12]) [] [x0, x1, x2, x3, x4, x5, x6, x7, x8, x9, x10, x11, oI 0 (dflt 0)] none [x0, x1, x2, x3, x4, x5, x6, x7, x8, x9, x10, x11, oI 0 [.ref 13, .ref 14, .int 0, .int 0], aI 49 (fun _ => 0), aI 7 (mapP (fun _ _ => -1) (fun _ => 0) 7)] 2 56 := by
  repeat (first | refine ev_gos 99 rfl ?_ | refine ev_gf2 rfl rfl rfl rfl ?_ | refine ev_gf2 rfl rfl HH_land rfl ?_ | refine ev_gf2 rfl rfl HH_draft rfl ?_ | refine ev_gf2 rfl rfl (by with_reducible assumption) rfl ?_)
  refine ev_hw rfl rfl rfl ?_
  repeat (first | refine ev_gos 99 rfl ?_ | refine ev_gf2 rfl rfl rfl rfl ?_ | refine ev_gf2 rfl rfl HH_land rfl ?_ | refine ev_gf2 rfl rfl HH_draft rfl ?_ | refine ev_gf2 rfl rfl (by with_reducible assumption) rfl ?_)
  refine ev_al2 1 7 rfl rfl rfl rfl rfl ?_
  refine ev_pf rfl rfl rfl ?_
  repeat (first | refine ev_gos 99 rfl ?_ | refine ev_gf2 rfl rfl rfl rfl ?_ | refine ev_gf2 rfl rfl HH_land rfl ?_ | refine ev_gf2 rfl rfl HH_draft rfl ?_ | refine ev_gf2 rfl rfl (by with_reducible assumption) rfl ?_)
  refine ev_al2 0 0 rfl rfl rfl rfl rfl ?_
  refine ev_pf rfl rfl rfl ?_
  refine (?_ : Ek sc _ m_F_init 20 _ _ [x0, x1, x2, x3, x4, x5, x6, x7, x8, x9, x10, x11, oI 0 [.ref 13, .ref 14, .int 0, .int 0], aI 49 (fun _ => 0), aI 7 (fun _ => 0)] _ _ _ _)
  repeat (first | refine ev_gos 99 rfl ?_ | refine ev_gf2 rfl rfl rfl rfl ?_ | refine ev_gf2 rfl rfl HH_land rfl ?_ | refine ev_gf2 rfl rfl HH_draft rfl ?_ | refine ev_gf2 rfl rfl (by with_reducible assumption) rfl ?_)
  refine ev_cs rfl rfl rfl (e_fill (h := [x0, x1, x2, x3, x4, x5, x6, x7, x8, x9, x10, x11, oI 0 [.ref 13, .ref 14, .int 0, .int 0], aI 49 (fun _ => 0), aI 7 (fun _ => 0)]) (q := 14) (m := 7) (f := (fun _ => 0)) rfl (by decide) (-1)) ?_
  exact ev_rv rfl rfl
theorem i_S15 (x0 x1 x2 x3 x4 x5 x6 x7 x8 x9 x10 x11 x12 x13 x14 : ACell) : Ek sc (d + 1) m_S_init 0 (iniL 2 [.ref 15, .int 30]) [] [x0, x1, x2, x3, x4, x5, x6, x7, x8, x9, x10, x11, x12, x13, x14, oI 4 (dflt 4)] none [x0, x1, x2, x3, x4, x5, x6, x7, x8, x9, x10, x11, x12, x13, x14, oI 4 [.int 30, .ref 16], aI 1740 (fun _ => 0)] 1 1740 := by
  repeat (first | refine ev_gos 99 rfl ?_ | refine ev_gf2 rfl rfl rfl rfl ?_ | refine ev_gf2 rfl rfl HH_land rfl ?_ | refine ev_gf2 rfl rfl HH_draft rfl ?_ | refine ev_gf2 rfl rfl (by with_reducible assumption) rfl ?_)
  refine ev_hw rfl rfl rfl ?_
  repeat (first | refine ev_gos 99 rfl ?_ | refine ev_gf2 rfl rfl rfl rfl ?_ | refine ev_gf2 rfl rfl HH_land rfl ?_ | refine ev_gf2 rfl rfl HH_draft rfl ?_ | refine ev_gf2 rfl rfl (by with_reducible assumption) rfl ?_)
  refine ev_hw rfl rfl rfl ?_
  refine ev_pf rfl rfl rfl ?_
  refine (?_ : Ek sc _ m_S_init 13 _ _ [x0, x1, x2, x3, x4, x5, x6, x7, x8, x9, x10, x11, x12, x13, x14, oI 4 [.int 30, .null]] _ _ _ _)
  repeat (first | refine ev_gos 99 rfl ?_ | refine ev_gf2 rfl rfl rfl rfl ?_ | refine ev_gf2 rfl rfl HH_land rfl ?_ | refine ev_gf2 rfl rfl HH_draft rfl ?_ | refine ev_gf2 rfl rfl (by with_reducible assumption) rfl ?_)
  refine (?_ : Ek sc _ m_S_init 21 _ (.int 1740 :: _) _ _ _ _ _)
  refine ev_al2 0 0 rfl rfl rfl rfl rfl ?_
  refine ev_pf rfl rfl rfl ?_
  exact ev_rv rfl rfl
theorem i_S17 (x0 x1 x2 x3 x4 x5 x6 x7 x8 x9 x10 x11 x12 x13 x14 x15 x16 : ACell) : Ek sc (d + 1) m_S_init 0 (iniL 2 [.ref 17, .int 2]) [] [x0, x1, x2, x3, x4, x5, x6, x7, x8, x9, x10, x11, x12, x13, x14, x15, x16, oI 4 (dflt 4)] none [x0, x1, x2, x3, x4, x5, x6, x7, x8, x9, x10, x11, x12, x13, x14, x15, x16, oI 4 [.int 2, .ref 18], aI 116 (fun _ => 0)] 1 116 := by
  repeat (first | refine ev_gos 99 rfl ?_ | refine ev_gf2 rfl rfl rfl rfl ?_ | refine ev_gf2 rfl rfl HH_land rfl ?_ | refine ev_gf2 rfl rfl HH_draft rfl ?_ | refine ev_gf2 rfl rfl (by with_reducible assumption) rfl ?_)
  refine ev_hw rfl rfl rfl ?_
  repeat (first | refine ev_gos 99 rfl ?_ | refine ev_gf2 rfl rfl rfl rfl ?_ | refine ev_gf2 rfl rfl HH_land rfl ?_ | refine ev_gf2 rfl rfl HH_draft rfl ?_ | refine ev_gf2 rfl rfl (by with_reducible assumption) rfl ?_)
  refine ev_hw rfl rfl rfl ?_
  refine ev_pf rfl rfl rfl ?_
  refine (?_ : Ek sc _ m_S_init 13 _ _ [x0, x1, x2, x3, x4, x5, x6, x7, x8, x9, x10, x11, x12, x13, x14, x15, x16, oI 4 [.int 2, .null]] _ _ _ _)
  repeat (first | refine ev_gos 99 rfl ?_ | refine ev_gf2 rfl rfl rfl rfl ?_ | refine ev_gf2 rfl rfl HH_land rfl ?_ | refine ev_gf2 rfl rfl HH_draft rfl ?_ | refine ev_gf2 rfl rfl (by with_reducible assumption) rfl ?_)
  refine (?_ : Ek sc _ m_S_init 21 _ (.int 116 :: _) _ _ _ _ _)
  refine ev_al2 0 0 rfl rfl rfl rfl rfl ?_
  refine ev_pf rfl rfl rfl ?_
  exact ev_rv rfl rfl
theorem i_N (x0 x1 x2 x3 x4 x5 x6 x7 x8 x9 x10 x11 x12 x13 x14 x15 x16 x17 x18 x19 x20 : ACell) : Ek sc (d + 1) m_N_init 0 (iniL 1 [.ref 21]) [] [x0, x1, x2, x3, x4, x5, x6, x7, x8, x9, x10, x11, x12, x13, x14, x15, x16, x17, x18, x19, x20, oI 2 (dflt 2)] none [x0, x1, x2, x3, x4, x5, x6, x7, x8, x9, x10, x11, x12, x13, x14, x15, x16, x17, x18, x19, x20, oI 2 [.ref 22, .ref 23, .ref 24, .int 0, .int 0], aI 6 (fun _ => 0), aZ 6 (fun _ => 0), aI 20 (fun _ => 0)] 3 32 := by
  repeat (first | refine ev_gos 99 rfl ?_ | refine ev_gf2 rfl rfl rfl rfl ?_ | refine ev_gf2 rfl rfl HH_land rfl ?_ | refine ev_gf2 rfl rfl HH_draft rfl ?_ | refine ev_gf2 rfl rfl (by with_reducible assumption) rfl ?_)
  refine ev_hw rfl rfl rfl ?_
  repeat (first | refine ev_gos 99 rfl ?_ | refine ev_gf2 rfl rfl rfl rfl ?_ | refine ev_gf2 rfl rfl HH_land rfl ?_ | refine ev_gf2 rfl rfl HH_draft rfl ?_ | refine ev_gf2 rfl rfl (by with_reducible assumption) rfl ?_)
  refine ev_al2 2 26 rfl rfl rfl rfl rfl ?_
  refine ev_pf rfl rfl rfl ?_
  repeat (first | refine ev_gos 99 rfl ?_ | refine ev_gf2 rfl rfl rfl rfl ?_ | refine ev_gf2 rfl rfl HH_land rfl ?_ | refine ev_gf2 rfl rfl HH_draft rfl ?_ | refine ev_gf2 rfl rfl (by with_reducible assumption) rfl ?_)
  refine ev_al2 1 20 rfl rfl rfl rfl rfl ?_
  refine ev_pf rfl rfl rfl ?_
  repeat (first | refine ev_gos 99 rfl ?_ | refine ev_gf2 rfl rfl rfl rfl ?_ | refine ev_gf2 rfl rfl HH_land rfl ?_ | refine ev_gf2 rfl rfl HH_draft rfl ?_ | refine ev_gf2 rfl rfl (by with_reducible assumption) rfl ?_)
  refine ev_al2 0 0 rfl rfl rfl rfl rfl ?_
  refine ev_pf rfl rfl rfl ?_
  exact ev_rv rfl rfl
def hpC : AHp := [oI 5 [.ref 1, .ref 3, .ref 6, .ref 9, .ref 12, .ref 15, .int 0, .int 0, .ref 17, .ref 19, .ref 20, .ref 21, .ref 25, .int 0], oI 3 [.ref 2, .int 0, .int 0, .int (-1), .int 0, .int 0, .int 0], aI 240 (fun _ => 0), oI 1 [.int 0, .int 0, .int 0, .int 0, .long 0, .long 0, .long 0, .long 0, .ref 4, .ref 5], aI 7 (fun _ => 0), aJ 245 (fun _ => 0), oI 1 [.int 0, .int 0, .int 0, .int 0, .long 0, .long 0, .long 0, .long 0, .ref 7, .ref 8], aI 7 (fun _ => 0), aJ 245 (fun _ => 0), oI 0 [.ref 10, .ref 11, .int 0, .int 0], aI 49 (fun _ => 0), aI 7 (mapP (fun _ _ => -1) (fun _ => 0) 7), oI 0 [.ref 13, .ref 14, .int 0, .int 0], aI 49 (fun _ => 0), aI 7 (mapP (fun _ _ => -1) (fun _ => 0) 7), oI 4 [.int 30, .ref 16], aI 1740 (fun _ => 0), oI 4 [.int 2, .ref 18], aI 116 (fun _ => 0), aI 2 (fun _ => 0), aZ 2 (fun _ => 0), oI 2 [.ref 22, .ref 23, .ref 24, .int 0, .int 0], aI 6 (fun _ => 0), aZ 6 (fun _ => 0), aI 20 (fun _ => 0), aI 49 (fun _ => 0)]
theorem i_C : Ek sc (d + 2) m_C_init 0 (iniL 1 [.ref 0]) [] [oI 5 (dflt 5)] none hpC 25 2841 := by
  unfold hpC
  repeat (first | refine ev_gos 99 rfl ?_ | refine ev_gf2 rfl rfl rfl rfl ?_ | refine ev_gf2 rfl rfl HH_land rfl ?_ | refine ev_gf2 rfl rfl HH_draft rfl ?_ | refine ev_gf2 rfl rfl (by with_reducible assumption) rfl ?_)
  refine ev_hw rfl rfl rfl ?_
  repeat (first | refine ev_gos 99 rfl ?_ | refine ev_gf2 rfl rfl rfl rfl ?_ | refine ev_gf2 rfl rfl HH_land rfl ?_ | refine ev_gf2 rfl rfl HH_draft rfl ?_ | refine ev_gf2 rfl rfl (by with_reducible assumption) rfl ?_)
  refine ev_al2 24 2834 rfl rfl rfl rfl rfl ?_
  repeat (first | refine ev_gos 99 rfl ?_ | refine ev_gf2 rfl rfl rfl rfl ?_ | refine ev_gf2 rfl rfl HH_land rfl ?_ | refine ev_gf2 rfl rfl HH_draft rfl ?_ | refine ev_gf2 rfl rfl (by with_reducible assumption) rfl ?_)
  refine ev_cal2 23 2594 rfl rfl rfl (i_R _) rfl rfl ?_
  refine ev_pf rfl rfl rfl ?_
  refine (?_ : Ek sc _ m_C_init 15 _ _ [oI 5 [.ref 1, .null, .null, .null, .null, .null, .int 0, .int 0, .null, .null, .null, .null, .null, .int 0], oI 3 [.ref 2, .int 0, .int 0, .int (-1), .int 0, .int 0, .int 0], aI 240 (fun _ => 0)] _ _ _ _)
  repeat (first | refine ev_gos 99 rfl ?_ | refine ev_gf2 rfl rfl rfl rfl ?_ | refine ev_gf2 rfl rfl HH_land rfl ?_ | refine ev_gf2 rfl rfl HH_draft rfl ?_ | refine ev_gf2 rfl rfl (by with_reducible assumption) rfl ?_)
  refine ev_al2 22 2584 rfl rfl rfl rfl rfl ?_
  repeat (first | refine ev_gos 99 rfl ?_ | refine ev_gf2 rfl rfl rfl rfl ?_ | refine ev_gf2 rfl rfl HH_land rfl ?_ | refine ev_gf2 rfl rfl HH_draft rfl ?_ | refine ev_gf2 rfl rfl (by with_reducible assumption) rfl ?_)
  refine ev_cal2 20 2332 rfl rfl rfl (i_L3 _ _ _) rfl rfl ?_
  refine ev_pf rfl rfl rfl ?_
  refine (?_ : Ek sc _ m_C_init 26 _ _ [oI 5 [.ref 1, .ref 3, .null, .null, .null, .null, .int 0, .int 0, .null, .null, .null, .null, .null, .int 0], oI 3 [.ref 2, .int 0, .int 0, .int (-1), .int 0, .int 0, .int 0], aI 240 (fun _ => 0), oI 1 [.int 0, .int 0, .int 0, .int 0, .long 0, .long 0, .long 0, .long 0, .ref 4, .ref 5], aI 7 (fun _ => 0), aJ 245 (fun _ => 0)] _ _ _ _)
  repeat (first | refine ev_gos 99 rfl ?_ | refine ev_gf2 rfl rfl rfl rfl ?_ | refine ev_gf2 rfl rfl HH_land rfl ?_ | refine ev_gf2 rfl rfl HH_draft rfl ?_ | refine ev_gf2 rfl rfl (by with_reducible assumption) rfl ?_)
  refine ev_al2 19 2322 rfl rfl rfl rfl rfl ?_
  repeat (first | refine ev_gos 99 rfl ?_ | refine ev_gf2 rfl rfl rfl rfl ?_ | refine ev_gf2 rfl rfl HH_land rfl ?_ | refine ev_gf2 rfl rfl HH_draft rfl ?_ | refine ev_gf2 rfl rfl (by with_reducible assumption) rfl ?_)
  refine ev_cal2 17 2070 rfl rfl rfl (i_L6 _ _ _ _ _ _) rfl rfl ?_
  refine ev_pf rfl rfl rfl ?_
  refine (?_ : Ek sc _ m_C_init 37 _ _ [oI 5 [.ref 1, .ref 3, .ref 6, .null, .null, .null, .int 0, .int 0, .null, .null, .null, .null, .null, .int 0], oI 3 [.ref 2, .int 0, .int 0, .int (-1), .int 0, .int 0, .int 0], aI 240 (fun _ => 0), oI 1 [.int 0, .int 0, .int 0, .int 0, .long 0, .long 0, .long 0, .long 0, .ref 4, .ref 5], aI 7 (fun _ => 0), aJ 245 (fun _ => 0), oI 1 [.int 0, .int 0, .int 0, .int 0, .long 0, .long 0, .long 0, .long 0, .ref 7, .ref 8], aI 7 (fun _ => 0), aJ 245 (fun _ => 0)] _ _ _ _)
  repeat (first | refine ev_gos 99 rfl ?_ | refine ev_gf2 rfl rfl rfl rfl ?_ | refine ev_gf2 rfl rfl HH_land rfl ?_ | refine ev_gf2 rfl rfl HH_draft rfl ?_ | refine ev_gf2 rfl rfl (by with_reducible assumption) rfl ?_)
  refine ev_al2 16 2066 rfl rfl rfl rfl rfl ?_
  repeat (first | refine ev_gos 99 rfl ?_ | refine ev_gf2 rfl rfl rfl rfl ?_ | refine ev_gf2 rfl rfl HH_land rfl ?_ | refine ev_gf2 rfl rfl HH_draft rfl ?_ | refine ev_gf2 rfl rfl (by with_reducible assumption) rfl ?_)
  refine ev_cal2 14 2010 rfl rfl rfl (i_F9 _ _ _ _ _ _ _ _ _) rfl rfl ?_
  refine ev_pf rfl rfl rfl ?_
  refine (?_ : Ek sc _ m_C_init 48 _ _ [oI 5 [.ref 1, .ref 3, .ref 6, .ref 9, .null, .null, .int 0, .int 0, .null, .null, .null, .null, .null, .int 0], oI 3 [.ref 2, .int 0, .int 0, .int (-1), .int 0, .int 0, .int 0], aI 240 (fun _ => 0), oI 1 [.int 0, .int 0, .int 0, .int 0, .long 0, .long 0, .long 0, .long 0, .ref 4, .ref 5], aI 7 (fun _ => 0), aJ 245 (fun _ => 0), oI 1 [.int 0, .int 0, .int 0, .int 0, .long 0, .long 0, .long 0, .long 0, .ref 7, .ref 8], aI 7 (fun _ => 0), aJ 245 (fun _ => 0), oI 0 [.ref 10, .ref 11, .int 0, .int 0], aI 49 (fun _ => 0), aI 7 (mapP (fun _ _ => -1) (fun _ => 0) 7)] _ _ _ _)
  repeat (first | refine ev_gos 99 rfl ?_ | refine ev_gf2 rfl rfl rfl rfl ?_ | refine ev_gf2 rfl rfl HH_land rfl ?_ | refine ev_gf2 rfl rfl HH_draft rfl ?_ | refine ev_gf2 rfl rfl (by with_reducible assumption) rfl ?_)
  refine ev_al2 13 2006 rfl rfl rfl rfl rfl ?_
  repeat (first | refine ev_gos 99 rfl ?_ | refine ev_gf2 rfl rfl rfl rfl ?_ | refine ev_gf2 rfl rfl HH_land rfl ?_ | refine ev_gf2 rfl rfl HH_draft rfl ?_ | refine ev_gf2 rfl rfl (by with_reducible assumption) rfl ?_)
  refine ev_cal2 11 1950 rfl rfl rfl (i_F12 _ _ _ _ _ _ _ _ _ _ _ _) rfl rfl ?_
  refine ev_pf rfl rfl rfl ?_
  refine (?_ : Ek sc _ m_C_init 59 _ _ [oI 5 [.ref 1, .ref 3, .ref 6, .ref 9, .ref 12, .null, .int 0, .int 0, .null, .null, .null, .null, .null, .int 0], oI 3 [.ref 2, .int 0, .int 0, .int (-1), .int 0, .int 0, .int 0], aI 240 (fun _ => 0), oI 1 [.int 0, .int 0, .int 0, .int 0, .long 0, .long 0, .long 0, .long 0, .ref 4, .ref 5], aI 7 (fun _ => 0), aJ 245 (fun _ => 0), oI 1 [.int 0, .int 0, .int 0, .int 0, .long 0, .long 0, .long 0, .long 0, .ref 7, .ref 8], aI 7 (fun _ => 0), aJ 245 (fun _ => 0), oI 0 [.ref 10, .ref 11, .int 0, .int 0], aI 49 (fun _ => 0), aI 7 (mapP (fun _ _ => -1) (fun _ => 0) 7), oI 0 [.ref 13, .ref 14, .int 0, .int 0], aI 49 (fun _ => 0), aI 7 (mapP (fun _ _ => -1) (fun _ => 0) 7)] _ _ _ _)
  repeat (first | refine ev_gos 99 rfl ?_ | refine ev_gf2 rfl rfl rfl rfl ?_ | refine ev_gf2 rfl rfl HH_land rfl ?_ | refine ev_gf2 rfl rfl HH_draft rfl ?_ | refine ev_gf2 rfl rfl (by with_reducible assumption) rfl ?_)
  refine ev_al2 10 1948 rfl rfl rfl rfl rfl ?_
  repeat (first | refine ev_gos 99 rfl ?_ | refine ev_gf2 rfl rfl rfl rfl ?_ | refine ev_gf2 rfl rfl HH_land rfl ?_ | refine ev_gf2 rfl rfl HH_draft rfl ?_ | refine ev_gf2 rfl rfl (by with_reducible assumption) rfl ?_)
  refine ev_cal2 9 208 rfl rfl rfl (i_S15 _ _ _ _ _ _ _ _ _ _ _ _ _ _ _) rfl rfl ?_
  refine ev_pf rfl rfl rfl ?_
  refine (?_ : Ek sc _ m_C_init 72 _ _ [oI 5 [.ref 1, .ref 3, .ref 6, .ref 9, .ref 12, .ref 15, .int 0, .int 0, .null, .null, .null, .null, .null, .int 0], oI 3 [.ref 2, .int 0, .int 0, .int (-1), .int 0, .int 0, .int 0], aI 240 (fun _ => 0), oI 1 [.int 0, .int 0, .int 0, .int 0, .long 0, .long 0, .long 0, .long 0, .ref 4, .ref 5], aI 7 (fun _ => 0), aJ 245 (fun _ => 0), oI 1 [.int 0, .int 0, .int 0, .int 0, .long 0, .long 0, .long 0, .long 0, .ref 7, .ref 8], aI 7 (fun _ => 0), aJ 245 (fun _ => 0), oI 0 [.ref 10, .ref 11, .int 0, .int 0], aI 49 (fun _ => 0), aI 7 (mapP (fun _ _ => -1) (fun _ => 0) 7), oI 0 [.ref 13, .ref 14, .int 0, .int 0], aI 49 (fun _ => 0), aI 7 (mapP (fun _ _ => -1) (fun _ => 0) 7), oI 4 [.int 30, .ref 16], aI 1740 (fun _ => 0)] _ _ _ _)
  repeat (first | refine ev_gos 99 rfl ?_ | refine ev_gf2 rfl rfl rfl rfl ?_ | refine ev_gf2 rfl rfl HH_land rfl ?_ | refine ev_gf2 rfl rfl HH_draft rfl ?_ | refine ev_gf2 rfl rfl (by with_reducible assumption) rfl ?_)
  refine ev_al2 8 206 rfl rfl rfl rfl rfl ?_
  repeat (first | refine ev_gos 99 rfl ?_ | refine ev_gf2 rfl rfl rfl rfl ?_ | refine ev_gf2 rfl rfl HH_land rfl ?_ | refine ev_gf2 rfl rfl HH_draft rfl ?_ | refine ev_gf2 rfl rfl (by with_reducible assumption) rfl ?_)
  refine ev_cal2 7 90 rfl rfl rfl (i_S17 _ _ _ _ _ _ _ _ _ _ _ _ _ _ _ _ _) rfl rfl ?_
  refine ev_pf rfl rfl rfl ?_
  refine (?_ : Ek sc _ m_C_init 84 _ _ [oI 5 [.ref 1, .ref 3, .ref 6, .ref 9, .ref 12, .ref 15, .int 0, .int 0, .ref 17, .null, .null, .null, .null, .int 0], oI 3 [.ref 2, .int 0, .int 0, .int (-1), .int 0, .int 0, .int 0], aI 240 (fun _ => 0), oI 1 [.int 0, .int 0, .int 0, .int 0, .long 0, .long 0, .long 0, .long 0, .ref 4, .ref 5], aI 7 (fun _ => 0), aJ 245 (fun _ => 0), oI 1 [.int 0, .int 0, .int 0, .int 0, .long 0, .long 0, .long 0, .long 0, .ref 7, .ref 8], aI 7 (fun _ => 0), aJ 245 (fun _ => 0), oI 0 [.ref 10, .ref 11, .int 0, .int 0], aI 49 (fun _ => 0), aI 7 (mapP (fun _ _ => -1) (fun _ => 0) 7), oI 0 [.ref 13, .ref 14, .int 0, .int 0], aI 49 (fun _ => 0), aI 7 (mapP (fun _ _ => -1) (fun _ => 0) 7), oI 4 [.int 30, .ref 16], aI 1740 (fun _ => 0), oI 4 [.int 2, .ref 18], aI 116 (fun _ => 0)] _ _ _ _)
  repeat (first | refine ev_gos 99 rfl ?_ | refine ev_gf2 rfl rfl rfl rfl ?_ | refine ev_gf2 rfl rfl HH_land rfl ?_ | refine ev_gf2 rfl rfl HH_draft rfl ?_ | refine ev_gf2 rfl rfl (by with_reducible assumption) rfl ?_)
  refine ev_al2 6 88 rfl rfl rfl rfl rfl ?_
  refine ev_pf rfl rfl rfl ?_
  refine (?_ : Ek sc _ m_C_init 91 _ _ [oI 5 [.ref 1, .ref 3, .ref 6, .ref 9, .ref 12, .ref 15, .int 0, .int 0, .ref 17, .ref 19, .null, .null, .null, .int 0], oI 3 [.ref 2, .int 0, .int 0, .int (-1), .int 0, .int 0, .int 0], aI 240 (fun _ => 0), oI 1 [.int 0, .int 0, .int 0, .int 0, .long 0, .long 0, .long 0, .long 0, .ref 4, .ref 5], aI 7 (fun _ => 0), aJ 245 (fun _ => 0), oI 1 [.int 0, .int 0, .int 0, .int 0, .long 0, .long 0, .long 0, .long 0, .ref 7, .ref 8], aI 7 (fun _ => 0), aJ 245 (fun _ => 0), oI 0 [.ref 10, .ref 11, .int 0, .int 0], aI 49 (fun _ => 0), aI 7 (mapP (fun _ _ => -1) (fun _ => 0) 7), oI 0 [.ref 13, .ref 14, .int 0, .int 0], aI 49 (fun _ => 0), aI 7 (mapP (fun _ _ => -1) (fun _ => 0) 7), oI 4 [.int 30, .ref 16], aI 1740 (fun _ => 0), oI 4 [.int 2, .ref 18], aI 116 (fun _ => 0), aI 2 (fun _ => 0)] _ _ _ _)
  repeat (first | refine ev_gos 99 rfl ?_ | refine ev_gf2 rfl rfl rfl rfl ?_ | refine ev_gf2 rfl rfl HH_land rfl ?_ | refine ev_gf2 rfl rfl HH_draft rfl ?_ | refine ev_gf2 rfl rfl (by with_reducible assumption) rfl ?_)
  refine ev_al2 5 86 rfl rfl rfl rfl rfl ?_
  refine ev_pf rfl rfl rfl ?_
  refine (?_ : Ek sc _ m_C_init 98 _ _ [oI 5 [.ref 1, .ref 3, .ref 6, .ref 9, .ref 12, .ref 15, .int 0, .int 0, .ref 17, .ref 19, .ref 20, .null, .null, .int 0], oI 3 [.ref 2, .int 0, .int 0, .int (-1), .int 0, .int 0, .int 0], aI 240 (fun _ => 0), oI 1 [.int 0, .int 0, .int 0, .int 0, .long 0, .long 0, .long 0, .long 0, .ref 4, .ref 5], aI 7 (fun _ => 0), aJ 245 (fun _ => 0), oI 1 [.int 0, .int 0, .int 0, .int 0, .long 0, .long 0, .long 0, .long 0, .ref 7, .ref 8], aI 7 (fun _ => 0), aJ 245 (fun _ => 0), oI 0 [.ref 10, .ref 11, .int 0, .int 0], aI 49 (fun _ => 0), aI 7 (mapP (fun _ _ => -1) (fun _ => 0) 7), oI 0 [.ref 13, .ref 14, .int 0, .int 0], aI 49 (fun _ => 0), aI 7 (mapP (fun _ _ => -1) (fun _ => 0) 7), oI 4 [.int 30, .ref 16], aI 1740 (fun _ => 0), oI 4 [.int 2, .ref 18], aI 116 (fun _ => 0), aI 2 (fun _ => 0), aZ 2 (fun _ => 0)] _ _ _ _)
  repeat (first | refine ev_gos 99 rfl ?_ | refine ev_gf2 rfl rfl rfl rfl ?_ | refine ev_gf2 rfl rfl HH_land rfl ?_ | refine ev_gf2 rfl rfl HH_draft rfl ?_ | refine ev_gf2 rfl rfl (by with_reducible assumption) rfl ?_)
  refine ev_al2 4 81 rfl rfl rfl rfl rfl ?_
  repeat (first | refine ev_gos 99 rfl ?_ | refine ev_gf2 rfl rfl rfl rfl ?_ | refine ev_gf2 rfl rfl HH_land rfl ?_ | refine ev_gf2 rfl rfl HH_draft rfl ?_ | refine ev_gf2 rfl rfl (by with_reducible assumption) rfl ?_)
  refine ev_cal2 1 49 rfl rfl rfl (i_N _ _ _ _ _ _ _ _ _ _ _ _ _ _ _ _ _ _ _ _ _) rfl rfl ?_
  refine ev_pf rfl rfl rfl ?_
  refine (?_ : Ek sc _ m_C_init 109 _ _ [oI 5 [.ref 1, .ref 3, .ref 6, .ref 9, .ref 12, .ref 15, .int 0, .int 0, .ref 17, .ref 19, .ref 20, .ref 21, .null, .int 0], oI 3 [.ref 2, .int 0, .int 0, .int (-1), .int 0, .int 0, .int 0], aI 240 (fun _ => 0), oI 1 [.int 0, .int 0, .int 0, .int 0, .long 0, .long 0, .long 0, .long 0, .ref 4, .ref 5], aI 7 (fun _ => 0), aJ 245 (fun _ => 0), oI 1 [.int 0, .int 0, .int 0, .int 0, .long 0, .long 0, .long 0, .long 0, .ref 7, .ref 8], aI 7 (fun _ => 0), aJ 245 (fun _ => 0), oI 0 [.ref 10, .ref 11, .int 0, .int 0], aI 49 (fun _ => 0), aI 7 (mapP (fun _ _ => -1) (fun _ => 0) 7), oI 0 [.ref 13, .ref 14, .int 0, .int 0], aI 49 (fun _ => 0), aI 7 (mapP (fun _ _ => -1) (fun _ => 0) 7), oI 4 [.int 30, .ref 16], aI 1740 (fun _ => 0), oI 4 [.int 2, .ref 18], aI 116 (fun _ => 0), aI 2 (fun _ => 0), aZ 2 (fun _ => 0), oI 2 [.ref 22, .ref 23, .ref 24, .int 0, .int 0], aI 6 (fun _ => 0), aZ 6 (fun _ => 0), aI 20 (fun _ => 0)] _ _ _ _)
  repeat (first | refine ev_gos 99 rfl ?_ | refine ev_gf2 rfl rfl rfl rfl ?_ | refine ev_gf2 rfl rfl HH_land rfl ?_ | refine ev_gf2 rfl rfl HH_draft rfl ?_ | refine ev_gf2 rfl rfl (by with_reducible assumption) rfl ?_)
  refine ev_al2 0 0 rfl rfl rfl rfl rfl ?_
  refine ev_pf rfl rfl rfl ?_
  refine (?_ : Ek sc _ m_C_init 117 _ _ [oI 5 [.ref 1, .ref 3, .ref 6, .ref 9, .ref 12, .ref 15, .int 0, .int 0, .ref 17, .ref 19, .ref 20, .ref 21, .ref 25, .int 0], oI 3 [.ref 2, .int 0, .int 0, .int (-1), .int 0, .int 0, .int 0], aI 240 (fun _ => 0), oI 1 [.int 0, .int 0, .int 0, .int 0, .long 0, .long 0, .long 0, .long 0, .ref 4, .ref 5], aI 7 (fun _ => 0), aJ 245 (fun _ => 0), oI 1 [.int 0, .int 0, .int 0, .int 0, .long 0, .long 0, .long 0, .long 0, .ref 7, .ref 8], aI 7 (fun _ => 0), aJ 245 (fun _ => 0), oI 0 [.ref 10, .ref 11, .int 0, .int 0], aI 49 (fun _ => 0), aI 7 (mapP (fun _ _ => -1) (fun _ => 0) 7), oI 0 [.ref 13, .ref 14, .int 0, .int 0], aI 49 (fun _ => 0), aI 7 (mapP (fun _ _ => -1) (fun _ => 0) 7), oI 4 [.int 30, .ref 16], aI 1740 (fun _ => 0), oI 4 [.int 2, .ref 18], aI 116 (fun _ => 0), aI 2 (fun _ => 0), aZ 2 (fun _ => 0), oI 2 [.ref 22, .ref 23, .ref 24, .int 0, .int 0], aI 6 (fun _ => 0), aZ 6 (fun _ => 0), aI 20 (fun _ => 0), aI 49 (fun _ => 0)] _ _ _ _)
  exact ev_rv rfl rfl
def s0 : Nat → Int32 := upA (upA (fun _ => 0) 2 (-1)) 25 (-1)
def l0 : Nat → Int64 := fun _ => 0
def A0 : Nat → Nat → Int32 := upA (upA (fun _ _ => 0) 11 (mapP (fun _ _ => -1) (fun _ => 0) 7)) 14 (mapP (fun _ _ => -1) (fun _ => 0) 7)
def B0 : Nat → Nat → Int64 := fun _ _ => 0
theorem i_M : Ek sc (d + 2) m_M_init 0 (iniL 1 [.ref 26]) [] (hpC ++ [oI 6 (dflt 6)]) none (HH false (upA (upA (upA s0 23 0) 26 0) 27 0) l0 (upA (upA A0 29 (upd (mapP bgR (A0 29) 58) 57 (A0 27 4))) 34 (upd (upd (A0 34) 0 0) 1 0)) B0) 12 2346 := by
  unfold hpC
  repeat (first | refine ev_gos 99 rfl ?_ | refine ev_gf2 rfl rfl rfl rfl ?_ | refine ev_gf2 rfl rfl HH_land rfl ?_ | refine ev_gf2 rfl rfl HH_draft rfl ?_ | refine ev_gf2 rfl rfl (by with_reducible assumption) rfl ?_)
  refine ev_hw rfl rfl rfl ?_
  repeat (first | refine ev_gos 99 rfl ?_ | refine ev_gf2 rfl rfl rfl rfl ?_ | refine ev_gf2 rfl rfl HH_land rfl ?_ | refine ev_gf2 rfl rfl HH_draft rfl ?_ | refine ev_gf2 rfl rfl (by with_reducible assumption) rfl ?_)
  refine ev_al2 11 2325 rfl rfl rfl rfl rfl ?_
  refine ev_pf rfl rfl rfl ?_
  repeat (first | refine ev_gos 99 rfl ?_ | refine ev_gf2 rfl rfl rfl rfl ?_ | refine ev_gf2 rfl rfl HH_land rfl ?_ | refine ev_gf2 rfl rfl HH_draft rfl ?_ | refine ev_gf2 rfl rfl (by with_reducible assumption) rfl ?_)
  refine ev_al2 10 2304 rfl rfl rfl rfl rfl ?_
  refine ev_pf rfl rfl rfl ?_
  repeat (first | refine ev_gos 99 rfl ?_ | refine ev_gf2 rfl rfl rfl rfl ?_ | refine ev_gf2 rfl rfl HH_land rfl ?_ | refine ev_gf2 rfl rfl HH_draft rfl ?_ | refine ev_gf2 rfl rfl (by with_reducible assumption) rfl ?_)
  refine ev_al2 9 2246 rfl rfl rfl rfl rfl ?_
  refine ev_pf rfl rfl rfl ?_
  repeat (first | refine ev_gos 99 rfl ?_ | refine ev_gf2 rfl rfl rfl rfl ?_ | refine ev_gf2 rfl rfl HH_land rfl ?_ | refine ev_gf2 rfl rfl HH_draft rfl ?_ | refine ev_gf2 rfl rfl (by with_reducible assumption) rfl ?_)
  refine ev_al2 8 2188 rfl rfl rfl rfl rfl ?_
  refine ev_pf rfl rfl rfl ?_
  repeat (first | refine ev_gos 99 rfl ?_ | refine ev_gf2 rfl rfl rfl rfl ?_ | refine ev_gf2 rfl rfl HH_land rfl ?_ | refine ev_gf2 rfl rfl HH_draft rfl ?_ | refine ev_gf2 rfl rfl (by with_reducible assumption) rfl ?_)
  refine ev_al2 7 2139 rfl rfl rfl rfl rfl ?_
  refine ev_pf rfl rfl rfl ?_
  repeat (first | refine ev_gos 99 rfl ?_ | refine ev_gf2 rfl rfl rfl rfl ?_ | refine ev_gf2 rfl rfl HH_land rfl ?_ | refine ev_gf2 rfl rfl HH_draft rfl ?_ | refine ev_gf2 rfl rfl (by with_reducible assumption) rfl ?_)
  refine ev_al2 6 399 rfl rfl rfl rfl rfl ?_
  refine ev_pf rfl rfl rfl ?_
  repeat (first | refine ev_gos 99 rfl ?_ | refine ev_gf2 rfl rfl rfl rfl ?_ | refine ev_gf2 rfl rfl HH_land rfl ?_ | refine ev_gf2 rfl rfl HH_draft rfl ?_ | refine ev_gf2 rfl rfl (by with_reducible assumption) rfl ?_)
  refine ev_al2 5 281 rfl rfl rfl rfl rfl ?_
  refine ev_pf rfl rfl rfl ?_
  repeat (first | refine ev_gos 99 rfl ?_ | refine ev_gf2 rfl rfl rfl rfl ?_ | refine ev_gf2 rfl rfl HH_land rfl ?_ | refine ev_gf2 rfl rfl HH_draft rfl ?_ | refine ev_gf2 rfl rfl (by with_reducible assumption) rfl ?_)
  refine ev_al2 4 279 rfl rfl rfl rfl rfl ?_
  refine ev_pf rfl rfl rfl ?_
  repeat (first | refine ev_gos 99 rfl ?_ | refine ev_gf2 rfl rfl rfl rfl ?_ | refine ev_gf2 rfl rfl HH_land rfl ?_ | refine ev_gf2 rfl rfl HH_draft rfl ?_ | refine ev_gf2 rfl rfl (by with_reducible assumption) rfl ?_)
  refine ev_al2 3 39 rfl rfl rfl rfl rfl ?_
  refine ev_pf rfl rfl rfl ?_
  repeat (first | refine ev_gos 99 rfl ?_ | refine ev_gf2 rfl rfl rfl rfl ?_ | refine ev_gf2 rfl rfl HH_land rfl ?_ | refine ev_gf2 rfl rfl HH_draft rfl ?_ | refine ev_gf2 rfl rfl (by with_reducible assumption) rfl ?_)
  refine ev_pf rfl rfl rfl ?_
  repeat (first | refine ev_gos 99 rfl ?_ | refine ev_gf2 rfl rfl rfl rfl ?_ | refine ev_gf2 rfl rfl HH_land rfl ?_ | refine ev_gf2 rfl rfl HH_draft rfl ?_ | refine ev_gf2 rfl rfl (by with_reducible assumption) rfl ?_)
  refine ev_al2 2 27 rfl rfl rfl rfl rfl ?_
  refine ev_pf rfl rfl rfl ?_
  repeat (first | refine ev_gos 99 rfl ?_ | refine ev_gf2 rfl rfl rfl rfl ?_ | refine ev_gf2 rfl rfl HH_land rfl ?_ | refine ev_gf2 rfl rfl HH_draft rfl ?_ | refine ev_gf2 rfl rfl (by with_reducible assumption) rfl ?_)
  refine ev_al2 1 7 rfl rfl rfl rfl rfl ?_
  refine ev_pf rfl rfl rfl ?_
  repeat (first | refine ev_gos 99 rfl ?_ | refine ev_gf2 rfl rfl rfl rfl ?_ | refine ev_gf2 rfl rfl HH_land rfl ?_ | refine ev_gf2 rfl rfl HH_draft rfl ?_ | refine ev_gf2 rfl rfl (by with_reducible assumption) rfl ?_)
  refine ev_al2 0 0 rfl rfl rfl rfl rfl ?_
  refine ev_pf rfl rfl rfl ?_
  repeat (first | refine ev_gos 99 rfl ?_ | refine ev_gf2 rfl rfl rfl rfl ?_ | refine ev_gf2 rfl rfl HH_land rfl ?_ | refine ev_gf2 rfl rfl HH_draft rfl ?_ | refine ev_gf2 rfl rfl (by with_reducible assumption) rfl ?_)
  refine (?_ : Ek sc _ m_M_init 107 _ [.ref 26] (HH false s0 l0 A0 B0) _ _ _ _)
  refine ev_cv rfl rfl rfl e_mbegins ?_
  exact ev_rv rfl rfl
end INI
