/-! Shelf, Notebook -/
def putS (R : Nat → Int32) (k : Nat) (dn at_ : Nat → Int32) (wd nt : Int32) : Nat → Int32 := upd (upd (va_cpy at_ (va_cpy dn R 0 (k * 58) 49) 0 (k * 58 + 49) 7) (k * 58 + 56) wd) (k * 58 + 57) nt
section SHF
variable {sc : Scr} {d : Nat} {w : Bool} {s : Nat → Int32} {l : Nat → Int64} {A : Nat → Nat → Int32} {B : Nat → Nat → Int64}
theorem cp_ok {sp dp n : Int32} {q : Nat} {S : Stk} {h : AHp} {n0 n1 : Nat} {f g : Nat → Int32} {a b c : Nat} (ha : sp = nI a) (hb : dp = nI b) (hc : n = nI c) (h1 : a + c ≤ n0) (h2 : b + c ≤ n1) (hn0 : n0 < 2 ^ 31) (hn1 : n1 < 2 ^ 31) (hS : catS S ≤ 8) : cpC sp dp n q S h (some (aI n0 f)) (some (aI n1 g)) = some (S, h.set q (aI n1 (va_cpy f g a b c))) := by
  subst ha; subst hb; subst hc
  unfold cpC
  rw [nI_toInt (by omega), nI_toInt (by omega), nI_toInt (by omega), nI_clamp (by omega), nI_clamp (by omega), nI_clamp (by omega)]
  have e1 : Nat.ble (a + c) n0 = true := Nat.ble_eq_true_of_le h1
  have e2 : Nat.ble (b + c) n1 = true := Nat.ble_eq_true_of_le h2
  have e3 : Nat.ble (catS S) 8 = true := Nat.ble_eq_true_of_le hS
  simp [e1, e2, e3]
/-- a copy of a stretch, by the machine's own method -/
theorem ev_cp {sc : Scr} {d M pc nx i b0 : Nat} {v : Value} {L : Lcs} {S : Stk} {h h' : AHp} {r : Option Value} {c n : Nat} {sp dp m : Int32} {p q n0 n1 : Nat} {f g : Nat → Int32} {x y z : Nat} (hc : cAt M pc = some (.invokestatic i, nx, 998, b0, v)) (hp : h[p]? = some (aI n0 f)) (hq : h[q]? = some (aI n1 g)) (ha : sp = nI x) (hb : dp = nI y) (hm : m = nI z) (h1 : x + z ≤ n0) (h2 : y + z ≤ n1) (hn0 : n0 < 2 ^ 31) (hn1 : n1 < 2 ^ 31) (hS : catS S ≤ 8) (k : Ek sc d M nx L S (h.set q (aI n1 (va_cpy f g x y z))) r h' c n) : Ek sc d M pc L (.int m :: .int dp :: .ref q :: .int sp :: .ref p :: S) h r h' c n := by
  refine ev_hw hc rfl ?_ k
  show cpC sp dp m q S h h[p]? h[q]? = _
  rw [hp, hq]
  exact cp_ok ha hb hm h1 h2 hn0 hn1 hS
theorem e_putD {k : Nat} (hk : k < 30) : Ev sc d m_S_put 0 (iniL 4 [.ref 15, .int (nI k), .ref 9]) [] (HH w s l A B) none (HH w s l (upA A 16 (putS (A 16) k (A 10) (A 11) (s 9) (s 10))) B) := by
  repeat (first | refine ev_gos 99 rfl ?_ | refine ev_gf2 rfl rfl rfl rfl ?_ | refine ev_gf2 rfl rfl HH_land rfl ?_ | refine ev_gf2 rfl rfl HH_draft rfl ?_ | refine ev_gf2 rfl rfl (by with_reducible assumption) rfl ?_)
  refine ev_iff rfl rfl rfl (j_lt (nI_pos (by omega))) ?_
  repeat (first | refine ev_gos 99 rfl ?_ | refine ev_gf2 rfl rfl rfl rfl ?_ | refine ev_gf2 rfl rfl HH_land rfl ?_ | refine ev_gf2 rfl rfl HH_draft rfl ?_ | refine ev_gf2 rfl rfl (by with_reducible assumption) rfl ?_)
  refine ev_ift rfl rfl rfl (c_lt ((nI_ltI (by omega) (by decide)).mpr hk : nI k < nI 30)) ?_
  repeat (first | refine ev_gos 99 rfl ?_ | refine ev_gf2 rfl rfl rfl rfl ?_ | refine ev_gf2 rfl rfl HH_land rfl ?_ | refine ev_gf2 rfl rfl HH_draft rfl ?_ | refine ev_gf2 rfl rfl (by with_reducible assumption) rfl ?_)
  have e1 : nI k * 58 = nI (k * 58) := pk_mul k 58
  refine ev_cp (h := HH w s l A B) (p := 10) (q := 16) (n0 := 49) (n1 := 1740) (f := A 10) (g := A 16) (x := 0) (y := k * 58) (z := 49) rfl rfl rfl rfl e1 rfl (by omega) (by omega) (by decide) (by decide) (by decide) ?_
  rw [HA_16]
  repeat (first | refine ev_gos 99 rfl ?_ | refine ev_gf2 rfl rfl rfl rfl ?_ | refine ev_gf2 rfl rfl HH_land rfl ?_ | refine ev_gf2 rfl rfl HH_draft rfl ?_ | refine ev_gf2 rfl rfl (by with_reducible assumption) rfl ?_)
  have e2 : nI k * 58 + 49 = nI (k * 58 + 49) := by rw [e1]; exact nI_add _ 49
  refine ev_cp (p := 11) (q := 16) (n0 := 7) (n1 := 1740) (f := A 11) (g := va_cpy (A 10) (A 16) 0 (k * 58) 49) (x := 0) (y := k * 58 + 49) (z := 7) rfl rfl rfl rfl e2 rfl (by omega) (by omega) (by decide) (by decide) (by decide) ?_
  rw [HA_16, upA_up]
  repeat (first | refine ev_gos 99 rfl ?_ | refine ev_gf2 rfl rfl rfl rfl ?_ | refine ev_gf2 rfl rfl HH_land rfl ?_ | refine ev_gf2 rfl rfl HH_draft rfl ?_ | refine ev_gf2 rfl rfl (by with_reducible assumption) rfl ?_)
  have e3 : nI k * 58 + 58 - 2 = nI (k * 58 + 56) := by rw [e1, show (58 : Int32) = nI 58 from rfl, nI_add, show (2 : Int32) = nI 2 from rfl, pk_sub (by omega)]; congr 1
  have e4 : nI k * 58 + 58 - 1 = nI (k * 58 + 57) := by rw [e1, show (58 : Int32) = nI 58 from rfl, nI_add, show (1 : Int32) = nI 1 from rfl, pk_sub (by omega)]; congr 1
  refine it_16 rfl (by show inB (nI k * 58 + 58 - 2) 1740 = true; rw [e3]; exact inI (by omega) (by decide)) ?_
  repeat (first | refine ev_gos 99 rfl ?_ | refine ev_gf2 rfl rfl rfl rfl ?_ | refine ev_gf2 rfl rfl HH_land rfl ?_ | refine ev_gf2 rfl rfl HH_draft rfl ?_ | refine ev_gf2 rfl rfl (by with_reducible assumption) rfl ?_)
  refine it_16 rfl (by show inB (nI k * 58 + 58 - 1) 1740 = true; rw [e4]; exact inI (by omega) (by decide)) ?_
  refine ev_rv rfl ?_
  show HH w s l (upA A 16 (upd (upd _ (nI k * 58 + 58 - 2).toNatClampNeg _) (nI k * 58 + 58 - 1).toNatClampNeg _)) B = _
  rw [e3, e4, nI_clamp (by omega), nI_clamp (by omega)]
  rfl
theorem e_takeD {k : Nat} (hk : k < 30) : Ev sc d m_S_take 0 (iniL 4 [.ref 15, .int (nI k), .ref 9]) [] (HH w s l A B) none (HH w (upA (upA s 9 (A 16 (k * 58 + 56))) 10 (A 16 (k * 58 + 57))) l (upA (upA A 10 (va_cpy (A 16) (A 10) (k * 58) 0 49)) 11 (va_cpy (A 16) (A 11) (k * 58 + 49) 0 7)) B) := by
  repeat (first | refine ev_gos 99 rfl ?_ | refine ev_gf2 rfl rfl rfl rfl ?_ | refine ev_gf2 rfl rfl HH_land rfl ?_ | refine ev_gf2 rfl rfl HH_draft rfl ?_ | refine ev_gf2 rfl rfl (by with_reducible assumption) rfl ?_)
  refine ev_iff rfl rfl rfl (j_lt (nI_pos (by omega))) ?_
  repeat (first | refine ev_gos 99 rfl ?_ | refine ev_gf2 rfl rfl rfl rfl ?_ | refine ev_gf2 rfl rfl HH_land rfl ?_ | refine ev_gf2 rfl rfl HH_draft rfl ?_ | refine ev_gf2 rfl rfl (by with_reducible assumption) rfl ?_)
  refine ev_ift rfl rfl rfl (c_lt ((nI_ltI (by omega) (by decide)).mpr hk : nI k < nI 30)) ?_
  repeat (first | refine ev_gos 99 rfl ?_ | refine ev_gf2 rfl rfl rfl rfl ?_ | refine ev_gf2 rfl rfl HH_land rfl ?_ | refine ev_gf2 rfl rfl HH_draft rfl ?_ | refine ev_gf2 rfl rfl (by with_reducible assumption) rfl ?_)
  have e1 : nI k * 58 = nI (k * 58) := pk_mul k 58
  refine ev_cp (h := HH w s l A B) (p := 16) (q := 10) (n0 := 1740) (n1 := 49) (f := A 16) (g := A 10) (x := k * 58) (y := 0) (z := 49) rfl rfl rfl e1 rfl rfl (by omega) (by omega) (by decide) (by decide) (by decide) ?_
  rw [HA_10]
  repeat (first | refine ev_gos 99 rfl ?_ | refine ev_gf2 rfl rfl rfl rfl ?_ | refine ev_gf2 rfl rfl HH_land rfl ?_ | refine ev_gf2 rfl rfl HH_draft rfl ?_ | refine ev_gf2 rfl rfl (by with_reducible assumption) rfl ?_)
  have e2 : nI k * 58 + 49 = nI (k * 58 + 49) := by rw [e1]; exact nI_add _ 49
  refine ev_cp (p := 16) (q := 11) (n0 := 1740) (n1 := 7) (f := A 16) (g := A 11) (x := k * 58 + 49) (y := 0) (z := 7) rfl rfl rfl e2 rfl rfl (by omega) (by omega) (by decide) (by decide) (by decide) ?_
  rw [HA_11]
  repeat (first | refine ev_gos 99 rfl ?_ | refine ev_gf2 rfl rfl rfl rfl ?_ | refine ev_gf2 rfl rfl HH_land rfl ?_ | refine ev_gf2 rfl rfl HH_draft rfl ?_ | refine ev_gf2 rfl rfl (by with_reducible assumption) rfl ?_)
  have e3 : nI k * 58 + 58 - 2 = nI (k * 58 + 56) := by rw [e1, show (58 : Int32) = nI 58 from rfl, nI_add, show (2 : Int32) = nI 2 from rfl, pk_sub (by omega)]; congr 1
  have e4 : nI k * 58 + 58 - 1 = nI (k * 58 + 57) := by rw [e1, show (58 : Int32) = nI 58 from rfl, nI_add, show (1 : Int32) = nI 1 from rfl, pk_sub (by omega)]; congr 1
  refine ev_ia rfl rfl (by show inB (nI k * 58 + 58 - 2) 1740 = true; rw [e3]; exact inI (by omega) (by decide)) ?_
  refine pf_F_9 rfl ?_
  repeat (first | refine ev_gos 99 rfl ?_ | refine ev_gf2 rfl rfl rfl rfl ?_ | refine ev_gf2 rfl rfl HH_land rfl ?_ | refine ev_gf2 rfl rfl HH_draft rfl ?_ | refine ev_gf2 rfl rfl (by with_reducible assumption) rfl ?_)
  refine ev_ia rfl rfl (by show inB (nI k * 58 + 58 - 1) 1740 = true; rw [e4]; exact inI (by omega) (by decide)) ?_
  refine pf_F_10 rfl ?_
  refine ev_rv rfl ?_
  show HH w (upA (upA s 9 (A 16 (nI k * 58 + 58 - 2).toNatClampNeg)) 10 (A 16 (nI k * 58 + 58 - 1).toNatClampNeg)) l _ B = _
  rw [e3, e4, nI_clamp (by omega), nI_clamp (by omega)]
theorem e_putI {k : Nat} (hk : k < 2) : Ev sc d m_S_put 0 (iniL 4 [.ref 17, .int (nI k), .ref 9]) [] (HH w s l A B) none (HH w s l (upA A 18 (putS (A 18) k (A 10) (A 11) (s 9) (s 10))) B) := by
  repeat (first | refine ev_gos 99 rfl ?_ | refine ev_gf2 rfl rfl rfl rfl ?_ | refine ev_gf2 rfl rfl HH_land rfl ?_ | refine ev_gf2 rfl rfl HH_draft rfl ?_ | refine ev_gf2 rfl rfl (by with_reducible assumption) rfl ?_)
  refine ev_iff rfl rfl rfl (j_lt (nI_pos (by omega))) ?_
  repeat (first | refine ev_gos 99 rfl ?_ | refine ev_gf2 rfl rfl rfl rfl ?_ | refine ev_gf2 rfl rfl HH_land rfl ?_ | refine ev_gf2 rfl rfl HH_draft rfl ?_ | refine ev_gf2 rfl rfl (by with_reducible assumption) rfl ?_)
  refine ev_ift rfl rfl rfl (c_lt ((nI_ltI (by omega) (by decide)).mpr hk : nI k < nI 2)) ?_
  repeat (first | refine ev_gos 99 rfl ?_ | refine ev_gf2 rfl rfl rfl rfl ?_ | refine ev_gf2 rfl rfl HH_land rfl ?_ | refine ev_gf2 rfl rfl HH_draft rfl ?_ | refine ev_gf2 rfl rfl (by with_reducible assumption) rfl ?_)
  have e1 : nI k * 58 = nI (k * 58) := pk_mul k 58
  refine ev_cp (h := HH w s l A B) (p := 10) (q := 18) (n0 := 49) (n1 := 116) (f := A 10) (g := A 18) (x := 0) (y := k * 58) (z := 49) rfl rfl rfl rfl e1 rfl (by omega) (by omega) (by decide) (by decide) (by decide) ?_
  rw [HA_18]
  repeat (first | refine ev_gos 99 rfl ?_ | refine ev_gf2 rfl rfl rfl rfl ?_ | refine ev_gf2 rfl rfl HH_land rfl ?_ | refine ev_gf2 rfl rfl HH_draft rfl ?_ | refine ev_gf2 rfl rfl (by with_reducible assumption) rfl ?_)
  have e2 : nI k * 58 + 49 = nI (k * 58 + 49) := by rw [e1]; exact nI_add _ 49
  refine ev_cp (p := 11) (q := 18) (n0 := 7) (n1 := 116) (f := A 11) (g := va_cpy (A 10) (A 18) 0 (k * 58) 49) (x := 0) (y := k * 58 + 49) (z := 7) rfl rfl rfl rfl e2 rfl (by omega) (by omega) (by decide) (by decide) (by decide) ?_
  rw [HA_18, upA_up]
  repeat (first | refine ev_gos 99 rfl ?_ | refine ev_gf2 rfl rfl rfl rfl ?_ | refine ev_gf2 rfl rfl HH_land rfl ?_ | refine ev_gf2 rfl rfl HH_draft rfl ?_ | refine ev_gf2 rfl rfl (by with_reducible assumption) rfl ?_)
  have e3 : nI k * 58 + 58 - 2 = nI (k * 58 + 56) := by rw [e1, show (58 : Int32) = nI 58 from rfl, nI_add, show (2 : Int32) = nI 2 from rfl, pk_sub (by omega)]; congr 1
  have e4 : nI k * 58 + 58 - 1 = nI (k * 58 + 57) := by rw [e1, show (58 : Int32) = nI 58 from rfl, nI_add, show (1 : Int32) = nI 1 from rfl, pk_sub (by omega)]; congr 1
  refine it_18 rfl (by show inB (nI k * 58 + 58 - 2) 116 = true; rw [e3]; exact inI (by omega) (by decide)) ?_
  repeat (first | refine ev_gos 99 rfl ?_ | refine ev_gf2 rfl rfl rfl rfl ?_ | refine ev_gf2 rfl rfl HH_land rfl ?_ | refine ev_gf2 rfl rfl HH_draft rfl ?_ | refine ev_gf2 rfl rfl (by with_reducible assumption) rfl ?_)
  refine it_18 rfl (by show inB (nI k * 58 + 58 - 1) 116 = true; rw [e4]; exact inI (by omega) (by decide)) ?_
  refine ev_rv rfl ?_
  show HH w s l (upA A 18 (upd (upd _ (nI k * 58 + 58 - 2).toNatClampNeg _) (nI k * 58 + 58 - 1).toNatClampNeg _)) B = _
  rw [e3, e4, nI_clamp (by omega), nI_clamp (by omega)]
  rfl
theorem e_takeI {k : Nat} (hk : k < 2) : Ev sc d m_S_take 0 (iniL 4 [.ref 17, .int (nI k), .ref 9]) [] (HH w s l A B) none (HH w (upA (upA s 9 (A 18 (k * 58 + 56))) 10 (A 18 (k * 58 + 57))) l (upA (upA A 10 (va_cpy (A 18) (A 10) (k * 58) 0 49)) 11 (va_cpy (A 18) (A 11) (k * 58 + 49) 0 7)) B) := by
  repeat (first | refine ev_gos 99 rfl ?_ | refine ev_gf2 rfl rfl rfl rfl ?_ | refine ev_gf2 rfl rfl HH_land rfl ?_ | refine ev_gf2 rfl rfl HH_draft rfl ?_ | refine ev_gf2 rfl rfl (by with_reducible assumption) rfl ?_)
  refine ev_iff rfl rfl rfl (j_lt (nI_pos (by omega))) ?_
  repeat (first | refine ev_gos 99 rfl ?_ | refine ev_gf2 rfl rfl rfl rfl ?_ | refine ev_gf2 rfl rfl HH_land rfl ?_ | refine ev_gf2 rfl rfl HH_draft rfl ?_ | refine ev_gf2 rfl rfl (by with_reducible assumption) rfl ?_)
  refine ev_ift rfl rfl rfl (c_lt ((nI_ltI (by omega) (by decide)).mpr hk : nI k < nI 2)) ?_
  repeat (first | refine ev_gos 99 rfl ?_ | refine ev_gf2 rfl rfl rfl rfl ?_ | refine ev_gf2 rfl rfl HH_land rfl ?_ | refine ev_gf2 rfl rfl HH_draft rfl ?_ | refine ev_gf2 rfl rfl (by with_reducible assumption) rfl ?_)
  have e1 : nI k * 58 = nI (k * 58) := pk_mul k 58
  refine ev_cp (h := HH w s l A B) (p := 18) (q := 10) (n0 := 116) (n1 := 49) (f := A 18) (g := A 10) (x := k * 58) (y := 0) (z := 49) rfl rfl rfl e1 rfl rfl (by omega) (by omega) (by decide) (by decide) (by decide) ?_
  rw [HA_10]
  repeat (first | refine ev_gos 99 rfl ?_ | refine ev_gf2 rfl rfl rfl rfl ?_ | refine ev_gf2 rfl rfl HH_land rfl ?_ | refine ev_gf2 rfl rfl HH_draft rfl ?_ | refine ev_gf2 rfl rfl (by with_reducible assumption) rfl ?_)
  have e2 : nI k * 58 + 49 = nI (k * 58 + 49) := by rw [e1]; exact nI_add _ 49
  refine ev_cp (p := 18) (q := 11) (n0 := 116) (n1 := 7) (f := A 18) (g := A 11) (x := k * 58 + 49) (y := 0) (z := 7) rfl rfl rfl e2 rfl rfl (by omega) (by omega) (by decide) (by decide) (by decide) ?_
  rw [HA_11]
  repeat (first | refine ev_gos 99 rfl ?_ | refine ev_gf2 rfl rfl rfl rfl ?_ | refine ev_gf2 rfl rfl HH_land rfl ?_ | refine ev_gf2 rfl rfl HH_draft rfl ?_ | refine ev_gf2 rfl rfl (by with_reducible assumption) rfl ?_)
  have e3 : nI k * 58 + 58 - 2 = nI (k * 58 + 56) := by rw [e1, show (58 : Int32) = nI 58 from rfl, nI_add, show (2 : Int32) = nI 2 from rfl, pk_sub (by omega)]; congr 1
  have e4 : nI k * 58 + 58 - 1 = nI (k * 58 + 57) := by rw [e1, show (58 : Int32) = nI 58 from rfl, nI_add, show (1 : Int32) = nI 1 from rfl, pk_sub (by omega)]; congr 1
  refine ev_ia rfl rfl (by show inB (nI k * 58 + 58 - 2) 116 = true; rw [e3]; exact inI (by omega) (by decide)) ?_
  refine pf_F_9 rfl ?_
  repeat (first | refine ev_gos 99 rfl ?_ | refine ev_gf2 rfl rfl rfl rfl ?_ | refine ev_gf2 rfl rfl HH_land rfl ?_ | refine ev_gf2 rfl rfl HH_draft rfl ?_ | refine ev_gf2 rfl rfl (by with_reducible assumption) rfl ?_)
  refine ev_ia rfl rfl (by show inB (nI k * 58 + 58 - 1) 116 = true; rw [e4]; exact inI (by omega) (by decide)) ?_
  refine pf_F_10 rfl ?_
  refine ev_rv rfl ?_
  show HH w (upA (upA s 9 (A 18 (nI k * 58 + 58 - 2).toNatClampNeg)) 10 (A 18 (nI k * 58 + 58 - 1).toNatClampNeg)) l _ B = _
  rw [e3, e4, nI_clamp (by omega), nI_clamp (by omega)]
theorem e_nempty : Ev sc d m_N_empty 0 (iniL 1 [.ref 21]) [] (HH w s l A B) none (HH w (upA (upA s 13 0) 14 0) l A B) := by
  repeat (first | refine ev_gos 99 rfl ?_ | refine ev_gf2 rfl rfl rfl rfl ?_ | refine ev_gf2 rfl rfl HH_land rfl ?_ | refine ev_gf2 rfl rfl HH_draft rfl ?_ | refine ev_gf2 rfl rfl (by with_reducible assumption) rfl ?_)
  refine pf_N_13 rfl ?_
  repeat (first | refine ev_gos 99 rfl ?_ | refine ev_gf2 rfl rfl rfl rfl ?_ | refine ev_gf2 rfl rfl HH_land rfl ?_ | refine ev_gf2 rfl rfl HH_draft rfl ?_ | refine ev_gf2 rfl rfl (by with_reducible assumption) rfl ?_)
  refine pf_N_14 rfl ?_
  exact ev_rv rfl rfl
theorem e_addFound {k : Nat} (hk : k ≤ 6) (hs : s 13 = nI k) (x : Int32) (b : Bool) : Ev sc d m_N_addFound 0 (iniL 3 [.ref 21, .int x, .int (b01 b)]) [] (HH w s l A B) (some (.int (if k < 6 then nI (k + 1) else -1000000004))) (if k < 6 then HH w (upA s 13 (nI (k + 1))) l (upA (upA A 22 (upd (A 22) k x)) 23 (upd (A 23) k (b01 b))) B else HH w s l A B) := by
  repeat (first | refine ev_gos 99 rfl ?_ | refine ev_gf2 rfl rfl rfl rfl ?_ | refine ev_gf2 rfl rfl HH_land rfl ?_ | refine ev_gf2 rfl rfl HH_draft rfl ?_ | refine ev_gf2 rfl rfl (by with_reducible assumption) rfl ?_)
  by_cases h6 : k < 6
  · refine ev_ift rfl rfl rfl (c_lt (by rw [hs]; exact (nI_ltI (by omega) (by decide)).mpr h6 : s 13 < nI 6)) ?_
    repeat (first | refine ev_gos 99 rfl ?_ | refine ev_gf2 rfl rfl rfl rfl ?_ | refine ev_gf2 rfl rfl HH_land rfl ?_ | refine ev_gf2 rfl rfl HH_draft rfl ?_ | refine ev_gf2 rfl rfl (by with_reducible assumption) rfl ?_)
    refine is_22 rfl (by rw [hs]; exact inI h6 (by decide)) ?_
    repeat (first | refine ev_gos 99 rfl ?_ | refine ev_gf2 rfl rfl rfl rfl ?_ | refine ev_gf2 rfl rfl HH_land rfl ?_ | refine ev_gf2 rfl rfl HH_draft rfl ?_ | refine ev_gf2 rfl rfl (by with_reducible assumption) rfl ?_)
    refine is_23 rfl (by rw [hs]; exact inI h6 (by decide)) ?_
    repeat (first | refine ev_gos 99 rfl ?_ | refine ev_gf2 rfl rfl rfl rfl ?_ | refine ev_gf2 rfl rfl HH_land rfl ?_ | refine ev_gf2 rfl rfl HH_draft rfl ?_ | refine ev_gf2 rfl rfl (by with_reducible assumption) rfl ?_)
    refine pf_N_13 rfl ?_
    repeat (first | refine ev_gos 99 rfl ?_ | refine ev_gf2 rfl rfl rfl rfl ?_ | refine ev_gf2 rfl rfl HH_land rfl ?_ | refine ev_gf2 rfl rfl HH_draft rfl ?_ | refine ev_gf2 rfl rfl (by with_reducible assumption) rfl ?_)
    rw [if_pos h6, if_pos h6]
    have e1 : s 13 + 1 = nI (k + 1) := by rw [hs, nI_1]
    have e2 : vp_nar .boolean (b01 b) = b01 b := by cases b <;> rfl
    refine ev_ri rfl e1 ?_
    show HH w (upA s 13 (s 13 + 1)) l (upA (upA A 22 (upd (A 22) (s 13).toNatClampNeg x)) 23 (upd (A 23) (s 13).toNatClampNeg (vp_nar .boolean (b01 b)))) B = _
    rw [e1, e2, hs, nI_clamp (by omega)]
  · refine ev_iff rfl rfl rfl (d_lt (by rw [hs]; exact fun z => h6 ((nI_ltI (by omega) (by decide)).mp z) : ¬ s 13 < nI 6)) ?_
    repeat (first | refine ev_gos 99 rfl ?_ | refine ev_gf2 rfl rfl rfl rfl ?_ | refine ev_gf2 rfl rfl HH_land rfl ?_ | refine ev_gf2 rfl rfl HH_draft rfl ?_ | refine ev_gf2 rfl rfl (by with_reducible assumption) rfl ?_)
    rw [if_neg h6, if_neg h6]
    exact ev_ri rfl rfl rfl
theorem e_addEntry {k : Nat} (hk : k ≤ 20) (hs : s 14 = nI k) (x : Int32) : Ev sc d m_N_addEntry 0 (iniL 2 [.ref 21, .int x]) [] (HH w s l A B) (some (.int (if k < 20 then nI (k + 1) else -1000000004))) (if k < 20 then HH w (upA s 14 (nI (k + 1))) l (upA A 24 (upd (A 24) k x)) B else HH w s l A B) := by
  repeat (first | refine ev_gos 99 rfl ?_ | refine ev_gf2 rfl rfl rfl rfl ?_ | refine ev_gf2 rfl rfl HH_land rfl ?_ | refine ev_gf2 rfl rfl HH_draft rfl ?_ | refine ev_gf2 rfl rfl (by with_reducible assumption) rfl ?_)
  by_cases h6 : k < 20
  · refine ev_ift rfl rfl rfl (c_lt (by rw [hs]; exact (nI_ltI (by omega) (by decide)).mpr h6 : s 14 < nI 20)) ?_
    repeat (first | refine ev_gos 99 rfl ?_ | refine ev_gf2 rfl rfl rfl rfl ?_ | refine ev_gf2 rfl rfl HH_land rfl ?_ | refine ev_gf2 rfl rfl HH_draft rfl ?_ | refine ev_gf2 rfl rfl (by with_reducible assumption) rfl ?_)
    refine is_24 rfl (by rw [hs]; exact inI h6 (by decide)) ?_
    repeat (first | refine ev_gos 99 rfl ?_ | refine ev_gf2 rfl rfl rfl rfl ?_ | refine ev_gf2 rfl rfl HH_land rfl ?_ | refine ev_gf2 rfl rfl HH_draft rfl ?_ | refine ev_gf2 rfl rfl (by with_reducible assumption) rfl ?_)
    refine pf_N_14 rfl ?_
    repeat (first | refine ev_gos 99 rfl ?_ | refine ev_gf2 rfl rfl rfl rfl ?_ | refine ev_gf2 rfl rfl HH_land rfl ?_ | refine ev_gf2 rfl rfl HH_draft rfl ?_ | refine ev_gf2 rfl rfl (by with_reducible assumption) rfl ?_)
    rw [if_pos h6, if_pos h6]
    have e1 : s 14 + 1 = nI (k + 1) := by rw [hs, nI_1]
    refine ev_ri rfl e1 ?_
    show HH w (upA s 14 (s 14 + 1)) l (upA A 24 (upd (A 24) (s 14).toNatClampNeg x)) B = _
    rw [e1, hs, nI_clamp (by omega)]
  · refine ev_iff rfl rfl rfl (d_lt (by rw [hs]; exact fun z => h6 ((nI_ltI (by omega) (by decide)).mp z) : ¬ s 14 < nI 20)) ?_
    repeat (first | refine ev_gos 99 rfl ?_ | refine ev_gf2 rfl rfl rfl rfl ?_ | refine ev_gf2 rfl rfl HH_land rfl ?_ | refine ev_gf2 rfl rfl HH_draft rfl ?_ | refine ev_gf2 rfl rfl (by with_reducible assumption) rfl ?_)
    rw [if_neg h6, if_neg h6]
    exact ev_ri rfl rfl rfl
end SHF
