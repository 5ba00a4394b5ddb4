/-! the cells of both objects as one list, by role: s the ints, l the longs, A the arrays of ints by place, B the arrays of longs; w tells which of two cells the land is -/
abbrev oI (ci : Nat) (fs : List Value) : ACell := .inr (ci, fs)
abbrev aI (n : Nat) (f : Nat → Int32) : ACell := .inl (0, n, .inl f)
abbrev aJ (n : Nat) (f : Nat → Int64) : ACell := .inl (1, n, .inr (.inl f))
abbrev aZ (n : Nat) (f : Nat → Int32) : ACell := .inl (2, n, .inl f)
def wL (w : Bool) : Nat := bif w then 6 else 3
def wK (w : Bool) : Nat := bif w then 7 else 4
def wS (w : Bool) : Nat := bif w then 8 else 5
def upA {α : Type} (A : Nat → α) (p : Nat) (f : α) : Nat → α := fun q => bif Nat.beq q p then f else A q
abbrev St : Type := (Nat → Int32) × (Nat → Int64) × (Nat → Nat → Int32) × (Nat → Nat → Int64)
def landC (s0 : Nat) (l0 : Nat) (pk ps : Nat) (s : Nat → Int32) (l : Nat → Int64) : ACell := oI 1 [.int (s s0), .int (s (s0 + 1)), .int (s (s0 + 2)), .int (s (s0 + 3)), .long (l l0), .long (l (l0 + 1)), .long (l (l0 + 2)), .long (l (l0 + 3)), .ref pk, .ref ps]
def HH (w : Bool) (s : Nat → Int32) (l : Nat → Int64) (A : Nat → Nat → Int32) (B : Nat → Nat → Int64) : AHp := [
  oI 5 [.ref 1, .ref (wL w), .ref (wL (!w)), .ref 9, .ref 12, .ref 15, .int (s 6), .int (s 7), .ref 17, .ref 19, .ref 20, .ref 21, .ref 25, .int (s 8)],
  oI 3 [.ref 2, .int (s 0), .int (s 1), .int (s 2), .int (s 3), .int (s 4), .int (s 5)],
  aI 240 (A 2),
  bif w then landC 19 4 (wK (!w)) (wS (!w)) s l else landC 15 0 (wK w) (wS w) s l,
  bif w then aI 7 (A 7) else aI 7 (A 4),
  bif w then aJ 245 (B 8) else aJ 245 (B 5),
  bif w then landC 15 0 (wK w) (wS w) s l else landC 19 4 (wK (!w)) (wS (!w)) s l,
  bif w then aI 7 (A 4) else aI 7 (A 7),
  bif w then aJ 245 (B 5) else aJ 245 (B 8),
  oI 0 [.ref 10, .ref 11, .int (s 9), .int (s 10)],
  aI 49 (A 10),
  aI 7 (A 11),
  oI 0 [.ref 13, .ref 14, .int (s 11), .int (s 12)],
  aI 49 (A 13),
  aI 7 (A 14),
  oI 4 [.int 30, .ref 16],
  aI 1740 (A 16),
  oI 4 [.int 2, .ref 18],
  aI 116 (A 18),
  aI 2 (A 19),
  aZ 2 (A 20),
  oI 2 [.ref 22, .ref 23, .ref 24, .int (s 13), .int (s 14)],
  aI 6 (A 22),
  aZ 6 (A 23),
  aI 20 (A 24),
  aI 49 (A 25),
  oI 6 [.ref 27, .ref 28, .ref 29, .ref 30, .ref 31, .ref 32, .int (s 23), .ref 33, .ref 34, .long (l 8), .ref 35, .int (s 24), .int (s 25), .ref 36, .int (s 26), .ref 37, .int (s 27), .int (s 28), .int (s 29), .int (s 30), .int (s 31), .int (s 32), .int (s 33), .ref 38],
  aI 21 (A 27),
  aI 21 (A 28),
  aI 58 (A 29),
  aI 58 (A 30),
  aI 49 (A 31),
  aI 1740 (A 32),
  aI 118 (A 33),
  aZ 2 (A 34),
  aI 240 (A 35),
  aI 12 (A 36),
  aI 20 (A 37),
  aI 7 (A 38)]
section HHS
variable {w : Bool} {s : Nat → Int32} {l : Nat → Int64} {A : Nat → Nat → Int32} {B : Nat → Nat → Int64}
theorem HH_land : (HH w s l A B)[wL w]? = some (landC 15 0 (wK w) (wS w) s l) := by cases w <;> rfl
theorem HH_draft : (HH w s l A B)[wL (!w)]? = some (landC 19 4 (wK (!w)) (wS (!w)) s l) := by cases w <;> rfl
theorem HH_kinds : (HH w s l A B)[wK w]? = some (aI 7 (A 4)) := by cases w <;> rfl
theorem HH_dkinds : (HH w s l A B)[wK (!w)]? = some (aI 7 (A 7)) := by cases w <;> rfl
theorem HH_shapes : (HH w s l A B)[wS w]? = some (aJ 245 (B 5)) := by cases w <;> rfl
theorem HH_dshapes : (HH w s l A B)[wS (!w)]? = some (aJ 245 (B 8)) := by cases w <;> rfl
theorem HA_2 (f : Nat → Int32) : (HH w s l A B).set 2 (aI 240 f) = HH w s l (upA A 2 f) B := rfl
theorem HA_10 (f : Nat → Int32) : (HH w s l A B).set 10 (aI 49 f) = HH w s l (upA A 10 f) B := rfl
theorem HA_11 (f : Nat → Int32) : (HH w s l A B).set 11 (aI 7 f) = HH w s l (upA A 11 f) B := rfl
theorem HA_13 (f : Nat → Int32) : (HH w s l A B).set 13 (aI 49 f) = HH w s l (upA A 13 f) B := rfl
theorem HA_14 (f : Nat → Int32) : (HH w s l A B).set 14 (aI 7 f) = HH w s l (upA A 14 f) B := rfl
theorem HA_16 (f : Nat → Int32) : (HH w s l A B).set 16 (aI 1740 f) = HH w s l (upA A 16 f) B := rfl
theorem HA_18 (f : Nat → Int32) : (HH w s l A B).set 18 (aI 116 f) = HH w s l (upA A 18 f) B := rfl
theorem HA_19 (f : Nat → Int32) : (HH w s l A B).set 19 (aI 2 f) = HH w s l (upA A 19 f) B := rfl
theorem HA_22 (f : Nat → Int32) : (HH w s l A B).set 22 (aI 6 f) = HH w s l (upA A 22 f) B := rfl
theorem HA_24 (f : Nat → Int32) : (HH w s l A B).set 24 (aI 20 f) = HH w s l (upA A 24 f) B := rfl
theorem HA_25 (f : Nat → Int32) : (HH w s l A B).set 25 (aI 49 f) = HH w s l (upA A 25 f) B := rfl
theorem HA_27 (f : Nat → Int32) : (HH w s l A B).set 27 (aI 21 f) = HH w s l (upA A 27 f) B := rfl
theorem HA_28 (f : Nat → Int32) : (HH w s l A B).set 28 (aI 21 f) = HH w s l (upA A 28 f) B := rfl
theorem HA_29 (f : Nat → Int32) : (HH w s l A B).set 29 (aI 58 f) = HH w s l (upA A 29 f) B := rfl
theorem HA_30 (f : Nat → Int32) : (HH w s l A B).set 30 (aI 58 f) = HH w s l (upA A 30 f) B := rfl
theorem HA_31 (f : Nat → Int32) : (HH w s l A B).set 31 (aI 49 f) = HH w s l (upA A 31 f) B := rfl
theorem HA_32 (f : Nat → Int32) : (HH w s l A B).set 32 (aI 1740 f) = HH w s l (upA A 32 f) B := rfl
theorem HA_33 (f : Nat → Int32) : (HH w s l A B).set 33 (aI 118 f) = HH w s l (upA A 33 f) B := rfl
theorem HA_35 (f : Nat → Int32) : (HH w s l A B).set 35 (aI 240 f) = HH w s l (upA A 35 f) B := rfl
theorem HA_36 (f : Nat → Int32) : (HH w s l A B).set 36 (aI 12 f) = HH w s l (upA A 36 f) B := rfl
theorem HA_37 (f : Nat → Int32) : (HH w s l A B).set 37 (aI 20 f) = HH w s l (upA A 37 f) B := rfl
theorem HA_38 (f : Nat → Int32) : (HH w s l A B).set 38 (aI 7 f) = HH w s l (upA A 38 f) B := rfl
theorem HA_20 (f : Nat → Int32) : (HH w s l A B).set 20 (aZ 2 f) = HH w s l (upA A 20 f) B := rfl
theorem HA_23 (f : Nat → Int32) : (HH w s l A B).set 23 (aZ 6 f) = HH w s l (upA A 23 f) B := rfl
theorem HA_34 (f : Nat → Int32) : (HH w s l A B).set 34 (aZ 2 f) = HH w s l (upA A 34 f) B := rfl
theorem HA_dk (f : Nat → Int32) : (HH w s l A B).set (wK (!w)) (aI 7 f) = HH w s l (upA A 7 f) B := by cases w <;> rfl
theorem HA_ds (f : Nat → Int64) : (HH w s l A B).set (wS (!w)) (aJ 245 f) = HH w s l A (upA B 8 f) := by cases w <;> rfl
end HHS
theorem upA_id {α : Type} (A : Nat → α) (p : Nat) : upA A p (A p) = A := by
  funext q
  unfold upA
  cases hq : Nat.beq q p with
  | false => rfl
  | true => rw [Nat.eq_of_beq_eq_true hq]; rfl
theorem upA_up {α : Type} (A : Nat → α) (p : Nat) (f g : α) : upA (upA A p f) p g = upA A p g := by
  funext q
  unfold upA
  cases hq : Nat.beq q p <;> rfl
theorem upA_at {α : Type} (A : Nat → α) (p : Nat) (f : α) : upA A p f p = f := by
  unfold upA
  rw [Nat.beq_refl]
  rfl
section HHR
variable {sc : Scr} {d M pc nx i : Nat} {v : Value} {L : Lcs} {S : Stk} {h' : AHp} {r : Option Value} {c n : Nat}
variable {w : Bool} {s : Nat → Int32} {l : Nat → Int64} {A : Nat → Nat → Int32} {B : Nat → Nat → Int64}
theorem pf_C_6 {x : Int32} (hc : cAt M pc = some (.putfield i, nx, 5, 6, v)) (k : Ek sc d M nx L S (HH w (upA s 6 x) l A B) r h' c n) : Ek sc d M pc L (.int x :: .ref 0 :: S) (HH w s l A B) r h' c n := ev_pf hc rfl rfl k
theorem pf_C_7 {x : Int32} (hc : cAt M pc = some (.putfield i, nx, 5, 7, v)) (k : Ek sc d M nx L S (HH w (upA s 7 x) l A B) r h' c n) : Ek sc d M pc L (.int x :: .ref 0 :: S) (HH w s l A B) r h' c n := ev_pf hc rfl rfl k
theorem pf_C_8 {x : Int32} (hc : cAt M pc = some (.putfield i, nx, 5, 13, v)) (k : Ek sc d M nx L S (HH w (upA s 8 x) l A B) r h' c n) : Ek sc d M pc L (.int x :: .ref 0 :: S) (HH w s l A B) r h' c n := ev_pf hc rfl rfl k
theorem pf_R_0 {x : Int32} (hc : cAt M pc = some (.putfield i, nx, 3, 1, v)) (k : Ek sc d M nx L S (HH w (upA s 0 x) l A B) r h' c n) : Ek sc d M pc L (.int x :: .ref 1 :: S) (HH w s l A B) r h' c n := ev_pf hc rfl rfl k
theorem pf_R_1 {x : Int32} (hc : cAt M pc = some (.putfield i, nx, 3, 2, v)) (k : Ek sc d M nx L S (HH w (upA s 1 x) l A B) r h' c n) : Ek sc d M pc L (.int x :: .ref 1 :: S) (HH w s l A B) r h' c n := ev_pf hc rfl rfl k
theorem pf_R_2 {x : Int32} (hc : cAt M pc = some (.putfield i, nx, 3, 3, v)) (k : Ek sc d M nx L S (HH w (upA s 2 x) l A B) r h' c n) : Ek sc d M pc L (.int x :: .ref 1 :: S) (HH w s l A B) r h' c n := ev_pf hc rfl rfl k
theorem pf_R_3 {x : Int32} (hc : cAt M pc = some (.putfield i, nx, 3, 4, v)) (k : Ek sc d M nx L S (HH w (upA s 3 x) l A B) r h' c n) : Ek sc d M pc L (.int x :: .ref 1 :: S) (HH w s l A B) r h' c n := ev_pf hc rfl rfl k
theorem pf_R_4 {x : Int32} (hc : cAt M pc = some (.putfield i, nx, 3, 5, v)) (k : Ek sc d M nx L S (HH w (upA s 4 x) l A B) r h' c n) : Ek sc d M pc L (.int x :: .ref 1 :: S) (HH w s l A B) r h' c n := ev_pf hc rfl rfl k
theorem pf_R_5 {x : Int32} (hx : x = 0 ∨ x = 1) (hc : cAt M pc = some (.putfield i, nx, 3, 6, v)) (k : Ek sc d M nx L S (HH w (upA s 5 x) l A B) r h' c n) : Ek sc d M pc L (.int x :: .ref 1 :: S) (HH w s l A B) r h' c n := ev_pf hc rfl (by rcases hx with rfl | rfl <;> rfl) k
theorem pf_F_9 {x : Int32} (hc : cAt M pc = some (.putfield i, nx, 0, 2, v)) (k : Ek sc d M nx L S (HH w (upA s 9 x) l A B) r h' c n) : Ek sc d M pc L (.int x :: .ref 9 :: S) (HH w s l A B) r h' c n := ev_pf hc rfl rfl k
theorem pf_F_10 {x : Int32} (hc : cAt M pc = some (.putfield i, nx, 0, 3, v)) (k : Ek sc d M nx L S (HH w (upA s 10 x) l A B) r h' c n) : Ek sc d M pc L (.int x :: .ref 9 :: S) (HH w s l A B) r h' c n := ev_pf hc rfl rfl k
theorem pf_T_11 {x : Int32} (hc : cAt M pc = some (.putfield i, nx, 0, 2, v)) (k : Ek sc d M nx L S (HH w (upA s 11 x) l A B) r h' c n) : Ek sc d M pc L (.int x :: .ref 12 :: S) (HH w s l A B) r h' c n := ev_pf hc rfl rfl k
theorem pf_T_12 {x : Int32} (hc : cAt M pc = some (.putfield i, nx, 0, 3, v)) (k : Ek sc d M nx L S (HH w (upA s 12 x) l A B) r h' c n) : Ek sc d M pc L (.int x :: .ref 12 :: S) (HH w s l A B) r h' c n := ev_pf hc rfl rfl k
theorem pf_N_13 {x : Int32} (hc : cAt M pc = some (.putfield i, nx, 2, 3, v)) (k : Ek sc d M nx L S (HH w (upA s 13 x) l A B) r h' c n) : Ek sc d M pc L (.int x :: .ref 21 :: S) (HH w s l A B) r h' c n := ev_pf hc rfl rfl k
theorem pf_N_14 {x : Int32} (hc : cAt M pc = some (.putfield i, nx, 2, 4, v)) (k : Ek sc d M nx L S (HH w (upA s 14 x) l A B) r h' c n) : Ek sc d M pc L (.int x :: .ref 21 :: S) (HH w s l A B) r h' c n := ev_pf hc rfl rfl k
theorem pf_M_23 {x : Int32} (hc : cAt M pc = some (.putfield i, nx, 6, 6, v)) (k : Ek sc d M nx L S (HH w (upA s 23 x) l A B) r h' c n) : Ek sc d M pc L (.int x :: .ref 26 :: S) (HH w s l A B) r h' c n := ev_pf hc rfl rfl k
theorem pf_M_l8 {x : Int64} (hc : cAt M pc = some (.putfield i, nx, 6, 9, v)) (k : Ek sc d M nx L S (HH w s (upA l 8 x) A B) r h' c n) : Ek sc d M pc L (.long x :: .ref 26 :: S) (HH w s l A B) r h' c n := ev_pf hc rfl rfl k
theorem pf_M_24 {x : Int32} (hc : cAt M pc = some (.putfield i, nx, 6, 11, v)) (k : Ek sc d M nx L S (HH w (upA s 24 x) l A B) r h' c n) : Ek sc d M pc L (.int x :: .ref 26 :: S) (HH w s l A B) r h' c n := ev_pf hc rfl rfl k
theorem pf_M_25 {x : Int32} (hc : cAt M pc = some (.putfield i, nx, 6, 12, v)) (k : Ek sc d M nx L S (HH w (upA s 25 x) l A B) r h' c n) : Ek sc d M pc L (.int x :: .ref 26 :: S) (HH w s l A B) r h' c n := ev_pf hc rfl rfl k
theorem pf_M_26 {x : Int32} (hc : cAt M pc = some (.putfield i, nx, 6, 14, v)) (k : Ek sc d M nx L S (HH w (upA s 26 x) l A B) r h' c n) : Ek sc d M pc L (.int x :: .ref 26 :: S) (HH w s l A B) r h' c n := ev_pf hc rfl rfl k
theorem pf_M_27 {x : Int32} (hc : cAt M pc = some (.putfield i, nx, 6, 16, v)) (k : Ek sc d M nx L S (HH w (upA s 27 x) l A B) r h' c n) : Ek sc d M pc L (.int x :: .ref 26 :: S) (HH w s l A B) r h' c n := ev_pf hc rfl rfl k
theorem pf_M_28 {x : Int32} (hc : cAt M pc = some (.putfield i, nx, 6, 17, v)) (k : Ek sc d M nx L S (HH w (upA s 28 x) l A B) r h' c n) : Ek sc d M pc L (.int x :: .ref 26 :: S) (HH w s l A B) r h' c n := ev_pf hc rfl rfl k
theorem pf_M_29 {x : Int32} (hc : cAt M pc = some (.putfield i, nx, 6, 18, v)) (k : Ek sc d M nx L S (HH w (upA s 29 x) l A B) r h' c n) : Ek sc d M pc L (.int x :: .ref 26 :: S) (HH w s l A B) r h' c n := ev_pf hc rfl rfl k
theorem pf_M_30 {x : Int32} (hc : cAt M pc = some (.putfield i, nx, 6, 19, v)) (k : Ek sc d M nx L S (HH w (upA s 30 x) l A B) r h' c n) : Ek sc d M pc L (.int x :: .ref 26 :: S) (HH w s l A B) r h' c n := ev_pf hc rfl rfl k
theorem pf_M_31 {x : Int32} (hc : cAt M pc = some (.putfield i, nx, 6, 20, v)) (k : Ek sc d M nx L S (HH w (upA s 31 x) l A B) r h' c n) : Ek sc d M pc L (.int x :: .ref 26 :: S) (HH w s l A B) r h' c n := ev_pf hc rfl rfl k
theorem pf_M_32 {x : Int32} (hc : cAt M pc = some (.putfield i, nx, 6, 21, v)) (k : Ek sc d M nx L S (HH w (upA s 32 x) l A B) r h' c n) : Ek sc d M pc L (.int x :: .ref 26 :: S) (HH w s l A B) r h' c n := ev_pf hc rfl rfl k
theorem pf_M_33 {x : Int32} (hc : cAt M pc = some (.putfield i, nx, 6, 22, v)) (k : Ek sc d M nx L S (HH w (upA s 33 x) l A B) r h' c n) : Ek sc d M pc L (.int x :: .ref 26 :: S) (HH w s l A B) r h' c n := ev_pf hc rfl rfl k
theorem is_2 {j x : Int32} {a b : Nat} (hc : cAt M pc = some (.iastore, nx, a, b, v)) (hi : inB j 240 = true) (k : Ek sc d M nx L S (HH w s l (upA A 2 (upd (A 2) j.toNatClampNeg x)) B) r h' c n) : Ek sc d M pc L (.int x :: .int j :: .ref 2 :: S) (HH w s l A B) r h' c n := ev_is hc rfl hi k
theorem is_10 {j x : Int32} {a b : Nat} (hc : cAt M pc = some (.iastore, nx, a, b, v)) (hi : inB j 49 = true) (k : Ek sc d M nx L S (HH w s l (upA A 10 (upd (A 10) j.toNatClampNeg x)) B) r h' c n) : Ek sc d M pc L (.int x :: .int j :: .ref 10 :: S) (HH w s l A B) r h' c n := ev_is hc rfl hi k
theorem is_11 {j x : Int32} {a b : Nat} (hc : cAt M pc = some (.iastore, nx, a, b, v)) (hi : inB j 7 = true) (k : Ek sc d M nx L S (HH w s l (upA A 11 (upd (A 11) j.toNatClampNeg x)) B) r h' c n) : Ek sc d M pc L (.int x :: .int j :: .ref 11 :: S) (HH w s l A B) r h' c n := ev_is hc rfl hi k
theorem is_13 {j x : Int32} {a b : Nat} (hc : cAt M pc = some (.iastore, nx, a, b, v)) (hi : inB j 49 = true) (k : Ek sc d M nx L S (HH w s l (upA A 13 (upd (A 13) j.toNatClampNeg x)) B) r h' c n) : Ek sc d M pc L (.int x :: .int j :: .ref 13 :: S) (HH w s l A B) r h' c n := ev_is hc rfl hi k
theorem is_14 {j x : Int32} {a b : Nat} (hc : cAt M pc = some (.iastore, nx, a, b, v)) (hi : inB j 7 = true) (k : Ek sc d M nx L S (HH w s l (upA A 14 (upd (A 14) j.toNatClampNeg x)) B) r h' c n) : Ek sc d M pc L (.int x :: .int j :: .ref 14 :: S) (HH w s l A B) r h' c n := ev_is hc rfl hi k
theorem is_16 {j x : Int32} {a b : Nat} (hc : cAt M pc = some (.iastore, nx, a, b, v)) (hi : inB j 1740 = true) (k : Ek sc d M nx L S (HH w s l (upA A 16 (upd (A 16) j.toNatClampNeg x)) B) r h' c n) : Ek sc d M pc L (.int x :: .int j :: .ref 16 :: S) (HH w s l A B) r h' c n := ev_is hc rfl hi k
theorem is_18 {j x : Int32} {a b : Nat} (hc : cAt M pc = some (.iastore, nx, a, b, v)) (hi : inB j 116 = true) (k : Ek sc d M nx L S (HH w s l (upA A 18 (upd (A 18) j.toNatClampNeg x)) B) r h' c n) : Ek sc d M pc L (.int x :: .int j :: .ref 18 :: S) (HH w s l A B) r h' c n := ev_is hc rfl hi k
theorem is_19 {j x : Int32} {a b : Nat} (hc : cAt M pc = some (.iastore, nx, a, b, v)) (hi : inB j 2 = true) (k : Ek sc d M nx L S (HH w s l (upA A 19 (upd (A 19) j.toNatClampNeg x)) B) r h' c n) : Ek sc d M pc L (.int x :: .int j :: .ref 19 :: S) (HH w s l A B) r h' c n := ev_is hc rfl hi k
theorem is_22 {j x : Int32} {a b : Nat} (hc : cAt M pc = some (.iastore, nx, a, b, v)) (hi : inB j 6 = true) (k : Ek sc d M nx L S (HH w s l (upA A 22 (upd (A 22) j.toNatClampNeg x)) B) r h' c n) : Ek sc d M pc L (.int x :: .int j :: .ref 22 :: S) (HH w s l A B) r h' c n := ev_is hc rfl hi k
theorem is_24 {j x : Int32} {a b : Nat} (hc : cAt M pc = some (.iastore, nx, a, b, v)) (hi : inB j 20 = true) (k : Ek sc d M nx L S (HH w s l (upA A 24 (upd (A 24) j.toNatClampNeg x)) B) r h' c n) : Ek sc d M pc L (.int x :: .int j :: .ref 24 :: S) (HH w s l A B) r h' c n := ev_is hc rfl hi k
theorem is_25 {j x : Int32} {a b : Nat} (hc : cAt M pc = some (.iastore, nx, a, b, v)) (hi : inB j 49 = true) (k : Ek sc d M nx L S (HH w s l (upA A 25 (upd (A 25) j.toNatClampNeg x)) B) r h' c n) : Ek sc d M pc L (.int x :: .int j :: .ref 25 :: S) (HH w s l A B) r h' c n := ev_is hc rfl hi k
theorem is_27 {j x : Int32} {a b : Nat} (hc : cAt M pc = some (.iastore, nx, a, b, v)) (hi : inB j 21 = true) (k : Ek sc d M nx L S (HH w s l (upA A 27 (upd (A 27) j.toNatClampNeg x)) B) r h' c n) : Ek sc d M pc L (.int x :: .int j :: .ref 27 :: S) (HH w s l A B) r h' c n := ev_is hc rfl hi k
theorem is_28 {j x : Int32} {a b : Nat} (hc : cAt M pc = some (.iastore, nx, a, b, v)) (hi : inB j 21 = true) (k : Ek sc d M nx L S (HH w s l (upA A 28 (upd (A 28) j.toNatClampNeg x)) B) r h' c n) : Ek sc d M pc L (.int x :: .int j :: .ref 28 :: S) (HH w s l A B) r h' c n := ev_is hc rfl hi k
theorem is_29 {j x : Int32} {a b : Nat} (hc : cAt M pc = some (.iastore, nx, a, b, v)) (hi : inB j 58 = true) (k : Ek sc d M nx L S (HH w s l (upA A 29 (upd (A 29) j.toNatClampNeg x)) B) r h' c n) : Ek sc d M pc L (.int x :: .int j :: .ref 29 :: S) (HH w s l A B) r h' c n := ev_is hc rfl hi k
theorem is_30 {j x : Int32} {a b : Nat} (hc : cAt M pc = some (.iastore, nx, a, b, v)) (hi : inB j 58 = true) (k : Ek sc d M nx L S (HH w s l (upA A 30 (upd (A 30) j.toNatClampNeg x)) B) r h' c n) : Ek sc d M pc L (.int x :: .int j :: .ref 30 :: S) (HH w s l A B) r h' c n := ev_is hc rfl hi k
theorem is_31 {j x : Int32} {a b : Nat} (hc : cAt M pc = some (.iastore, nx, a, b, v)) (hi : inB j 49 = true) (k : Ek sc d M nx L S (HH w s l (upA A 31 (upd (A 31) j.toNatClampNeg x)) B) r h' c n) : Ek sc d M pc L (.int x :: .int j :: .ref 31 :: S) (HH w s l A B) r h' c n := ev_is hc rfl hi k
theorem is_32 {j x : Int32} {a b : Nat} (hc : cAt M pc = some (.iastore, nx, a, b, v)) (hi : inB j 1740 = true) (k : Ek sc d M nx L S (HH w s l (upA A 32 (upd (A 32) j.toNatClampNeg x)) B) r h' c n) : Ek sc d M pc L (.int x :: .int j :: .ref 32 :: S) (HH w s l A B) r h' c n := ev_is hc rfl hi k
theorem is_33 {j x : Int32} {a b : Nat} (hc : cAt M pc = some (.iastore, nx, a, b, v)) (hi : inB j 118 = true) (k : Ek sc d M nx L S (HH w s l (upA A 33 (upd (A 33) j.toNatClampNeg x)) B) r h' c n) : Ek sc d M pc L (.int x :: .int j :: .ref 33 :: S) (HH w s l A B) r h' c n := ev_is hc rfl hi k
theorem is_35 {j x : Int32} {a b : Nat} (hc : cAt M pc = some (.iastore, nx, a, b, v)) (hi : inB j 240 = true) (k : Ek sc d M nx L S (HH w s l (upA A 35 (upd (A 35) j.toNatClampNeg x)) B) r h' c n) : Ek sc d M pc L (.int x :: .int j :: .ref 35 :: S) (HH w s l A B) r h' c n := ev_is hc rfl hi k
theorem is_36 {j x : Int32} {a b : Nat} (hc : cAt M pc = some (.iastore, nx, a, b, v)) (hi : inB j 12 = true) (k : Ek sc d M nx L S (HH w s l (upA A 36 (upd (A 36) j.toNatClampNeg x)) B) r h' c n) : Ek sc d M pc L (.int x :: .int j :: .ref 36 :: S) (HH w s l A B) r h' c n := ev_is hc rfl hi k
theorem is_37 {j x : Int32} {a b : Nat} (hc : cAt M pc = some (.iastore, nx, a, b, v)) (hi : inB j 20 = true) (k : Ek sc d M nx L S (HH w s l (upA A 37 (upd (A 37) j.toNatClampNeg x)) B) r h' c n) : Ek sc d M pc L (.int x :: .int j :: .ref 37 :: S) (HH w s l A B) r h' c n := ev_is hc rfl hi k
theorem is_38 {j x : Int32} {a b : Nat} (hc : cAt M pc = some (.iastore, nx, a, b, v)) (hi : inB j 7 = true) (k : Ek sc d M nx L S (HH w s l (upA A 38 (upd (A 38) j.toNatClampNeg x)) B) r h' c n) : Ek sc d M pc L (.int x :: .int j :: .ref 38 :: S) (HH w s l A B) r h' c n := ev_is hc rfl hi k
theorem is_20 {j x : Int32} {a b : Nat} (hc : cAt M pc = some (.bastore, nx, a, b, v)) (hi : inB j 2 = true) (k : Ek sc d M nx L S (HH w s l (upA A 20 (upd (A 20) j.toNatClampNeg (vp_nar .boolean x))) B) r h' c n) : Ek sc d M pc L (.int x :: .int j :: .ref 20 :: S) (HH w s l A B) r h' c n := ev_bs hc rfl hi k
theorem is_23 {j x : Int32} {a b : Nat} (hc : cAt M pc = some (.bastore, nx, a, b, v)) (hi : inB j 6 = true) (k : Ek sc d M nx L S (HH w s l (upA A 23 (upd (A 23) j.toNatClampNeg (vp_nar .boolean x))) B) r h' c n) : Ek sc d M pc L (.int x :: .int j :: .ref 23 :: S) (HH w s l A B) r h' c n := ev_bs hc rfl hi k
theorem is_34 {j x : Int32} {a b : Nat} (hc : cAt M pc = some (.bastore, nx, a, b, v)) (hi : inB j 2 = true) (k : Ek sc d M nx L S (HH w s l (upA A 34 (upd (A 34) j.toNatClampNeg (vp_nar .boolean x))) B) r h' c n) : Ek sc d M pc L (.int x :: .int j :: .ref 34 :: S) (HH w s l A B) r h' c n := ev_bs hc rfl hi k
theorem it_2 {j x : Int32} {g : Nat → Int32} {a b : Nat} (hc : cAt M pc = some (.iastore, nx, a, b, v)) (hi : inB j 240 = true) (k : Ek sc d M nx L S (HH w s l (upA A 2 (upd g j.toNatClampNeg x)) B) r h' c n) : Ek sc d M pc L (.int x :: .int j :: .ref 2 :: S) (HH w s l (upA A 2 g) B) r h' c n := by
  refine is_2 hc hi ?_
  rw [upA_up, upA_at]
  exact k
theorem it_10 {j x : Int32} {g : Nat → Int32} {a b : Nat} (hc : cAt M pc = some (.iastore, nx, a, b, v)) (hi : inB j 49 = true) (k : Ek sc d M nx L S (HH w s l (upA A 10 (upd g j.toNatClampNeg x)) B) r h' c n) : Ek sc d M pc L (.int x :: .int j :: .ref 10 :: S) (HH w s l (upA A 10 g) B) r h' c n := by
  refine is_10 hc hi ?_
  rw [upA_up, upA_at]
  exact k
theorem it_11 {j x : Int32} {g : Nat → Int32} {a b : Nat} (hc : cAt M pc = some (.iastore, nx, a, b, v)) (hi : inB j 7 = true) (k : Ek sc d M nx L S (HH w s l (upA A 11 (upd g j.toNatClampNeg x)) B) r h' c n) : Ek sc d M pc L (.int x :: .int j :: .ref 11 :: S) (HH w s l (upA A 11 g) B) r h' c n := by
  refine is_11 hc hi ?_
  rw [upA_up, upA_at]
  exact k
theorem it_13 {j x : Int32} {g : Nat → Int32} {a b : Nat} (hc : cAt M pc = some (.iastore, nx, a, b, v)) (hi : inB j 49 = true) (k : Ek sc d M nx L S (HH w s l (upA A 13 (upd g j.toNatClampNeg x)) B) r h' c n) : Ek sc d M pc L (.int x :: .int j :: .ref 13 :: S) (HH w s l (upA A 13 g) B) r h' c n := by
  refine is_13 hc hi ?_
  rw [upA_up, upA_at]
  exact k
theorem it_14 {j x : Int32} {g : Nat → Int32} {a b : Nat} (hc : cAt M pc = some (.iastore, nx, a, b, v)) (hi : inB j 7 = true) (k : Ek sc d M nx L S (HH w s l (upA A 14 (upd g j.toNatClampNeg x)) B) r h' c n) : Ek sc d M pc L (.int x :: .int j :: .ref 14 :: S) (HH w s l (upA A 14 g) B) r h' c n := by
  refine is_14 hc hi ?_
  rw [upA_up, upA_at]
  exact k
theorem it_16 {j x : Int32} {g : Nat → Int32} {a b : Nat} (hc : cAt M pc = some (.iastore, nx, a, b, v)) (hi : inB j 1740 = true) (k : Ek sc d M nx L S (HH w s l (upA A 16 (upd g j.toNatClampNeg x)) B) r h' c n) : Ek sc d M pc L (.int x :: .int j :: .ref 16 :: S) (HH w s l (upA A 16 g) B) r h' c n := by
  refine is_16 hc hi ?_
  rw [upA_up, upA_at]
  exact k
theorem it_18 {j x : Int32} {g : Nat → Int32} {a b : Nat} (hc : cAt M pc = some (.iastore, nx, a, b, v)) (hi : inB j 116 = true) (k : Ek sc d M nx L S (HH w s l (upA A 18 (upd g j.toNatClampNeg x)) B) r h' c n) : Ek sc d M pc L (.int x :: .int j :: .ref 18 :: S) (HH w s l (upA A 18 g) B) r h' c n := by
  refine is_18 hc hi ?_
  rw [upA_up, upA_at]
  exact k
theorem it_19 {j x : Int32} {g : Nat → Int32} {a b : Nat} (hc : cAt M pc = some (.iastore, nx, a, b, v)) (hi : inB j 2 = true) (k : Ek sc d M nx L S (HH w s l (upA A 19 (upd g j.toNatClampNeg x)) B) r h' c n) : Ek sc d M pc L (.int x :: .int j :: .ref 19 :: S) (HH w s l (upA A 19 g) B) r h' c n := by
  refine is_19 hc hi ?_
  rw [upA_up, upA_at]
  exact k
theorem it_22 {j x : Int32} {g : Nat → Int32} {a b : Nat} (hc : cAt M pc = some (.iastore, nx, a, b, v)) (hi : inB j 6 = true) (k : Ek sc d M nx L S (HH w s l (upA A 22 (upd g j.toNatClampNeg x)) B) r h' c n) : Ek sc d M pc L (.int x :: .int j :: .ref 22 :: S) (HH w s l (upA A 22 g) B) r h' c n := by
  refine is_22 hc hi ?_
  rw [upA_up, upA_at]
  exact k
theorem it_24 {j x : Int32} {g : Nat → Int32} {a b : Nat} (hc : cAt M pc = some (.iastore, nx, a, b, v)) (hi : inB j 20 = true) (k : Ek sc d M nx L S (HH w s l (upA A 24 (upd g j.toNatClampNeg x)) B) r h' c n) : Ek sc d M pc L (.int x :: .int j :: .ref 24 :: S) (HH w s l (upA A 24 g) B) r h' c n := by
  refine is_24 hc hi ?_
  rw [upA_up, upA_at]
  exact k
theorem it_25 {j x : Int32} {g : Nat → Int32} {a b : Nat} (hc : cAt M pc = some (.iastore, nx, a, b, v)) (hi : inB j 49 = true) (k : Ek sc d M nx L S (HH w s l (upA A 25 (upd g j.toNatClampNeg x)) B) r h' c n) : Ek sc d M pc L (.int x :: .int j :: .ref 25 :: S) (HH w s l (upA A 25 g) B) r h' c n := by
  refine is_25 hc hi ?_
  rw [upA_up, upA_at]
  exact k
theorem it_27 {j x : Int32} {g : Nat → Int32} {a b : Nat} (hc : cAt M pc = some (.iastore, nx, a, b, v)) (hi : inB j 21 = true) (k : Ek sc d M nx L S (HH w s l (upA A 27 (upd g j.toNatClampNeg x)) B) r h' c n) : Ek sc d M pc L (.int x :: .int j :: .ref 27 :: S) (HH w s l (upA A 27 g) B) r h' c n := by
  refine is_27 hc hi ?_
  rw [upA_up, upA_at]
  exact k
theorem it_28 {j x : Int32} {g : Nat → Int32} {a b : Nat} (hc : cAt M pc = some (.iastore, nx, a, b, v)) (hi : inB j 21 = true) (k : Ek sc d M nx L S (HH w s l (upA A 28 (upd g j.toNatClampNeg x)) B) r h' c n) : Ek sc d M pc L (.int x :: .int j :: .ref 28 :: S) (HH w s l (upA A 28 g) B) r h' c n := by
  refine is_28 hc hi ?_
  rw [upA_up, upA_at]
  exact k
theorem it_29 {j x : Int32} {g : Nat → Int32} {a b : Nat} (hc : cAt M pc = some (.iastore, nx, a, b, v)) (hi : inB j 58 = true) (k : Ek sc d M nx L S (HH w s l (upA A 29 (upd g j.toNatClampNeg x)) B) r h' c n) : Ek sc d M pc L (.int x :: .int j :: .ref 29 :: S) (HH w s l (upA A 29 g) B) r h' c n := by
  refine is_29 hc hi ?_
  rw [upA_up, upA_at]
  exact k
theorem it_30 {j x : Int32} {g : Nat → Int32} {a b : Nat} (hc : cAt M pc = some (.iastore, nx, a, b, v)) (hi : inB j 58 = true) (k : Ek sc d M nx L S (HH w s l (upA A 30 (upd g j.toNatClampNeg x)) B) r h' c n) : Ek sc d M pc L (.int x :: .int j :: .ref 30 :: S) (HH w s l (upA A 30 g) B) r h' c n := by
  refine is_30 hc hi ?_
  rw [upA_up, upA_at]
  exact k
theorem it_31 {j x : Int32} {g : Nat → Int32} {a b : Nat} (hc : cAt M pc = some (.iastore, nx, a, b, v)) (hi : inB j 49 = true) (k : Ek sc d M nx L S (HH w s l (upA A 31 (upd g j.toNatClampNeg x)) B) r h' c n) : Ek sc d M pc L (.int x :: .int j :: .ref 31 :: S) (HH w s l (upA A 31 g) B) r h' c n := by
  refine is_31 hc hi ?_
  rw [upA_up, upA_at]
  exact k
theorem it_32 {j x : Int32} {g : Nat → Int32} {a b : Nat} (hc : cAt M pc = some (.iastore, nx, a, b, v)) (hi : inB j 1740 = true) (k : Ek sc d M nx L S (HH w s l (upA A 32 (upd g j.toNatClampNeg x)) B) r h' c n) : Ek sc d M pc L (.int x :: .int j :: .ref 32 :: S) (HH w s l (upA A 32 g) B) r h' c n := by
  refine is_32 hc hi ?_
  rw [upA_up, upA_at]
  exact k
theorem it_33 {j x : Int32} {g : Nat → Int32} {a b : Nat} (hc : cAt M pc = some (.iastore, nx, a, b, v)) (hi : inB j 118 = true) (k : Ek sc d M nx L S (HH w s l (upA A 33 (upd g j.toNatClampNeg x)) B) r h' c n) : Ek sc d M pc L (.int x :: .int j :: .ref 33 :: S) (HH w s l (upA A 33 g) B) r h' c n := by
  refine is_33 hc hi ?_
  rw [upA_up, upA_at]
  exact k
theorem it_35 {j x : Int32} {g : Nat → Int32} {a b : Nat} (hc : cAt M pc = some (.iastore, nx, a, b, v)) (hi : inB j 240 = true) (k : Ek sc d M nx L S (HH w s l (upA A 35 (upd g j.toNatClampNeg x)) B) r h' c n) : Ek sc d M pc L (.int x :: .int j :: .ref 35 :: S) (HH w s l (upA A 35 g) B) r h' c n := by
  refine is_35 hc hi ?_
  rw [upA_up, upA_at]
  exact k
theorem it_36 {j x : Int32} {g : Nat → Int32} {a b : Nat} (hc : cAt M pc = some (.iastore, nx, a, b, v)) (hi : inB j 12 = true) (k : Ek sc d M nx L S (HH w s l (upA A 36 (upd g j.toNatClampNeg x)) B) r h' c n) : Ek sc d M pc L (.int x :: .int j :: .ref 36 :: S) (HH w s l (upA A 36 g) B) r h' c n := by
  refine is_36 hc hi ?_
  rw [upA_up, upA_at]
  exact k
theorem it_37 {j x : Int32} {g : Nat → Int32} {a b : Nat} (hc : cAt M pc = some (.iastore, nx, a, b, v)) (hi : inB j 20 = true) (k : Ek sc d M nx L S (HH w s l (upA A 37 (upd g j.toNatClampNeg x)) B) r h' c n) : Ek sc d M pc L (.int x :: .int j :: .ref 37 :: S) (HH w s l (upA A 37 g) B) r h' c n := by
  refine is_37 hc hi ?_
  rw [upA_up, upA_at]
  exact k
theorem it_38 {j x : Int32} {g : Nat → Int32} {a b : Nat} (hc : cAt M pc = some (.iastore, nx, a, b, v)) (hi : inB j 7 = true) (k : Ek sc d M nx L S (HH w s l (upA A 38 (upd g j.toNatClampNeg x)) B) r h' c n) : Ek sc d M pc L (.int x :: .int j :: .ref 38 :: S) (HH w s l (upA A 38 g) B) r h' c n := by
  refine is_38 hc hi ?_
  rw [upA_up, upA_at]
  exact k
theorem pf_D_19 {x : Int32} (hc : cAt M pc = some (.putfield i, nx, 1, 0, v)) (k : Ek sc d M nx L S (HH w (upA s 19 x) l A B) r h' c n) : Ek sc d M pc L (.int x :: .ref (wL (!w)) :: S) (HH w s l A B) r h' c n := by
  cases w <;> exact ev_pf hc rfl rfl k
theorem pf_D_20 {x : Int32} (hc : cAt M pc = some (.putfield i, nx, 1, 1, v)) (k : Ek sc d M nx L S (HH w (upA s 20 x) l A B) r h' c n) : Ek sc d M pc L (.int x :: .ref (wL (!w)) :: S) (HH w s l A B) r h' c n := by
  cases w <;> exact ev_pf hc rfl rfl k
theorem pf_D_21 {x : Int32} (hc : cAt M pc = some (.putfield i, nx, 1, 2, v)) (k : Ek sc d M nx L S (HH w (upA s 21 x) l A B) r h' c n) : Ek sc d M pc L (.int x :: .ref (wL (!w)) :: S) (HH w s l A B) r h' c n := by
  cases w <;> exact ev_pf hc rfl rfl k
theorem pf_D_22 {x : Int32} (hc : cAt M pc = some (.putfield i, nx, 1, 3, v)) (k : Ek sc d M nx L S (HH w (upA s 22 x) l A B) r h' c n) : Ek sc d M pc L (.int x :: .ref (wL (!w)) :: S) (HH w s l A B) r h' c n := by
  cases w <;> exact ev_pf hc rfl rfl k
theorem pf_D_l4 {x : Int64} (hc : cAt M pc = some (.putfield i, nx, 1, 4, v)) (k : Ek sc d M nx L S (HH w s (upA l 4 x) A B) r h' c n) : Ek sc d M pc L (.long x :: .ref (wL (!w)) :: S) (HH w s l A B) r h' c n := by
  cases w <;> exact ev_pf hc rfl rfl k
theorem pf_D_l5 {x : Int64} (hc : cAt M pc = some (.putfield i, nx, 1, 5, v)) (k : Ek sc d M nx L S (HH w s (upA l 5 x) A B) r h' c n) : Ek sc d M pc L (.long x :: .ref (wL (!w)) :: S) (HH w s l A B) r h' c n := by
  cases w <;> exact ev_pf hc rfl rfl k
theorem pf_D_l6 {x : Int64} (hc : cAt M pc = some (.putfield i, nx, 1, 6, v)) (k : Ek sc d M nx L S (HH w s (upA l 6 x) A B) r h' c n) : Ek sc d M pc L (.long x :: .ref (wL (!w)) :: S) (HH w s l A B) r h' c n := by
  cases w <;> exact ev_pf hc rfl rfl k
theorem pf_D_l7 {x : Int64} (hc : cAt M pc = some (.putfield i, nx, 1, 7, v)) (k : Ek sc d M nx L S (HH w s (upA l 7 x) A B) r h' c n) : Ek sc d M pc L (.long x :: .ref (wL (!w)) :: S) (HH w s l A B) r h' c n := by
  cases w <;> exact ev_pf hc rfl rfl k
theorem is_dk {j x : Int32} {a b : Nat} (hc : cAt M pc = some (.iastore, nx, a, b, v)) (hi : inB j 7 = true) (k : Ek sc d M nx L S (HH w s l (upA A 7 (upd (A 7) j.toNatClampNeg x)) B) r h' c n) : Ek sc d M pc L (.int x :: .int j :: .ref (wK (!w)) :: S) (HH w s l A B) r h' c n := by
  cases w <;> exact ev_is hc rfl hi k
theorem ls_ds {j : Int32} {x : Int64} {a b : Nat} {g : Nat → Int64} (hc : cAt M pc = some (.lastore, nx, a, b, v)) (hi : inB j 245 = true) (k : Ek sc d M nx L S (HH w s l A (upA B 8 (vp_updL g j.toNatClampNeg x))) r h' c n) : Ek sc d M pc L (.long x :: .int j :: .ref (wS (!w)) :: S) (HH w s l A (upA B 8 g)) r h' c n := by
  cases w <;> exact ev_lst hc rfl hi k
end HHR
