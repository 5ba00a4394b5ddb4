/-! stores of the model at a known place -/
section MST
variable {sc : Scr} {d M pc nx : Nat} {v : Value} {L : Lcs} {S : Stk} {h' : AHp} {r : Option Value} {c n : Nat}
variable {w : Bool} {s : Nat → Int32} {l : Nat → Int64} {A : Nat → Nat → Int32} {B : Nat → Nat → Int64}
theorem iv_27 {j x : Int32} {a b : Nat} (k : Nat) (hc : cAt M pc = some (.iastore, nx, a, b, v)) (hi : j = nI k) (hk : k < 21) (kk : Ek sc d M nx L S (HH w s l (upA A 27 (upd (A 27) k x)) B) r h' c n) : Ek sc d M pc L (.int x :: .int j :: .ref 27 :: S) (HH w s l A B) r h' c n := by
  subst hi
  refine is_27 hc (inI hk (by decide)) ?_
  rw [nI_clamp (by omega)]
  exact kk
theorem iw_27 {j x : Int32} {g : Nat → Int32} {a b : Nat} (k : Nat) (hc : cAt M pc = some (.iastore, nx, a, b, v)) (hi : j = nI k) (hk : k < 21) (kk : Ek sc d M nx L S (HH w s l (upA A 27 (upd g k x)) B) r h' c n) : Ek sc d M pc L (.int x :: .int j :: .ref 27 :: S) (HH w s l (upA A 27 g) B) r h' c n := by
  subst hi
  refine it_27 hc (inI hk (by decide)) ?_
  rw [nI_clamp (by omega)]
  exact kk
theorem iv_28 {j x : Int32} {a b : Nat} (k : Nat) (hc : cAt M pc = some (.iastore, nx, a, b, v)) (hi : j = nI k) (hk : k < 21) (kk : Ek sc d M nx L S (HH w s l (upA A 28 (upd (A 28) k x)) B) r h' c n) : Ek sc d M pc L (.int x :: .int j :: .ref 28 :: S) (HH w s l A B) r h' c n := by
  subst hi
  refine is_28 hc (inI hk (by decide)) ?_
  rw [nI_clamp (by omega)]
  exact kk
theorem iw_28 {j x : Int32} {g : Nat → Int32} {a b : Nat} (k : Nat) (hc : cAt M pc = some (.iastore, nx, a, b, v)) (hi : j = nI k) (hk : k < 21) (kk : Ek sc d M nx L S (HH w s l (upA A 28 (upd g k x)) B) r h' c n) : Ek sc d M pc L (.int x :: .int j :: .ref 28 :: S) (HH w s l (upA A 28 g) B) r h' c n := by
  subst hi
  refine it_28 hc (inI hk (by decide)) ?_
  rw [nI_clamp (by omega)]
  exact kk
theorem iv_29 {j x : Int32} {a b : Nat} (k : Nat) (hc : cAt M pc = some (.iastore, nx, a, b, v)) (hi : j = nI k) (hk : k < 58) (kk : Ek sc d M nx L S (HH w s l (upA A 29 (upd (A 29) k x)) B) r h' c n) : Ek sc d M pc L (.int x :: .int j :: .ref 29 :: S) (HH w s l A B) r h' c n := by
  subst hi
  refine is_29 hc (inI hk (by decide)) ?_
  rw [nI_clamp (by omega)]
  exact kk
theorem iw_29 {j x : Int32} {g : Nat → Int32} {a b : Nat} (k : Nat) (hc : cAt M pc = some (.iastore, nx, a, b, v)) (hi : j = nI k) (hk : k < 58) (kk : Ek sc d M nx L S (HH w s l (upA A 29 (upd g k x)) B) r h' c n) : Ek sc d M pc L (.int x :: .int j :: .ref 29 :: S) (HH w s l (upA A 29 g) B) r h' c n := by
  subst hi
  refine it_29 hc (inI hk (by decide)) ?_
  rw [nI_clamp (by omega)]
  exact kk
theorem iv_30 {j x : Int32} {a b : Nat} (k : Nat) (hc : cAt M pc = some (.iastore, nx, a, b, v)) (hi : j = nI k) (hk : k < 58) (kk : Ek sc d M nx L S (HH w s l (upA A 30 (upd (A 30) k x)) B) r h' c n) : Ek sc d M pc L (.int x :: .int j :: .ref 30 :: S) (HH w s l A B) r h' c n := by
  subst hi
  refine is_30 hc (inI hk (by decide)) ?_
  rw [nI_clamp (by omega)]
  exact kk
theorem iw_30 {j x : Int32} {g : Nat → Int32} {a b : Nat} (k : Nat) (hc : cAt M pc = some (.iastore, nx, a, b, v)) (hi : j = nI k) (hk : k < 58) (kk : Ek sc d M nx L S (HH w s l (upA A 30 (upd g k x)) B) r h' c n) : Ek sc d M pc L (.int x :: .int j :: .ref 30 :: S) (HH w s l (upA A 30 g) B) r h' c n := by
  subst hi
  refine it_30 hc (inI hk (by decide)) ?_
  rw [nI_clamp (by omega)]
  exact kk
theorem iv_31 {j x : Int32} {a b : Nat} (k : Nat) (hc : cAt M pc = some (.iastore, nx, a, b, v)) (hi : j = nI k) (hk : k < 49) (kk : Ek sc d M nx L S (HH w s l (upA A 31 (upd (A 31) k x)) B) r h' c n) : Ek sc d M pc L (.int x :: .int j :: .ref 31 :: S) (HH w s l A B) r h' c n := by
  subst hi
  refine is_31 hc (inI hk (by decide)) ?_
  rw [nI_clamp (by omega)]
  exact kk
theorem iw_31 {j x : Int32} {g : Nat → Int32} {a b : Nat} (k : Nat) (hc : cAt M pc = some (.iastore, nx, a, b, v)) (hi : j = nI k) (hk : k < 49) (kk : Ek sc d M nx L S (HH w s l (upA A 31 (upd g k x)) B) r h' c n) : Ek sc d M pc L (.int x :: .int j :: .ref 31 :: S) (HH w s l (upA A 31 g) B) r h' c n := by
  subst hi
  refine it_31 hc (inI hk (by decide)) ?_
  rw [nI_clamp (by omega)]
  exact kk
theorem iv_32 {j x : Int32} {a b : Nat} (k : Nat) (hc : cAt M pc = some (.iastore, nx, a, b, v)) (hi : j = nI k) (hk : k < 1740) (kk : Ek sc d M nx L S (HH w s l (upA A 32 (upd (A 32) k x)) B) r h' c n) : Ek sc d M pc L (.int x :: .int j :: .ref 32 :: S) (HH w s l A B) r h' c n := by
  subst hi
  refine is_32 hc (inI hk (by decide)) ?_
  rw [nI_clamp (by omega)]
  exact kk
theorem iw_32 {j x : Int32} {g : Nat → Int32} {a b : Nat} (k : Nat) (hc : cAt M pc = some (.iastore, nx, a, b, v)) (hi : j = nI k) (hk : k < 1740) (kk : Ek sc d M nx L S (HH w s l (upA A 32 (upd g k x)) B) r h' c n) : Ek sc d M pc L (.int x :: .int j :: .ref 32 :: S) (HH w s l (upA A 32 g) B) r h' c n := by
  subst hi
  refine it_32 hc (inI hk (by decide)) ?_
  rw [nI_clamp (by omega)]
  exact kk
theorem iv_33 {j x : Int32} {a b : Nat} (k : Nat) (hc : cAt M pc = some (.iastore, nx, a, b, v)) (hi : j = nI k) (hk : k < 118) (kk : Ek sc d M nx L S (HH w s l (upA A 33 (upd (A 33) k x)) B) r h' c n) : Ek sc d M pc L (.int x :: .int j :: .ref 33 :: S) (HH w s l A B) r h' c n := by
  subst hi
  refine is_33 hc (inI hk (by decide)) ?_
  rw [nI_clamp (by omega)]
  exact kk
theorem iw_33 {j x : Int32} {g : Nat → Int32} {a b : Nat} (k : Nat) (hc : cAt M pc = some (.iastore, nx, a, b, v)) (hi : j = nI k) (hk : k < 118) (kk : Ek sc d M nx L S (HH w s l (upA A 33 (upd g k x)) B) r h' c n) : Ek sc d M pc L (.int x :: .int j :: .ref 33 :: S) (HH w s l (upA A 33 g) B) r h' c n := by
  subst hi
  refine it_33 hc (inI hk (by decide)) ?_
  rw [nI_clamp (by omega)]
  exact kk
theorem iv_35 {j x : Int32} {a b : Nat} (k : Nat) (hc : cAt M pc = some (.iastore, nx, a, b, v)) (hi : j = nI k) (hk : k < 240) (kk : Ek sc d M nx L S (HH w s l (upA A 35 (upd (A 35) k x)) B) r h' c n) : Ek sc d M pc L (.int x :: .int j :: .ref 35 :: S) (HH w s l A B) r h' c n := by
  subst hi
  refine is_35 hc (inI hk (by decide)) ?_
  rw [nI_clamp (by omega)]
  exact kk
theorem iw_35 {j x : Int32} {g : Nat → Int32} {a b : Nat} (k : Nat) (hc : cAt M pc = some (.iastore, nx, a, b, v)) (hi : j = nI k) (hk : k < 240) (kk : Ek sc d M nx L S (HH w s l (upA A 35 (upd g k x)) B) r h' c n) : Ek sc d M pc L (.int x :: .int j :: .ref 35 :: S) (HH w s l (upA A 35 g) B) r h' c n := by
  subst hi
  refine it_35 hc (inI hk (by decide)) ?_
  rw [nI_clamp (by omega)]
  exact kk
theorem iv_36 {j x : Int32} {a b : Nat} (k : Nat) (hc : cAt M pc = some (.iastore, nx, a, b, v)) (hi : j = nI k) (hk : k < 12) (kk : Ek sc d M nx L S (HH w s l (upA A 36 (upd (A 36) k x)) B) r h' c n) : Ek sc d M pc L (.int x :: .int j :: .ref 36 :: S) (HH w s l A B) r h' c n := by
  subst hi
  refine is_36 hc (inI hk (by decide)) ?_
  rw [nI_clamp (by omega)]
  exact kk
theorem iw_36 {j x : Int32} {g : Nat → Int32} {a b : Nat} (k : Nat) (hc : cAt M pc = some (.iastore, nx, a, b, v)) (hi : j = nI k) (hk : k < 12) (kk : Ek sc d M nx L S (HH w s l (upA A 36 (upd g k x)) B) r h' c n) : Ek sc d M pc L (.int x :: .int j :: .ref 36 :: S) (HH w s l (upA A 36 g) B) r h' c n := by
  subst hi
  refine it_36 hc (inI hk (by decide)) ?_
  rw [nI_clamp (by omega)]
  exact kk
theorem iv_37 {j x : Int32} {a b : Nat} (k : Nat) (hc : cAt M pc = some (.iastore, nx, a, b, v)) (hi : j = nI k) (hk : k < 20) (kk : Ek sc d M nx L S (HH w s l (upA A 37 (upd (A 37) k x)) B) r h' c n) : Ek sc d M pc L (.int x :: .int j :: .ref 37 :: S) (HH w s l A B) r h' c n := by
  subst hi
  refine is_37 hc (inI hk (by decide)) ?_
  rw [nI_clamp (by omega)]
  exact kk
theorem iw_37 {j x : Int32} {g : Nat → Int32} {a b : Nat} (k : Nat) (hc : cAt M pc = some (.iastore, nx, a, b, v)) (hi : j = nI k) (hk : k < 20) (kk : Ek sc d M nx L S (HH w s l (upA A 37 (upd g k x)) B) r h' c n) : Ek sc d M pc L (.int x :: .int j :: .ref 37 :: S) (HH w s l (upA A 37 g) B) r h' c n := by
  subst hi
  refine it_37 hc (inI hk (by decide)) ?_
  rw [nI_clamp (by omega)]
  exact kk
theorem iv_38 {j x : Int32} {a b : Nat} (k : Nat) (hc : cAt M pc = some (.iastore, nx, a, b, v)) (hi : j = nI k) (hk : k < 7) (kk : Ek sc d M nx L S (HH w s l (upA A 38 (upd (A 38) k x)) B) r h' c n) : Ek sc d M pc L (.int x :: .int j :: .ref 38 :: S) (HH w s l A B) r h' c n := by
  subst hi
  refine is_38 hc (inI hk (by decide)) ?_
  rw [nI_clamp (by omega)]
  exact kk
theorem iw_38 {j x : Int32} {g : Nat → Int32} {a b : Nat} (k : Nat) (hc : cAt M pc = some (.iastore, nx, a, b, v)) (hi : j = nI k) (hk : k < 7) (kk : Ek sc d M nx L S (HH w s l (upA A 38 (upd g k x)) B) r h' c n) : Ek sc d M pc L (.int x :: .int j :: .ref 38 :: S) (HH w s l (upA A 38 g) B) r h' c n := by
  subst hi
  refine it_38 hc (inI hk (by decide)) ?_
  rw [nI_clamp (by omega)]
  exact kk
end MST
