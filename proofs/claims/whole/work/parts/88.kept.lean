/-! a run keeps what objects are -/
def kp (h h' : AHp) : Prop := ∀ p z : Nat, rcC z h[p]? = true → rcC z h'[p]? = true
theorem kp_rf (h : AHp) : kp h h := fun _ _ q => q
theorem kp_tr {a b c : AHp} (h : kp a b) (h2 : kp b c) : kp a c := fun p z q => h2 p z (h p z q)
theorem kp_inr {h : AHp} {p a : Nat} {fs fs' : List Value} (hp : h[p]? = some (.inr (a, fs))) : kp h (h.set p (.inr (a, fs'))) := by
  intro q z hq
  rw [List.getElem?_set]
  split
  · rename_i e
    subst e
    rw [hp] at hq
    have hl : p < h.length := (List.getElem?_eq_some_iff.mp hp).1
    rw [if_pos hl]
    exact hq
  · exact hq
theorem kp_inl {h : AHp} {p : Nat} {x y : Nat × vp_A} (hp : h[p]? = some (.inl x)) : kp h (h.set p (.inl y)) := by
  intro q z hq
  rw [List.getElem?_set]
  split
  · rename_i e
    subst e
    rw [hp] at hq
    cases hq
  · exact hq
theorem kp_app (h k : AHp) : kp h (h ++ k) := by
  intro p z hq
  by_cases hl : p < h.length
  · rw [List.getElem?_append_left hl]
    exact hq
  · rw [List.getElem?_eq_none (by omega)] at hq
    cases hq
theorem hwr_kp {ins : Instr} {a b : Nat} {S S' : Stk} {h h' : AHp} (hh : hwr ins a b S h = some (S', h')) : kp h h' := by
  unfold hwr at hh
  split at hh
  · split at hh
    · obtain ⟨fs, e1, e2, e3, rfl, rfl⟩ := pfC_inv hh
      exact kp_inr e1
    · cases hh
  · split at hh
    · obtain ⟨n, f, e1, e2, rfl, rfl⟩ := iasC_inv hh
      exact kp_inl e1
    · cases hh
  · split at hh
    · obtain ⟨n, f, e1, e2, rfl, rfl⟩ := lasC_inv hh
      exact kp_inl e1
    · cases hh
  · split at hh
    · obtain ⟨n, f, e1, e2, rfl, rfl⟩ := basC_inv hh
      exact kp_inl e1
    · cases hh
  · cases h98 : Nat.beq a 998 with
    | true =>
      rw [h98] at hh
      have hh2 : cpyS h S = some (S', h') := hh
      unfold cpyS at hh2
      split at hh2
      · obtain ⟨n0, f, n1, g, e1, e2, h1, h2, h3, h4, h5, h6, rfl, rfl⟩ := cpC_inv hh2
        exact kp_inl e2
      · cases hh2
    | false =>
      rw [h98] at hh
      have hh2 : mthC a h S = some (S', h') := hh
      unfold mthC at hh2
      split at hh2
      · split at hh2
        · obtain ⟨h1, h2⟩ := bifE hh2; cases h2; exact kp_rf _
        · cases hh2
      · split at hh2
        · obtain ⟨h1, h2⟩ := bifE hh2; cases h2; exact kp_rf _
        · cases hh2
      · split at hh2
        · obtain ⟨h1, h2⟩ := bifE hh2; cases h2; exact kp_rf _
        · cases hh2
      · split at hh2
        · obtain ⟨h1, h2⟩ := bifE hh2; cases h2; exact kp_rf _
        · cases hh2
      · cases hh2
  · split at hh
    · obtain ⟨h1, h2⟩ := bifE hh; cases h2; exact kp_rf _
    · cases hh
  · cases hh
theorem alc_kp {ins : Instr} {a n : Nat} {S S' : Stk} {h h' : AHp} (hh : alc ins a S h = some (S', h', n)) : kp h h' := by
  unfold alc at hh
  split at hh
  · obtain ⟨h1, h2⟩ := bifE hh; cases h2; exact kp_app _ _
  · split at hh
    · obtain ⟨h1, h2⟩ := bifE hh; cases h2; exact kp_app _ _
    · cases hh
  · cases hh
theorem run_kp (sc : Scr) : ∀ (f d M pc : Nat) (L : Lcs) (S : Stk) (h : AHp) (r : Option Value) (h' : AHp) (cn sn : Nat), run sc f d M pc L S h = some (r, h', cn, sn) → kp h h' := by
  intro f
  induction f with
  | zero => intro d M pc L S h r h' cn sn e; cases e
  | succ f ih =>
    intro d M pc L S h r h' cn sn e
    unfold run at e
    split at e
    · cases e
    · rename_i ins nx a b v hc
      split at e
      · split at e
        · cases e
        · exact ih _ _ _ _ _ _ _ _ _ _ e
      · split at e
        · cases e
        · exact ih _ _ _ _ _ _ _ _ _ _ e
      · split at e
        · cases e
        · exact ih _ _ _ _ _ _ _ _ _ _ e
      · split at e
        · cases e
        · exact ih _ _ _ _ _ _ _ _ _ _ e
      · split at e
        · cases e
        · rename_i S1 h1 hw
          exact kp_tr (hwr_kp hw) (ih _ _ _ _ _ _ _ _ _ _ e)
      · split at e
        · cases e
        · rename_i S1 h1 k hw
          split at e
          · cases e
          · rename_i r2 h2 c2 n2 e2
            cases e
            exact kp_tr (alc_kp hw) (ih _ _ _ _ _ _ _ _ _ _ e2)
      · split at e
        · cases e
        · split at e
          · cases e
          · split at e
            · cases e
            · rename_i r1 h1 c1 n1 e1
              split at e
              · cases e
              · rename_i r2 h2 c2 n2 e2
                cases e
                exact kp_tr (ih _ _ _ _ _ _ _ _ _ _ e1) (ih _ _ _ _ _ _ _ _ _ _ e2)
      · split at e
        · cases e
        · cases e
          exact kp_rf _
theorem ev_kept {sc : Scr} {d M : Nat} {L : Lcs} {S : Stk} {w : Bool} {s : Nat → Int32} {l : Nat → Int64} {A : Nat → Nat → Int32} {B : Nat → Nat → Int64} {r : Option Value} {h1 : AHp} (e : Ev sc d M 0 L S (HH w s l A B) r h1) : (∃ fs, h1[26]? = some (.inr (6, fs))) ∧ ∀ p : Nat, 1000 ≤ p → h1[p]? = none := by
  obtain ⟨f, hf⟩ := e
  have h2 := run_len sc _ _ _ _ _ _ _ _ _ _ _ hf
  refine ⟨rcC_inv (run_kp sc _ _ _ _ _ _ _ _ _ _ _ hf 26 6 rfl), fun p hp => List.getElem?_eq_none ?_⟩
  have h3 : (HH w s l A B).length = 39 := rfl
  omega
theorem ev_al2 {sc : Scr} {d M pc nx a b : Nat} {v : Value} {ins : Instr} {L : Lcs} {S S' : Stk} {h h' h1 : AHp} {r : Option Value} {c' n' n1 : Nat} (c n : Nat) (hc : cAt M pc = some (ins, nx, a, b, v)) (hk : kd ins a = 5) (hs : alc ins a S h = some (S', h1, n1)) (ec : c' = c + 1) (en : n' = n + n1) (k : Ek sc d M nx L S' h1 r h' c n) : Ek sc d M pc L S h r h' c' n' := by
  subst ec
  subst en
  exact ev_al hc hk hs k
theorem ev_cal2 {sc : Scr} {d M pc nx a b : Nat} {v : Value} {ins : Instr} {L : Lcs} {S : Stk} {h h' h1 : AHp} {r r1 : Option Value} {c' n' c1 n1 nl : Nat} {as rest : Stk} (c2 n2 : Nat) (hc : cAt M pc = some (ins, nx, a, b, v)) (hk : kd ins a = 6) (hs : cal ins b v S h = some (as, rest, nl)) (k1 : Ek sc d a 0 (iniL nl as) [] h r1 h1 c1 n1) (ec : c' = c1 + c2) (en : n' = n1 + n2) (k2 : Ek sc (d + 1) M nx L (r1.toList ++ rest) h1 r h' c2 n2) : Ek sc (d + 1) M pc L S h r h' c' n' := by
  subst ec
  subst en
  exact ev_cal hc hk hs k1 k2
