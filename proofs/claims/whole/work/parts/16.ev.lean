/-! a method's run as a judgement, and its rules -/
theorem run_mono1 (sc : Scr) : ∀ (f d M pc : Nat) (L : Lcs) (S : Stk) (h : AHp) (x : Res), run sc f d M pc L S h = some x → run sc (f + 1) d M pc L S h = some x := by
  intro f
  induction f with
  | zero => intro d M pc L S h x e; cases e
  | succ f ih =>
    intro d M pc L S h x e
    unfold run at e
    unfold run
    split at e
    · cases e
    · rename_i ins nx a b v hc
      split at e
      · rename_i hk
        try simp only [hk]
        split at e
        · cases e
        · rename_i hs
          try simp only [hs]
          exact ih _ _ _ _ _ _ _ e
      · rename_i hk
        try simp only [hk]
        split at e
        · cases e
        · rename_i hs
          try simp only [hs]
          exact ih _ _ _ _ _ _ _ e
      · rename_i hk
        try simp only [hk]
        split at e
        · cases e
        · rename_i hs
          try simp only [hs]
          exact ih _ _ _ _ _ _ _ e
      · rename_i hk
        try simp only [hk]
        split at e
        · cases e
        · rename_i hs
          try simp only [hs]
          exact ih _ _ _ _ _ _ _ e
      · rename_i hk
        try simp only [hk]
        split at e
        · cases e
        · rename_i hs
          try simp only [hs]
          exact ih _ _ _ _ _ _ _ e
      · rename_i hk
        try simp only [hk]
        split at e
        · cases e
        · rename_i hs
          try simp only [hs]
          split at e
          · cases e
          · rename_i e2
            try simp only [ih _ _ _ _ _ _ _ e2]
            exact e
      · rename_i hk
        try simp only [hk]
        split at e
        · cases e
        · split at e
          · cases e
          · rename_i hs
            try simp only [hs]
            split at e
            · cases e
            · rename_i e1
              try simp only [ih _ _ _ _ _ _ _ e1]
              split at e
              · cases e
              · rename_i e2
                try simp only [ih _ _ _ _ _ _ _ e2]
                exact e
      · exact e
theorem run_mono {sc : Scr} {f g d M pc : Nat} {L : Lcs} {S : Stk} {h : AHp} {x : Res} (hfg : f ≤ g) (e : run sc f d M pc L S h = some x) : run sc g d M pc L S h = some x := by
  obtain ⟨n, rfl⟩ : ∃ n, g = f + n := ⟨g - f, by omega⟩
  clear hfg
  induction n with
  | zero => exact e
  | succ n ih => exact run_mono1 sc _ _ _ _ _ _ _ _ ih
/-- with these locals, stack and cells, from this pc on, the method M (d calls deep at most) ends with the answer r and the cells h', c cells of n slots made -/
def Ek (sc : Scr) (d M pc : Nat) (L : Lcs) (S : Stk) (h : AHp) (r : Option Value) (h' : AHp) (c n : Nat) : Prop := ∃ f, run sc f d M pc L S h = some (r, h', c, n)
abbrev Ev (sc : Scr) (d M pc : Nat) (L : Lcs) (S : Stk) (h : AHp) (r : Option Value) (h' : AHp) : Prop := Ek sc d M pc L S h r h' 0 0
def stp (M pc : Nat) (L : Lcs) (S : Stk) : Option (Nat × Lcs × Stk) := match cAt M pc with
  | some (ins, nx, a, _, v) => (match kd ins a with
    | 0 => st1 ins nx a v L S
    | _ => none)
  | none => none
/-- plain steps, at least one, as far as they go -/
def gos : Nat → Nat → Nat → Lcs → Stk → Option (Nat × Lcs × Stk)
  | 0, _, _, _, _ => none
  | k + 1, M, pc, L, S => match stp M pc L S with
    | none => none
    | some (pc', L', S') => (match gos k M pc' L' S' with
      | none => some (pc', L', S')
      | some x => some x)
section EV
variable {sc : Scr} {d M pc nx a b : Nat} {v : Value} {ins : Instr} {L : Lcs} {S : Stk} {h h' : AHp} {r : Option Value} {c n : Nat}
theorem ev_stp {pc' : Nat} {L' : Lcs} {S' : Stk} (hs : stp M pc L S = some (pc', L', S')) (k : Ek sc d M pc' L' S' h r h' c n) : Ek sc d M pc L S h r h' c n := by
  obtain ⟨f, e⟩ := k
  refine ⟨f + 1, ?_⟩
  unfold stp at hs
  split at hs
  · rename_i ins nx a b v hc
    split at hs
    · rename_i hk
      unfold run
      simp only [hc, hk, hs]
      exact e
    · cases hs
  · cases hs
theorem ev_gos : ∀ (k : Nat) {pc pc' : Nat} {L L' : Lcs} {S S' : Stk}, gos k M pc L S = some (pc', L', S') → Ek sc d M pc' L' S' h r h' c n → Ek sc d M pc L S h r h' c n
  | 0, _, _, _, _, _, _, hs, _ => by cases hs
  | k + 1, pc, pc', L, L', S, S', hs, e => by
    unfold gos at hs
    split at hs
    · cases hs
    · rename_i h1
      split at hs
      · cases hs
        exact ev_stp h1 e
      · rename_i h2
        cases hs
        exact ev_stp h1 (ev_gos k h2 e)
theorem ev_if {cd : Bool} {S' : Stk} (hc : cAt M pc = some (ins, nx, a, b, v)) (hk : kd ins a = 1) (hs : brS ins S = some (cd, S')) (k1 : cd = true → Ek sc d M a L S' h r h' c n) (k2 : cd = false → Ek sc d M nx L S' h r h' c n) : Ek sc d M pc L S h r h' c n := by
  cases hcd : cd with
  | true =>
    obtain ⟨f, e⟩ := k1 hcd
    refine ⟨f + 1, ?_⟩
    subst hcd
    unfold run
    simp only [hc, hk, hs]
    exact e
  | false =>
    obtain ⟨f, e⟩ := k2 hcd
    refine ⟨f + 1, ?_⟩
    subst hcd
    unfold run
    simp only [hc, hk, hs]
    exact e
theorem ev_sw {t : Nat} {x : Int32} (hc : cAt M pc = some (ins, nx, a, b, v)) (hk : kd ins a = 2) (hs : swT ins pc x = some t) (k : Ek sc d M t L S h r h' c n) : Ek sc d M pc L (.int x :: S) h r h' c n := by
  obtain ⟨f, e⟩ := k
  refine ⟨f + 1, ?_⟩
  have hs2 : swS ins pc (.int x :: S) = some (t, S) := by unfold swS; simp only [hs]
  unfold run
  simp only [hc, hk, hs2]
  exact e
theorem ev_hr {S' : Stk} (hc : cAt M pc = some (ins, nx, a, b, v)) (hk : kd ins a = 3) (hs : hrd sc ins a b v S h = some S') (k : Ek sc d M nx L S' h r h' c n) : Ek sc d M pc L S h r h' c n := by
  obtain ⟨f, e⟩ := k
  refine ⟨f + 1, ?_⟩
  unfold run
  simp only [hc, hk, hs]
  exact e
theorem ev_hw {S' : Stk} {h1 : AHp} (hc : cAt M pc = some (ins, nx, a, b, v)) (hk : kd ins a = 4) (hs : hwr ins a b S h = some (S', h1)) (k : Ek sc d M nx L S' h1 r h' c n) : Ek sc d M pc L S h r h' c n := by
  obtain ⟨f, e⟩ := k
  refine ⟨f + 1, ?_⟩
  unfold run
  simp only [hc, hk, hs]
  exact e
theorem ev_al {S' : Stk} {h1 : AHp} {n1 : Nat} (hc : cAt M pc = some (ins, nx, a, b, v)) (hk : kd ins a = 5) (hs : alc ins a S h = some (S', h1, n1)) (k : Ek sc d M nx L S' h1 r h' c n) : Ek sc d M pc L S h r h' (c + 1) (n + n1) := by
  obtain ⟨f, e⟩ := k
  refine ⟨f + 1, ?_⟩
  unfold run
  simp only [hc, hk, hs, e]
theorem ev_cal {as rest : Stk} {nl c1 n1 c2 n2 : Nat} {r1 : Option Value} {h1 : AHp} (hc : cAt M pc = some (ins, nx, a, b, v)) (hk : kd ins a = 6) (hs : cal ins b v S h = some (as, rest, nl)) (k1 : Ek sc d a 0 (iniL nl as) [] h r1 h1 c1 n1) (k2 : Ek sc (d + 1) M nx L (r1.toList ++ rest) h1 r h' c2 n2) : Ek sc (d + 1) M pc L S h r h' (c1 + c2) (n1 + n2) := by
  obtain ⟨f, e⟩ := k1
  obtain ⟨g, e2⟩ := k2
  refine ⟨f + g + 1, ?_⟩
  have e3 := run_mono (g := f + g) (by omega) e
  have e4 := run_mono (g := f + g) (by omega) e2
  unfold run
  simp only [hc, hk, hs, e3, e4]
theorem ev_rt (hc : cAt M pc = some (ins, nx, a, b, v)) (hk : kd ins a = 7) (hs : rtS ins b S = some r) : Ek sc d M pc L S h r h 0 0 := by
  refine ⟨1, ?_⟩
  unfold run
  simp only [hc, hk, hs]
/-! the same by instruction, over cells that are known by a hypothesis -/
theorem ev_gf {i p : Nat} {fs : List Value} {w : Value} (hc : cAt M pc = some (.getfield i, nx, a, b, v)) (hp : h[p]? = some (.inr (a, fs))) (hf : fs[b]? = some w) (k : Ek sc d M nx L (w :: S) h r h' c n) : Ek sc d M pc L (.ref p :: S) h r h' c n := by
  refine ev_hr hc rfl ?_ k
  show gfC a b S h[p]? = _
  rw [hp]
  unfold gfC
  simp [hf]
theorem ev_pf {i p : Nat} {fs : List Value} {w : Value} (hc : cAt M pc = some (.putfield i, nx, a, b, v)) (hp : h[p]? = some (.inr (a, fs))) (hf : (Nat.blt b fs.length && okV (fty a b) w) = true) (k : Ek sc d M nx L S (h.set p (.inr (a, fs.set b w))) r h' c n) : Ek sc d M pc L (w :: .ref p :: S) h r h' c n := by
  refine ev_hw hc rfl ?_ k
  show pfC a b w p S h h[p]? = _
  rw [hp]
  unfold pfC
  simp [hf]
theorem rd_of {p : Nat} {x : ACell} (hp : h[p]? = some x) : rd sc h p = some x := by
  unfold rd
  rw [hp]
theorem inB_of {i : Int32} {m : Nat} (h1 : 0 ≤ i.toInt) (h2 : i.toInt < m) : inB i m = true := by
  unfold inB
  rw [decide_eq_true h1, decide_eq_true h2]
  rfl
theorem ev_ia {p m : Nat} {i : Int32} {f : Nat → Int32} (hc : cAt M pc = some (.iaload, nx, a, b, v)) (hp : h[p]? = some (.inl (0, m, .inl f))) (hi : inB i m = true) (k : Ek sc d M nx L (.int (f i.toNatClampNeg) :: S) h r h' c n) : Ek sc d M pc L (.int i :: .ref p :: S) h r h' c n := by
  refine ev_hr hc rfl ?_ k
  show ialC i S (rd sc h p) = _
  rw [rd_of hp]
  unfold ialC
  simp [hi]
theorem ev_ir {p m : Nat} {i : Int32} {f : Nat → Int32} (hc : cAt M pc = some (.iaload, nx, a, b, v)) (hp : rd sc h p = some (.inl (0, m, .inl f))) (hi : inB i m = true) (k : Ek sc d M nx L (.int (f i.toNatClampNeg) :: S) h r h' c n) : Ek sc d M pc L (.int i :: .ref p :: S) h r h' c n := by
  refine ev_hr hc rfl ?_ k
  show ialC i S (rd sc h p) = _
  rw [hp]
  unfold ialC
  simp [hi]
theorem ev_la {p m : Nat} {i : Int32} {f : Nat → Int64} (hc : cAt M pc = some (.laload, nx, a, b, v)) (hp : h[p]? = some (.inl (1, m, .inr (.inl f)))) (hi : inB i m = true) (k : Ek sc d M nx L (.long (f i.toNatClampNeg) :: S) h r h' c n) : Ek sc d M pc L (.int i :: .ref p :: S) h r h' c n := by
  refine ev_hr hc rfl ?_ k
  show lalC i S h[p]? = _
  rw [hp]
  unfold lalC
  simp [hi]
theorem ev_ba {p m : Nat} {i : Int32} {f : Nat → Int32} (hc : cAt M pc = some (.baload, nx, a, b, v)) (hp : h[p]? = some (.inl (2, m, .inl f))) (hi : inB i m = true) (k : Ek sc d M nx L (.int (f i.toNatClampNeg) :: S) h r h' c n) : Ek sc d M pc L (.int i :: .ref p :: S) h r h' c n := by
  refine ev_hr hc rfl ?_ k
  show balC i S h[p]? = _
  rw [hp]
  unfold balC
  simp [hi]
theorem ev_len {p m : Nat} {x : (Nat → Int32) ⊕ (Nat → Int64) ⊕ (Nat → UInt32) ⊕ (Nat → UInt64) ⊕ (Nat → Option Nat)} (hc : cAt M pc = some (.arraylength, nx, a, b, v)) (hp : rd sc h p = some (.inl (0, m, x)) ∨ rd sc h p = some (.inl (1, m, x))) (k : Ek sc d M nx L (.int (Int32.ofNat m) :: S) h r h' c n) : Ek sc d M pc L (.ref p :: S) h r h' c n := by
  refine ev_hr hc rfl ?_ k
  show lenC S (rd sc h p) = _
  rcases hp with hp | hp <;> rw [hp] <;> rfl
theorem ev_is {p m : Nat} {i x : Int32} {f : Nat → Int32} (hc : cAt M pc = some (.iastore, nx, a, b, v)) (hp : h[p]? = some (.inl (0, m, .inl f))) (hi : inB i m = true) (k : Ek sc d M nx L S (h.set p (.inl (0, m, .inl (upd f i.toNatClampNeg x)))) r h' c n) : Ek sc d M pc L (.int x :: .int i :: .ref p :: S) h r h' c n := by
  refine ev_hw hc rfl ?_ k
  show iasC x i p S h h[p]? = _
  rw [hp]
  unfold iasC
  simp [hi]
theorem ev_lst {p m : Nat} {i : Int32} {x : Int64} {f : Nat → Int64} (hc : cAt M pc = some (.lastore, nx, a, b, v)) (hp : h[p]? = some (.inl (1, m, .inr (.inl f)))) (hi : inB i m = true) (k : Ek sc d M nx L S (h.set p (.inl (1, m, .inr (.inl (vp_updL f i.toNatClampNeg x))))) r h' c n) : Ek sc d M pc L (.long x :: .int i :: .ref p :: S) h r h' c n := by
  refine ev_hw hc rfl ?_ k
  show lasC x i p S h h[p]? = _
  rw [hp]
  unfold lasC
  simp [hi]
theorem ev_bs {p m : Nat} {i x : Int32} {f : Nat → Int32} (hc : cAt M pc = some (.bastore, nx, a, b, v)) (hp : h[p]? = some (.inl (2, m, .inl f))) (hi : inB i m = true) (k : Ek sc d M nx L S (h.set p (.inl (2, m, .inl (upd f i.toNatClampNeg (vp_nar .boolean x))))) r h' c n) : Ek sc d M pc L (.int x :: .int i :: .ref p :: S) h r h' c n := by
  refine ev_hw hc rfl ?_ k
  show basC x i p S h h[p]? = _
  rw [hp]
  unfold basC
  simp [hi]
def calP (b z : Nat) (S : Stk) : Option (Stk × Stk) :=
  bif Nat.ble b S.length && (Nat.ble (catS (S.drop b)) 8 && Nat.ble (catS (S.take b)) (z / 100)) then some ((S.take b).reverse, S.drop b) else none
theorem cal_of {z : Nat} {as rest : Stk} (hs : calP b z S = some (as, rest)) (hr : rcv ins (z % 100) as h = true) : cal ins b (.retAddr z) S h = some (as, rest, z / 100) := by
  unfold calP at hs
  obtain ⟨h1, h2⟩ := bifE hs
  cases h2
  show calZ ins b z S h = _
  unfold calZ
  obtain ⟨h3, h4⟩ := andE h1
  obtain ⟨h4, h5⟩ := andE h4
  rw [h3, h4, h5, hr]
  rfl
/-- a call of a method on the object p -/
theorem ev_cv {i z p : Nat} {fs : List Value} {As rest : Stk} {r1 : Option Value} {h1 : AHp} (hc : cAt M pc = some (.invokevirtual i, nx, a, b, .retAddr z)) (hs : calP b z S = some (.ref p :: As, rest)) (hp : h[p]? = some (.inr (z % 100, fs))) (k1 : Ev sc d a 0 (iniL (z / 100) (.ref p :: As)) [] h r1 h1) (k2 : Ek sc (d + 1) M nx L (r1.toList ++ rest) h1 r h' c n) : Ek sc (d + 1) M pc L S h r h' c n := by
  have h9 := ev_cal hc rfl (cal_of (ins := .invokevirtual i) hs (by show rcC (z % 100) h[p]? = true; rw [hp]; unfold rcC; simp)) k1 k2
  rw [Nat.zero_add, Nat.zero_add] at h9
  exact h9
theorem ev_cs {i z : Nat} {as rest : Stk} {r1 : Option Value} {h1 : AHp} (hc : cAt M pc = some (.invokestatic i, nx, a, b, .retAddr z)) (hk : kd (.invokestatic i) a = 6) (hs : calP b z S = some (as, rest)) (k1 : Ev sc d a 0 (iniL (z / 100) as) [] h r1 h1) (k2 : Ek sc (d + 1) M nx L (r1.toList ++ rest) h1 r h' c n) : Ek sc (d + 1) M pc L S h r h' c n := by
  have h9 := ev_cal hc hk (cal_of (ins := .invokestatic i) hs rfl) k1 k2
  rw [Nat.zero_add, Nat.zero_add] at h9
  exact h9
end EV
/-! fewer locals are enough -/
def wk : Lcs → Lcs → Prop
  | [], _ => True
  | none :: l, _ :: k => wk l k
  | some v :: l, x :: k => x = some v ∧ wk l k
  | _ :: _, [] => False
def wkR (L' L : Lcs) : Prop := L'.length = L.length ∧ ∀ i v, gL L' i = some v → gL L i = some v
theorem kil_keep {L : Lcs} {i j : Nat} {v : Value} (h : L[j]? = some (some v)) (hn : ¬ (j + 1 = i ∧ v.category = 2)) : (kil L i)[j]? = some (some v) := by
  cases i with
  | zero => exact h
  | succ n =>
    show (kil1 L n L[n]?)[j]? = some (some v)
    unfold kil1
    split
    · rename_i w e
      cases hw : isC1 w with
      | true => exact h
      | false =>
        show (L.set n none)[j]? = some (some v)
        rw [List.getElem?_set]
        split
        · rename_i hj
          subst hj
          have h3 := e.symm.trans h
          cases h3
          exact absurd ⟨rfl, C2_cat hw⟩ hn
        · exact h
    · exact h
theorem kil_len (L : Lcs) (i : Nat) : (kil L i).length = L.length := by
  cases i with
  | zero => rfl
  | succ n =>
    show (kil1 L n L[n]?).length = L.length
    unfold kil1
    split
    · rename_i w e
      cases hw : isC1 w with
      | true => rfl
      | false => exact List.length_set
    · rfl
theorem wkR_s1 {L' L : Lcs} (h : wkR L' L) (i : Nat) (v : Value) : wkR (sL1 L' i v) (sL1 L i v) := by
  refine ⟨?_, fun j w hj => ?_⟩
  · rw [sL1_eq, sL1_eq, List.length_set, List.length_set, kil_len, kil_len]
    exact h.1
  · have h1 := gL_lt hj
    apply gL_of
    rw [sL1_eq] at h1 ⊢
    rw [List.getElem?_set] at h1 ⊢
    rw [kil_len] at h1 ⊢
    rw [← h.1]
    split at h1
    · rename_i he
      rw [if_pos he]
      exact h1
    · rename_i he
      rw [if_neg he]
      obtain ⟨h2, h3⟩ := kil_get h1
      exact kil_keep (gL_lt (h.2 j w (gL_of h2))) h3
theorem wkR_s2 {L' L : Lcs} (h : wkR L' L) (i : Nat) (v : Value) : wkR (sL2 L' i v) (sL2 L i v) := by
  have h0 := wkR_s1 h i v
  refine ⟨?_, fun j w hj => ?_⟩
  · rw [sL2_eq, sL2_eq, ← sL1_eq, ← sL1_eq, List.length_set, List.length_set]
    exact h0.1
  · have h1 := gL_lt hj
    apply gL_of
    rw [sL2_eq, ← sL1_eq] at h1 ⊢
    rw [List.getElem?_set] at h1 ⊢
    split at h1
    · split at h1 <;> cases h1
    · rename_i he
      rw [if_neg he]
      exact gL_lt (h0.2 j w (gL_of h1))
theorem st1_wk {L' L : Lcs} (h : wkR L' L) {ins : Instr} {nx a pc' : Nat} {v : Value} {S S1 : Stk} {L1 : Lcs} (e : st1 ins nx a v L' S = some (pc', L1, S1)) : ∃ L2, st1 ins nx a v L S = some (pc', L2, S1) ∧ wkR L1 L2 := by
  unfold st1 at e ⊢
  split at e
  · cases e; exact ⟨L, rfl, h⟩
  · cases e; exact ⟨L, rfl, h⟩
  · cases e; exact ⟨L, rfl, h⟩
  · cases e; exact ⟨L, rfl, h⟩
  · cases e; exact ⟨L, rfl, h⟩
  · cases e; exact ⟨L, rfl, h⟩
  · cases e; exact ⟨L, rfl, h⟩
  · obtain ⟨w, hw, rfl, rfl, rfl⟩ := push_inv e
    obtain ⟨x, hg, rfl⟩ := ldI_inv hw
    exact ⟨L, by simp only [h.2 _ _ hg]; rfl, h⟩
  · obtain ⟨w, hw, rfl, rfl, rfl⟩ := push_inv e
    obtain ⟨x, hg, rfl⟩ := ldI_inv hw
    exact ⟨L, by simp only [h.2 _ _ hg]; rfl, h⟩
  · obtain ⟨w, hw, rfl, rfl, rfl⟩ := push_inv e
    obtain ⟨x, hg, rfl⟩ := ldL_inv hw
    exact ⟨L, by simp only [h.2 _ _ hg]; rfl, h⟩
  · obtain ⟨w, hw, rfl, rfl, rfl⟩ := push_inv e
    obtain ⟨x, hg, rfl⟩ := ldL_inv hw
    exact ⟨L, by simp only [h.2 _ _ hg]; rfl, h⟩
  · obtain ⟨w, hw, rfl, rfl, rfl⟩ := push_inv e
    obtain ⟨x, hg, rfl⟩ := ldA_inv hw
    exact ⟨L, by simp only [h.2 _ _ hg]; rfl, h⟩
  · obtain ⟨w, hw, rfl, rfl, rfl⟩ := push_inv e
    obtain ⟨x, hg, rfl⟩ := ldA_inv hw
    exact ⟨L, by simp only [h.2 _ _ hg]; rfl, h⟩
  · obtain ⟨x, rfl, rfl, rfl⟩ := stI_inv e
    exact ⟨_, rfl, wkR_s1 h _ _⟩
  · obtain ⟨x, rfl, rfl, rfl⟩ := stI_inv e
    exact ⟨_, rfl, wkR_s1 h _ _⟩
  · obtain ⟨x, rfl, rfl, rfl⟩ := stL_inv e
    exact ⟨_, rfl, wkR_s2 h _ _⟩
  · obtain ⟨x, rfl, rfl, rfl⟩ := stL_inv e
    exact ⟨_, rfl, wkR_s2 h _ _⟩
  · obtain ⟨x, rfl, rfl, rfl⟩ := stA_inv e
    exact ⟨_, rfl, wkR_s1 h _ _⟩
  · obtain ⟨x, rfl, rfl, rfl⟩ := stA_inv e
    exact ⟨_, rfl, wkR_s1 h _ _⟩
  · obtain ⟨x, n, hg, rfl, rfl, rfl, rfl⟩ := incS_inv e
    exact ⟨sL1 L a (.int (x + n)), by simp only [h.2 _ _ hg]; rfl, wkR_s1 h _ _⟩
  · cases e; exact ⟨L, rfl, h⟩
  · cases hA : alu ins S with
    | none => rw [hA] at e; cases e
    | some S2 =>
      rw [hA] at e
      cases e
      exact ⟨L, rfl, h⟩
theorem run_wk (sc : Scr) : ∀ (f d M pc : Nat) (L' L : Lcs) (S : Stk) (h : AHp) (x : Res), wkR L' L → run sc f d M pc L' S h = some x → run sc f d M pc L S h = some x := by
  intro f
  induction f with
  | zero => intro d M pc L' L S h x hw e; cases e
  | succ f ih =>
    intro d M pc L' L S h x hw e
    unfold run at e
    unfold run
    split at e
    · cases e
    · rename_i ins nx a b v hc
      split at e
      · rename_i hk
        try simp only [hk]
        split at e
        · cases e
        · rename_i hs
          obtain ⟨L2, h2, h3⟩ := st1_wk hw hs
          try simp only [h2]
          exact ih _ _ _ _ _ _ _ _ h3 e
      · rename_i hk
        try simp only [hk]
        split at e
        · cases e
        · rename_i hs
          try simp only [hs]
          exact ih _ _ _ _ _ _ _ _ hw e
      · rename_i hk
        try simp only [hk]
        split at e
        · cases e
        · rename_i hs
          try simp only [hs]
          exact ih _ _ _ _ _ _ _ _ hw e
      · rename_i hk
        try simp only [hk]
        split at e
        · cases e
        · rename_i hs
          try simp only [hs]
          exact ih _ _ _ _ _ _ _ _ hw e
      · rename_i hk
        try simp only [hk]
        split at e
        · cases e
        · rename_i hs
          try simp only [hs]
          exact ih _ _ _ _ _ _ _ _ hw e
      · rename_i hk
        try simp only [hk]
        split at e
        · cases e
        · rename_i hs
          try simp only [hs]
          split at e
          · cases e
          · rename_i e2
            try simp only [ih _ _ _ _ _ _ _ _ hw e2]
            exact e
      · rename_i hk
        try simp only [hk]
        split at e
        · cases e
        · split at e
          · cases e
          · rename_i hs
            try simp only [hs]
            split at e
            · cases e
            · rename_i e1
              try simp only [e1]
              split at e
              · cases e
              · rename_i e2
                try simp only [ih _ _ _ _ _ _ _ _ hw e2]
                exact e
      · exact e
theorem wk_get : ∀ {L' L : Lcs}, wk L' L → ∀ (i : Nat) (v : Value), L'[i]? = some (some v) → L[i]? = some (some v)
  | [], _, _, i, v, e => by cases e
  | none :: l, _ :: k, h, 0, v, e => by cases e
  | none :: l, _ :: k, h, i + 1, v, e => wk_get (L' := l) (L := k) h i v e
  | some w :: l, x :: k, h, 0, v, e => by
    cases e
    exact congrArg some h.1
  | some w :: l, x :: k, h, i + 1, v, e => wk_get (L' := l) (L := k) h.2 i v e
theorem ev_wk {sc : Scr} {d M pc : Nat} {L L' : Lcs} {S : Stk} {h h' : AHp} {r : Option Value} {c n : Nat} (hl : L'.length = L.length) (hw : wk L' L) (k : Ek sc d M pc L' S h r h' c n) : Ek sc d M pc L S h r h' c n := by
  obtain ⟨f, e⟩ := k
  exact ⟨f, run_wk sc f d M pc L' L S h _ ⟨hl, fun i v hi => gL_of (wk_get hw i v (gL_lt hi))⟩ e⟩
theorem ev_eq {sc : Scr} {d M pc : Nat} {L : Lcs} {S S' : Stk} {h h' : AHp} {r : Option Value} {c n : Nat} (e : S' = S) (k : Ek sc d M pc L S' h r h' c n) : Ek sc d M pc L S h r h' c n := e ▸ k
