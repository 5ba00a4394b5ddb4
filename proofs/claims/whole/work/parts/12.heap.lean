/-! the interpreter's steps are the machine's: cells -/
theorem clK : ∀ ci, ci < 7 → classes[ci]? = some (clR ci, clT ci, nfs ci)
  | 0, _ => rfl
  | 1, _ => rfl
  | 2, _ => rfl
  | 3, _ => rfl
  | 4, _ => rfl
  | 5, _ => rfl
  | 6, _ => rfl
  | n + 7, h => absurd h (by omega)
theorem gw_lay (C : String) (T : u_T) (k : Nat) : gw (u_lay C T k) = true := by
  unfold u_lay
  split <;> rfl
theorem in_wT {C : String} {T : u_T} {N : Nat} (h : ∀ w ∈ u_ws C T N, w ∈ lw_tbl) : ∀ w ∈ u_ws C T N, w ∈ wT := by
  intro w hw
  refine mem_wT (h w hw) ?_
  obtain ⟨k, -, rfl⟩ := List.mem_map.mp hw
  exact gw_lay C T k
theorem clin : ∀ ci, ci < 7 → ∀ w ∈ u_ws (clR ci) (clT ci) (nfs ci), w ∈ wT
  | 0, _ => in_wT inX0
  | 1, _ => in_wT inX1
  | 2, _ => in_wT inX2
  | 3, _ => in_wT inX3
  | 4, _ => in_wT inX4
  | 5, _ => in_wT inX5
  | 6, _ => in_wT inX6
  | n + 7, h => absurd h (by omega)
theorem clit : ∀ ci, ci < 7 → Cond.instantiable (clR ci) (nfs ci) ∈ lw_tbl
  | 0, _ => itX0
  | 1, _ => itX1
  | 2, _ => itX2
  | 3, _ => itX3
  | 4, _ => itX4
  | 5, _ => itX5
  | 6, _ => itX6
  | n + 7, h => absurd h (by omega)
theorem clini : ∀ ci, ci < 7 → Cond.initialized (clR ci) ∈ lw_tbl
  | 0, _ => iniX0
  | 1, _ => iniX1
  | 2, _ => iniX2
  | 3, _ => iniX3
  | 4, _ => iniX4
  | 5, _ => iniX5
  | 6, _ => iniX6
  | n + 7, h => absurd h (by omega)
theorem clty : ∀ ci, ci < 7 → ∀ k, k < nfs ci → parseFieldDescriptor (clT ci k).2.2.1 = some (fty ci k)
  | 0, _ => tyX0_ok
  | 1, _ => tyX1_ok
  | 2, _ => tyX2_ok
  | 3, _ => tyX3_ok
  | 4, _ => tyX4_ok
  | 5, _ => tyX5_ok
  | 6, _ => tyX6_ok
  | n + 7, h => absurd h (by omega)
theorem clnm : ∀ ci, ci < 7 → ∀ a, a < nfs ci → ∀ b, b < nfs ci → a ≠ b → (clT ci a).2.1 ≠ (clT ci b).2.1
  | 0, _ => nmX0
  | 1, _ => nmX1
  | 2, _ => nmX2
  | 3, _ => nmX3
  | 4, _ => nmX4
  | 5, _ => nmX5
  | 6, _ => nmX6
  | n + 7, h => absurd h (by omega)
theorem clT1 : ∀ ci, ci < 7 → ∀ k, k < nfs ci → (clT ci k).1 = clR ci := by decide +kernel
theorem clD : ∀ ci, ci < 7 → ∀ j, j < nfs ci → defaultValue (fty ci j) = vp_V (dflt ci) j := by decide +kernel
theorem cldf (ad : Nat → Nat) : ∀ ci, ci < 7 → (dflt ci).map (cV ad) = dflt ci
  | 0, _ => rfl
  | 1, _ => rfl
  | 2, _ => rfl
  | 3, _ => rfl
  | 4, _ => rfl
  | 5, _ => rfl
  | 6, _ => rfl
  | n + 7, h => absurd h (by omega)
theorem FT_rng0 : ∀ o, o < 12 → ∀ q ∈ FT o, q.2.1 < 7 ∧ q.2.2.1 < nfs q.2.1 := by decide +kernel
theorem FT_rng {o : Nat} {q : Nat × Nat × Nat × Nat} (h : q ∈ FT o) : q.2.1 < 7 ∧ q.2.2.1 < nfs q.2.1 := by
  rcases Nat.lt_or_ge o 12 with ho | ho
  · exact FT_rng0 o ho q h
  · obtain ⟨n, rfl⟩ : ∃ n, o = n + 12 := ⟨o - 12, by omega⟩
    cases h
theorem CT_rng0 : ∀ o, o < 12 → ∀ q ∈ CT o, q.2 < 7 := by decide +kernel
theorem CT_rng {o : Nat} {q : Nat × Nat} (h : q ∈ CT o) : q.2 < 7 := by
  rcases Nat.lt_or_ge o 12 with ho | ho
  · exact CT_rng0 o ho q h
  · obtain ⟨n, rfl⟩ : ∃ n, o = n + 12 := ⟨o - 12, by omega⟩
    cases h
theorem okV_ok (ad : Nat → Nat) {ty : FieldType} {v : Value} (h : okV ty v = true) : narrow ty (cV ad v) = cV ad v ∧ fits ty (cV ad v) = true := by
  unfold okV at h
  split at h
  · exact ⟨rfl, rfl⟩
  · exact ⟨rfl, rfl⟩
  · exact ⟨rfl, rfl⟩
  · exact ⟨rfl, rfl⟩
  · rename_i x
    rw [Bool.or_eq_true, decide_eq_true_eq, decide_eq_true_eq] at h
    rcases h with rfl | rfl
    · exact ⟨(by decide : narrow .boolean (.int 0) = .int 0), (by decide : fits .boolean (.int 0) = true)⟩
    · exact ⟨(by decide : narrow .boolean (.int 1) = .int 1), (by decide : fits .boolean (.int 1) = true)⟩
  · cases h
def cE (ad : Nat → Nat) (cT : Nat → ClassId) : ACell → va_E
  | .inl (t, x) => .inl (cT t, x)
  | .inr (ci, fs) => .inr (ci, fs.map (cV ad))
def cW (ad : Nat → Nat) (cT : Nat → ClassId) (h : AHp) : va_W := h.mapIdx (fun i x => (ad i, cE ad cT x))
def tyL (cT : Nat → ClassId) : List (ClassId × FieldType) := [(cT 0, .int), (cT 1, .long), (cT 2, .boolean)]
theorem cW_get {ad : Nat → Nat} {cT : Nat → ClassId} {h : AHp} {i : Nat} {x : ACell} (hx : h[i]? = some x) : (cW ad cT h)[i]? = some (ad i, cE ad cT x) := by
  unfold cW
  rw [List.getElem?_mapIdx, hx]
  rfl
theorem cW_inv {ad : Nat → Nat} {cT : Nat → ClassId} {h : AHp} {i : Nat} {q : Nat × va_E} (hx : (cW ad cT h)[i]? = some q) : i < h.length ∧ q.1 = ad i := by
  unfold cW at hx
  rw [List.getElem?_mapIdx] at hx
  cases hi : h[i]? with
  | none => rw [hi] at hx; cases hx
  | some x =>
    rw [hi] at hx
    cases hx
    exact ⟨(List.getElem?_eq_some_iff.mp hi).1, rfl⟩
theorem cW_set (ad : Nat → Nat) (cT : Nat → ClassId) (h : AHp) (p : Nat) (x : ACell) : (cW ad cT h).set p (ad p, cE ad cT x) = cW ad cT (h.set p x) := by
  unfold cW
  apply List.ext_getElem?
  intro i
  rw [List.getElem?_set, List.getElem?_mapIdx, List.getElem?_mapIdx, List.getElem?_set, List.length_mapIdx]
  by_cases hp : p = i
  · subst hp
    rw [if_pos rfl, if_pos rfl]
    split <;> rfl
  · rw [if_neg hp, if_neg hp]
theorem cW_app (ad : Nat → Nat) (cT : Nat → ClassId) (h : AHp) (x : ACell) : cW ad cT h ++ [(ad h.length, cE ad cT x)] = cW ad cT (h ++ [x]) := by
  unfold cW
  rw [List.mapIdx_concat]
theorem cW_len (ad : Nat → Nat) (cT : Nat → ClassId) (h : AHp) : (cW ad cT h).length = h.length := by
  unfold cW
  rw [List.length_mapIdx]
def Ga (base : Nat) (ad : Nat → Nat) : Prop := (∀ i, i < 1000 → ad i = base + i) ∧ ad 1000 < base ∧ ad 1001 < base
theorem cW_D {base : Nat} {ad : Nat → Nat} (hG : Ga base ad) (cT : Nat → ClassId) {h : AHp} (hl : h.length < 1000) : va_D (fun q => base ≤ q) (cW ad cT h) := by
  refine ⟨fun i j p q hi hj e => ?_, fun k q hk => ?_⟩
  · obtain ⟨i1, i2⟩ := cW_inv hi
    obtain ⟨j1, j2⟩ := cW_inv hj
    rw [i2, j2, hG.1 i (by omega), hG.1 j (by omega)] at e
    omega
  · obtain ⟨k1, k2⟩ := cW_inv hk
    show base ≤ q.1
    rw [k2, hG.1 k (by omega)]
    omega
/-- the world: the cells, the classes, the two arrays that nobody writes, the static -/
def Wd (base : Nat) (ad : Nat → Nat) (cT : Nat → ClassId) (D : va_G) (sc : Scr) (h : AHp) (U : State) (H : Heap) : Prop :=
  h.length < 1000 ∧ va_P D classes (cW ad cT h) H ∧ va_K D classes (tyL cT) U ∧ va_X (ad 1000) sc.1 sc.2 U H ∧ va_T .int (ad 1001) 5 (fun j => .int (limbs j)) (fun q => base ≤ q) U H ∧ va_Z "WingCensus" "LIMBS" "[I" (.ref (ad 1001)) (fun q => base ≤ q) U H
theorem Wd.moved {base : Nat} {ad : Nat → Nat} {cT : Nat → ClassId} {D : va_G} {sc : Scr} {h : AHp} {u U : State} {H : Heap} (hvm : u.vm.Alike U.vm) (w : Wd base ad cT D sc h u H) : Wd base ad cT D sc h U H :=
  ⟨w.1, w.2.1, va_K.moved hvm w.2.2.1, va_X.moved hvm w.2.2.2.1, va_T.moved hvm w.2.2.2.2.1, va_Z.moved hvm w.2.2.2.2.2⟩
theorem Wd.next {base : Nat} {ad : Nat → Nat} {cT : Nat → ClassId} {D : va_G} {sc : Scr} {h h1 : AHp} {U : State} {H H1 : Heap} (hG : Ga base ad) (w : Wd base ad cT D sc h U H) (hl : h1.length < 1000) (hP : va_P D classes (cW ad cT h1) H1) (hq : ∀ q, q < base → H1[q]? = H[q]?) : Wd base ad cT D sc h1 U H1 :=
  ⟨hl, hP, w.2.2.1, w.2.2.2.1.kept (hq _ hG.2.1), w.2.2.2.2.1.kept (fun a _ ha => hq a (Nat.lt_of_not_le ha)), w.2.2.2.2.2.kept (fun a _ ha => hq a (Nat.lt_of_not_le ha))⟩
theorem S_eq {base : Nat} {H0 H H1 : Heap} {l l1 : List Loc} (hb : base ≤ H0.size) (h : va_S (fun q => base ≤ q) H0 H l) (h1 : va_S (fun q => base ≤ q) H0 H1 l1) : ∀ q, q < base → H1[q]? = H[q]? := by
  intro q hq
  rw [h.2.1 q (by omega) (by omega), h1.2.1 q (by omega) (by omega)]
theorem inB_in {i : Int32} {n : Nat} (h : inB i n = true) : vp_in i n := by
  obtain ⟨h1, h2⟩ := andE h
  exact vp_in_iff.mpr ⟨of_decide_eq_true h1, of_decide_eq_true h2⟩
theorem gfC_inv {a b : Nat} {S S' : Stk} {x : Option ACell} (h : gfC a b S x = some S') : ∃ fs w, x = some (.inr (a, fs)) ∧ fs[b]? = some w ∧ S' = w :: S := by
  unfold gfC at h
  split at h
  · rename_i ci fs
    cases hc : Nat.beq ci a with
    | false => rw [hc] at h; cases h
    | true =>
      rw [hc] at h
      obtain rfl := beqE hc
      cases hf : fs[b]? with
      | none => simp only [hf] at h; cases h
      | some w => simp only [hf] at h; cases h; exact ⟨fs, w, rfl, hf, rfl⟩
  · cases h
theorem ialC_inv {i : Int32} {S S' : Stk} {x : Option ACell} (h : ialC i S x = some S') : ∃ n f, x = some (.inl (0, n, .inl f)) ∧ vp_in i n ∧ S' = .int (f i.toNatClampNeg) :: S := by
  unfold ialC at h
  split at h
  · rename_i n f
    cases hc : inB i n with
    | false => rw [hc] at h; cases h
    | true => rw [hc] at h; cases h; exact ⟨n, f, rfl, inB_in hc, rfl⟩
  · cases h
theorem lalC_inv {i : Int32} {S S' : Stk} {x : Option ACell} (h : lalC i S x = some S') : ∃ n f, x = some (.inl (1, n, .inr (.inl f))) ∧ vp_in i n ∧ S' = .long (f i.toNatClampNeg) :: S := by
  unfold lalC at h
  split at h
  · rename_i n f
    cases hc : inB i n with
    | false => rw [hc] at h; cases h
    | true => rw [hc] at h; cases h; exact ⟨n, f, rfl, inB_in hc, rfl⟩
  · cases h
theorem balC_inv {i : Int32} {S S' : Stk} {x : Option ACell} (h : balC i S x = some S') : ∃ n f, x = some (.inl (2, n, .inl f)) ∧ vp_in i n ∧ S' = .int (f i.toNatClampNeg) :: S := by
  unfold balC at h
  split at h
  · rename_i n f
    cases hc : inB i n with
    | false => rw [hc] at h; cases h
    | true => rw [hc] at h; cases h; exact ⟨n, f, rfl, inB_in hc, rfl⟩
  · cases h
theorem rd_inv {sc : Scr} {h : AHp} {p : Nat} {x : ACell} (e : rd sc h p = some x) : h[p]? = some x ∨ (p = 1000 ∧ x = .inl (0, sc.1, .inl sc.2)) ∨ (p = 1001 ∧ x = .inl (0, 5, .inl limbs)) := by
  unfold rd at e
  split at e
  · rename_i y hy
    cases e
    exact Or.inl hy
  · unfold ro at e
    cases h1 : Nat.beq p 1000 with
    | true => rw [h1] at e; cases e; exact Or.inr (Or.inl ⟨beqE h1, rfl⟩)
    | false =>
      rw [h1] at e
      cases h2 : Nat.beq p 1001 with
      | true => rw [h2] at e; cases e; exact Or.inr (Or.inr ⟨beqE h2, rfl⟩)
      | false => rw [h2] at e; cases e
section SB
variable {p : Program} {l : Launch} {e : Env} {R : Room} {s : State} {m : MethodId} {args : Array Value} {below : List Frame} {meth : Method} {c : Code} {H : Heap} {locs : List Loc} {cells slots : Nat} {Q : State → Prop}
variable {cc : ByteArray} {pc : Nat} {ls : Array Slot} {ad : Nat → Nat} {cT : Nat → ClassId} {D : va_G} {sc : Scr} {base : Nat}
theorem s_hrd (hx : p.tables.exec = Jvm.exec) (hb : c.code = cc) {o nL : Nat} {rt : Option FieldType} {ini : Bool} {a b : Nat} {v : Value} (hown : s.vm.findClass (own o) = some m.cls) (hts : ∀ w ∈ wT, w.before args s = true) {ins : Instr} (hdg : decode cc pc = .ok (ins, ilen ins)) (hk : lnk o nL rt ini pc ins a b v = true)
    (hG : Ga base ad) {h : AHp} (w : Wd base ad cT D sc h s H) (hS : va_S (fun q => base ≤ q) s.heap H locs) (hbs0 : base ≤ s.heap.size) {S S' : Stk} (hh : hrd sc ins a b v S h = some S')
    (k : W p l e R s m args below meth c H locs cells slots Q (F0 m (pc + ilen ins) ls (cS ad S'))) : W p l e R s m args below meth c H locs cells slots Q (F0 m pc ls (cS ad S)) := by
  obtain ⟨hlen, hP, hK, hX0, hX1, hZ⟩ := w
  have hlc := hS.2.2
  have hbs : base ≤ H.size := Nat.le_trans hbs0 hS.1
  have hSS : va_S (fun q => base ≤ q) H H locs := ⟨Nat.le_refl _, fun _ _ _ => rfl, hlc⟩
  have hT1 : va_T .int (ad 1001) 5 (fun j => .int (limbs j)) (fun q => base ≤ q) s s.heap := hX1.kept (fun a _ ha => (hS.2.1 a (Nat.lt_of_lt_of_le (Nat.lt_of_not_le ha) hbs0) ha).symm)
  unfold hrd at hh
  split at hh
  · cases hh
    obtain ⟨h1, h2⟩ := andE hk
    obtain ⟨h2, h3⟩ := andE h2
    obtain rfl := of_decide_eq_true h1
    obtain rfl := beqE h2
    obtain rfl := beqE h3
    obtain ⟨cf, kf, fi, f, a1, cell, z1, z2, z3, z4, z5, z6, z7, z8⟩ := hZ
    exact va_WgetsN hx hb hown (hts _ (mem_wT w_li rfl)) z1 z2 z3 z4 z5 (fun e => by rw [e] at z6; cases z6) z7 rfl hdg k
  · split at hh
    · rename_i i q S0
      obtain ⟨fs, w, e1, e2, rfl⟩ := gfC_inv hh
      have he := cW_get (ad := ad) (cT := cT) e1
      have hv : (fs.map (cV ad))[b]? = some (cV ad w) := by rw [List.getElem?_map, e2]; rfl
      rcases (Bool.or_eq_true _ _).mp hk with hf | hf
      · have hf := of_decide_eq_true hf
        obtain ⟨r1, r2⟩ := FT_rng hf
        exact va_get (D := D) (cl := classes) (C := clR a) (T := clT a) (N := nfs a) (ref := clR a) hx hb hts (clin a r1) hown hK hP q he (clK a r1) b r2 (hts _ (mem_wT (FT_ok o _ hf) rfl)) (fun x hx => by rw [clT1 a r1 b r2] at hx; exact hx) hv hdg k
      · have hf := of_decide_eq_true hf
        obtain ⟨r1, r2⟩ := FT_rng hf
        exact va_getN (D := D) (cl := classes) (C := clR a) (T := clT a) (N := nfs a) (ref := clR a) (host := "WingCensus") hx hb hts (clin a r1) hown hK hP q he (clK a r1) b r2 (hts _ (mem_wT (FT_ok o _ hf) rfl)) (fun x hx => by rw [clT1 a r1 b r2] at hx; exact hx) hv hdg k
    · cases hh
  · split at hh
    · rename_i i q S0
      obtain ⟨n, f, e1, e2, rfl⟩ := ialC_inv hh
      rcases rd_inv e1 with e9 | ⟨rfl, e9⟩ | ⟨rfl, e9⟩
      · exact va_iald hx hb hK hP q 0 (cW_get e9) rfl e2 hdg k
      · cases e9
        exact va_sld (A := fun q => base ≤ q) hx hb hX0 (Nat.lt_of_lt_of_le hG.2.1 hbs) (Nat.not_le.mpr hG.2.1) hSS e2 hdg k
      · cases e9
        exact va_ti hx hb hT1 hS e2 rfl hdg k
    · cases hh
  · split at hh
    · rename_i i q S0
      obtain ⟨n, f, e1, e2, rfl⟩ := lalC_inv hh
      exact va_lald hx hb hK hP q 1 (cW_get e1) rfl e2 hdg k
    · cases hh
  · split at hh
    · rename_i i q S0
      obtain ⟨n, f, e1, e2, rfl⟩ := balC_inv hh
      exact va_zald hx hb hK hP q 2 (cW_get e1) rfl e2 hdg k
    · cases hh
  · split at hh
    · rename_i q S0
      unfold lenC at hh
      split at hh
      · rename_i n x e1
        cases hh
        rcases rd_inv e1 with e9 | ⟨rfl, e9⟩ | ⟨rfl, e9⟩
        · exact va_alen hx hb hK hP q 0 (cW_get e9) rfl rfl hdg k
        · cases e9
          exact va_slen (A := fun q => base ≤ q) hx hb hX0 (Nat.lt_of_lt_of_le hG.2.1 hbs) (Nat.not_le.mpr hG.2.1) hSS hdg k
        · cases e9
          exact va_tlen hx hb hT1 hS rfl hdg k
      · rename_i n x e1
        cases hh
        rcases rd_inv e1 with e9 | ⟨rfl, e9⟩ | ⟨rfl, e9⟩
        · exact va_alen hx hb hK hP q 1 (cW_get e9) rfl rfl hdg k
        · cases e9
        · cases e9
      · cases hh
    · cases hh
  · cases hh
end SB
