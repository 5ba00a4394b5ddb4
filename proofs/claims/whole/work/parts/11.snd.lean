/-! the interpreter's steps are the machine's: plain steps, branches -/
def cV (ad : Nat → Nat) : Value → Value
  | .ref i => .ref (ad i)
  | v => v
def cS (ad : Nat → Nat) (S : Stk) : List Value := S.map (cV ad)
def cL (ad : Nat → Nat) (L : Lcs) : List (Nat × Value) := (List.range L.length).filterMap (fun i => (gL L i).map (fun v => (i, cV ad v)))
theorem cV_cat (ad : Nat → Nat) (v : Value) : (cV ad v).category = v.category := by cases v <;> rfl
theorem cS_cat (ad : Nat → Nat) (S : Stk) : ((cS ad S).map fun v => v.category).sum = catS S := by
  unfold cS catS
  rw [List.map_map]
  congr 1
  apply List.map_congr_left
  intro v _
  exact cV_cat ad v
theorem isC1_cat {ad : Nat → Nat} {v : Value} (h : isC1 v = true) : (cV ad v).category = 1 := by
  cases v <;> first | rfl | (simp [isC1] at h)
theorem C1_cat {v : Value} (h : isC1 v = true) : ¬ v.category = 2 := by
  cases v <;> first | (intro h2; cases h2; done) | (simp [isC1] at h)
theorem C2_cat {v : Value} (h : isC1 v = false) : v.category = 2 := by
  cases v <;> first | rfl | (simp [isC1] at h)
theorem gL_lt {L : Lcs} {i : Nat} {v : Value} (h : gL L i = some v) : L[i]? = some (some v) := by
  unfold gL gL0 at h
  split at h
  · rename_i w e
    cases h
    exact e
  · cases h
theorem gL_of {L : Lcs} {i : Nat} {v : Value} (h : L[i]? = some (some v)) : gL L i = some v := by
  unfold gL
  rw [h]
  rfl
theorem cL_mem {ad : Nat → Nat} {L : Lcs} {q : Nat × Value} : q ∈ cL ad L ↔ ∃ v, gL L q.1 = some v ∧ q.2 = cV ad v := by
  unfold cL
  constructor
  · intro h
    obtain ⟨i, h1, h2⟩ := List.mem_filterMap.mp h
    cases hg : gL L i with
    | none => rw [hg] at h2; cases h2
    | some v => rw [hg] at h2; cases h2; exact ⟨v, hg, rfl⟩
  · intro ⟨v, h1, h2⟩
    refine List.mem_filterMap.mpr ⟨q.1, List.mem_range.mpr (List.getElem?_eq_some_iff.mp (gL_lt h1)).1, ?_⟩
    rw [h1]
    show some (q.1, cV ad v) = some q
    rw [← h2]
theorem kil_get {L : Lcs} {i j : Nat} {v : Value} (h : (kil L i)[j]? = some (some v)) : L[j]? = some (some v) ∧ ¬ (j + 1 = i ∧ v.category = 2) := by
  cases i with
  | zero => exact ⟨h, fun e => by omega⟩
  | succ n =>
    have h2 : (kil1 L n L[n]?)[j]? = some (some v) := h
    unfold kil1 at h2
    split at h2
    · rename_i w e
      cases hw : isC1 w with
      | true =>
        rw [hw] at h2
        refine ⟨h2, fun e2 => ?_⟩
        obtain ⟨e2, e3⟩ := e2
        have e4 : j = n := by omega
        subst e4
        have h3 := e.symm.trans h2
        cases h3
        exact C1_cat hw e3
      | false =>
        rw [hw] at h2
        have h3 : (L.set n none)[j]? = some (some v) := h2
        rw [List.getElem?_set] at h3
        split at h3
        · split at h3 <;> cases h3
        · rename_i hne
          exact ⟨h3, fun e2 => hne (by omega)⟩
    · rename_i hno
      refine ⟨h2, fun e2 => ?_⟩
      obtain ⟨e2, e3⟩ := e2
      have e4 : j = n := by omega
      subst e4
      exact hno v h2
theorem kil_1 (x : Option Value) (r : Lcs) : kil (x :: r) 1 = kio x :: r := by
  show kil1 (x :: r) 0 (some x) = _
  unfold kil1 kio
  cases x with
  | none => rfl
  | some v =>
    cases hv : isC1 v <;> simp [hv]
theorem kil_2 (x : Option Value) (r : Lcs) (n : Nat) : kil (x :: r) (n + 2) = x :: kil r (n + 1) := by
  show kil1 (x :: r) (n + 1) r[n]? = x :: kil1 r n r[n]?
  unfold kil1
  split
  · rename_i v e
    cases hv : isC1 v <;> rfl
  · rfl
theorem sL1_eq : ∀ (L : Lcs) (i : Nat) (v : Value), sL1 L i v = (kil L i).set i (some v)
  | [], 0, v => rfl
  | [], i + 1, v => by
    show [] = (kil1 [] i none).set (i + 1) (some v)
    rfl
  | x :: r, 0, v => rfl
  | x :: r, 1, v => by
    rw [kil_1]
    show kio x :: sL1 r 0 v = kio x :: r.set 0 (some v)
    rw [sL1_eq r 0 v]
    rfl
  | x :: r, n + 2, v => by
    rw [kil_2]
    show x :: sL1 r (n + 1) v = x :: (kil r (n + 1)).set (n + 1) (some v)
    rw [sL1_eq r (n + 1) v]
theorem sL2_eq : ∀ (L : Lcs) (i : Nat) (v : Value), sL2 L i v = ((kil L i).set i (some v)).set (i + 1) none
  | [], 0, v => rfl
  | [], i + 1, v => rfl
  | x :: [], 0, v => rfl
  | x :: y :: r, 0, v => rfl
  | x :: r, 1, v => by
    rw [kil_1]
    show kio x :: sL2 r 0 v = kio x :: (r.set 0 (some v)).set 1 none
    rw [sL2_eq r 0 v]
    rfl
  | x :: r, n + 2, v => by
    rw [kil_2]
    show x :: sL2 r (n + 1) v = x :: ((kil r (n + 1)).set (n + 1) (some v)).set (n + 2) none
    rw [sL2_eq r (n + 1) v]
theorem lv_mono {ls : Array Slot} {nL : Nat} {l l' : List (Nat × Value)} (h : lv_has ls nL l) (hs : ∀ q ∈ l', q ∈ l) : lv_has ls nL l' := ⟨h.1, h.2.1, fun q hq => h.2.2 q (hs q hq)⟩
theorem cL_st1 (ad : Nat → Nat) (L : Lcs) (i : Nat) (v : Value) : ∀ q ∈ cL ad (sL1 L i v), q ∈ (i, cV ad v) :: (cL ad L).filter (fun q => !(q.1 == i) && !(q.1 + 1 == i && q.2.category == 2)) := by
  intro q hq
  obtain ⟨w, h1, h2⟩ := cL_mem.mp hq
  have h3 := gL_lt h1
  rw [sL1_eq] at h3
  rw [List.getElem?_set] at h3
  split at h3
  · rename_i he
    split at h3
    · cases h3
      obtain ⟨q1, q2⟩ := q
      obtain rfl : i = q1 := he
      rw [show q2 = cV ad v from h2]
      exact List.mem_cons_self
    · cases h3
  · rename_i hne
    obtain ⟨h4, h5⟩ := kil_get h3
    refine List.mem_cons_of_mem _ (List.mem_filter.mpr ⟨cL_mem.mpr ⟨w, gL_of h4, h2⟩, ?_⟩)
    rw [h2, cV_cat]
    have h6 : (q.1 == i) = false := by rw [beq_eq_false_iff_ne]; exact fun e => hne e.symm
    have h7 : (q.1 + 1 == i && w.category == 2) = false := by
      cases h8 : (q.1 + 1 == i && w.category == 2) with
      | false => rfl
      | true =>
        rw [Bool.and_eq_true, beq_iff_eq, beq_iff_eq] at h8
        exact absurd h8 h5
    rw [h6, h7]
    rfl
theorem cL_st2 (ad : Nat → Nat) (L : Lcs) (i : Nat) (v : Value) : ∀ q ∈ cL ad (sL2 L i v), q ∈ (i, cV ad v) :: (cL ad L).filter (fun q => !(q.1 == i) && (!(q.1 == i + 1) && !(q.1 + 1 == i && q.2.category == 2))) := by
  intro q hq
  obtain ⟨w, h1, h2⟩ := cL_mem.mp hq
  have h3 := gL_lt h1
  rw [sL2_eq] at h3
  rw [List.getElem?_set] at h3
  split at h3
  · split at h3 <;> cases h3
  · rename_i hne0
    rw [List.getElem?_set] at h3
    split at h3
    · rename_i he
      split at h3
      · cases h3
        obtain ⟨q1, q2⟩ := q
        obtain rfl : i = q1 := he
        rw [show q2 = cV ad v from h2]
        exact List.mem_cons_self
      · cases h3
    · rename_i hne
      obtain ⟨h4, h5⟩ := kil_get h3
      refine List.mem_cons_of_mem _ (List.mem_filter.mpr ⟨cL_mem.mpr ⟨w, gL_of h4, h2⟩, ?_⟩)
      rw [h2, cV_cat]
      have h6 : (q.1 == i) = false := by rw [beq_eq_false_iff_ne]; exact fun e => hne e.symm
      have h60 : (q.1 == i + 1) = false := by rw [beq_eq_false_iff_ne]; exact fun e => hne0 e.symm
      have h7 : (q.1 + 1 == i && w.category == 2) = false := by
        cases h8 : (q.1 + 1 == i && w.category == 2) with
        | false => rfl
        | true =>
          rw [Bool.and_eq_true, beq_iff_eq, beq_iff_eq] at h8
          exact absurd h8 h5
      rw [h6, h60, h7]
      rfl
theorem gL_cL {ad : Nat → Nat} {L : Lcs} {i : Nat} {v : Value} (h : gL L i = some v) : (i, cV ad v) ∈ cL ad L := cL_mem.mpr ⟨v, h, rfl⟩
theorem gL_ls {ad : Nat → Nat} {ls : Array Slot} {nL : Nat} {L : Lcs} {i : Nat} {v : Value} (hl : lv_has ls nL (cL ad L)) (h : gL L i = some v) : ls[i]? = some (.val (cV ad v)) := hl.2.2 (i, cV ad v) (gL_cL h)
theorem ii2_inv {f : Int32 → Int32 → Int32} {S S' : Stk} (h : ii2 f S = some S') : ∃ x y S0, S = .int y :: .int x :: S0 ∧ S' = .int (f x y) :: S0 := by
  unfold ii2 at h
  split at h
  · cases h
    exact ⟨_, _, _, rfl, rfl⟩
  · cases h
theorem iiD_inv {f : Int32 → Int32 → Int32} {S S' : Stk} (h : iiD f S = some S') : ∃ x y S0, ¬ y = 0 ∧ S = .int y :: .int x :: S0 ∧ S' = .int (f x y) :: S0 := by
  unfold iiD at h
  split at h
  · rename_i y x S0
    cases hy : (y == 0) with
    | true =>
      rw [hy] at h
      cases h
    | false =>
      rw [hy] at h
      cases h
      exact ⟨x, y, S0, (fun e => by rw [e] at hy; exact absurd hy (by decide)), rfl, rfl⟩
  · cases h
theorem ll2_inv {f : Int64 → Int64 → Int64} {S S' : Stk} (h : ll2 f S = some S') : ∃ x y S0, S = .long y :: .long x :: S0 ∧ S' = .long (f x y) :: S0 := by
  unfold ll2 at h
  split at h
  · cases h
    exact ⟨_, _, _, rfl, rfl⟩
  · cases h
theorem llD_inv {f : Int64 → Int64 → Int64} {S S' : Stk} (h : llD f S = some S') : ∃ x y S0, ¬ y = 0 ∧ S = .long y :: .long x :: S0 ∧ S' = .long (f x y) :: S0 := by
  unfold llD at h
  split at h
  · rename_i y x S0
    cases hy : (y == 0) with
    | true =>
      rw [hy] at h
      cases h
    | false =>
      rw [hy] at h
      cases h
      exact ⟨x, y, S0, (fun e => by rw [e] at hy; exact absurd hy (by decide)), rfl, rfl⟩
  · cases h
theorem li2_inv {f : Int64 → Int32 → Int64} {S S' : Stk} (h : li2 f S = some S') : ∃ x y S0, S = .int y :: .long x :: S0 ∧ S' = .long (f x y) :: S0 := by
  unfold li2 at h
  split at h
  · cases h
    exact ⟨_, _, _, rfl, rfl⟩
  · cases h
theorem i1_inv {f : Int32 → Value} {S S' : Stk} (h : i1 f S = some S') : ∃ x S0, S = .int x :: S0 ∧ S' = f x :: S0 := by
  unfold i1 at h
  split at h
  · cases h
    exact ⟨_, _, rfl, rfl⟩
  · cases h
theorem l1_inv {f : Int64 → Value} {S S' : Stk} (h : l1 f S = some S') : ∃ x S0, S = .long x :: S0 ∧ S' = f x :: S0 := by
  unfold l1 at h
  split at h
  · cases h
    exact ⟨_, _, rfl, rfl⟩
  · cases h
theorem lcm2_inv {S S' : Stk} (h : lcm2 S = some S') : ∃ x y S0, S = .long y :: .long x :: S0 ∧ S' = .int (lg_cmp x y) :: S0 := by
  unfold lcm2 at h
  split at h
  · cases h
    exact ⟨_, _, _, rfl, rfl⟩
  · cases h
theorem dupS_inv {S S' : Stk} (h : dupS S = some S') : ∃ v S0, isC1 v = true ∧ S = v :: S0 ∧ S' = v :: v :: S0 := by
  unfold dupS at h
  split at h
  · rename_i v S0
    cases hv : isC1 v with
    | true => rw [hv] at h; cases h; exact ⟨_, _, hv, rfl, rfl⟩
    | false => rw [hv] at h; cases h
  · cases h
theorem dup2S_inv {S S' : Stk} (h : dup2S S = some S') : ∃ v w S0, isC1 v = true ∧ isC1 w = true ∧ S = v :: w :: S0 ∧ S' = v :: w :: v :: w :: S0 := by
  unfold dup2S at h
  split at h
  · rename_i v w S0
    cases hv : (isC1 v && isC1 w) with
    | true => rw [hv] at h; cases h; rw [Bool.and_eq_true] at hv; exact ⟨_, _, _, hv.1, hv.2, rfl, rfl⟩
    | false => rw [hv] at h; cases h
  · cases h
section SA
variable {p : Program} {l : Launch} {e : Env} {R : Room} {s : State} {m : MethodId} {args : Array Value} {below : List Frame} {meth : Method} {c : Code} {H : Heap} {locs : List Loc} {cells slots : Nat} {Q : State → Prop}
variable {cc : ByteArray} {pc : Nat} {ls : Array Slot} {ad : Nat → Nat}
theorem s_alu (hx : p.tables.exec = Jvm.exec) (hb : c.code = cc) {ins : Instr} (hdg : decode cc pc = .ok (ins, ilen ins)) {S S' : Stk} (h : alu ins S = some S')
    (k : W p l e R s m args below meth c H locs cells slots Q (F0 m (pc + ilen ins) ls (cS ad S'))) : W p l e R s m args below meth c H locs cells slots Q (F0 m pc ls (cS ad S)) := by
  unfold alu at h
  split at h
  · obtain ⟨x, y, S0, rfl, rfl⟩ := ii2_inv h; exact lv_iadd (rest := cS ad S0) hx hb hdg k
  · obtain ⟨x, y, S0, rfl, rfl⟩ := ii2_inv h; exact lv_isub (rest := cS ad S0) hx hb hdg k
  · obtain ⟨x, y, S0, rfl, rfl⟩ := ii2_inv h; exact lv_imul (rest := cS ad S0) hx hb hdg k
  · obtain ⟨x, y, S0, rfl, rfl⟩ := ii2_inv h; exact lv_iand (rest := cS ad S0) hx hb hdg k
  · obtain ⟨x, y, S0, rfl, rfl⟩ := ii2_inv h; exact lv_ior (rest := cS ad S0) hx hb hdg k
  · obtain ⟨x, y, S0, rfl, rfl⟩ := ii2_inv h; exact lv_ixor (rest := cS ad S0) hx hb hdg k
  · obtain ⟨x, y, S0, rfl, rfl⟩ := ii2_inv h; exact lv_ishl (rest := cS ad S0) hx hb hdg k
  · obtain ⟨x, y, S0, rfl, rfl⟩ := ii2_inv h; exact lv_ishr (rest := cS ad S0) hx hb hdg k
  · obtain ⟨x, y, S0, rfl, rfl⟩ := ii2_inv h; exact lv_iushr (rest := cS ad S0) hx hb hdg rfl k
  · obtain ⟨x, y, S0, hy, rfl, rfl⟩ := iiD_inv h; exact lv_idiv (rest := cS ad S0) hx hb hdg hy k
  · obtain ⟨x, y, S0, hy, rfl, rfl⟩ := iiD_inv h; exact lv_irem (rest := cS ad S0) hx hb hdg hy k
  · obtain ⟨x, S0, rfl, rfl⟩ := i1_inv h; exact lv_ineg (rest := cS ad S0) hx hb hdg k
  · obtain ⟨x, y, S0, rfl, rfl⟩ := ll2_inv h; exact lv_ladd (rest := cS ad S0) hx hb hdg k
  · obtain ⟨x, y, S0, rfl, rfl⟩ := ll2_inv h; exact lv_lsub (rest := cS ad S0) hx hb hdg k
  · obtain ⟨x, y, S0, rfl, rfl⟩ := ll2_inv h; exact lv_lmul (rest := cS ad S0) hx hb hdg k
  · obtain ⟨x, y, S0, rfl, rfl⟩ := ll2_inv h; exact lv_land (rest := cS ad S0) hx hb hdg k
  · obtain ⟨x, y, S0, rfl, rfl⟩ := ll2_inv h; exact lv_lor (rest := cS ad S0) hx hb hdg k
  · obtain ⟨x, y, S0, rfl, rfl⟩ := ll2_inv h; exact lv_lxor (rest := cS ad S0) hx hb hdg k
  · obtain ⟨x, y, S0, hy, rfl, rfl⟩ := llD_inv h; exact lv_ldiv (rest := cS ad S0) hx hb hdg hy k
  · obtain ⟨x, y, S0, hy, rfl, rfl⟩ := llD_inv h; exact lv_lrem (rest := cS ad S0) hx hb hdg hy k
  · obtain ⟨x, S0, rfl, rfl⟩ := l1_inv h; exact lv_lneg (rest := cS ad S0) hx hb hdg k
  · obtain ⟨x, y, S0, rfl, rfl⟩ := li2_inv h; exact lv_lshl (rest := cS ad S0) hx hb hdg rfl k
  · obtain ⟨x, y, S0, rfl, rfl⟩ := li2_inv h; exact lv_lshr (rest := cS ad S0) hx hb hdg rfl k
  · obtain ⟨x, y, S0, rfl, rfl⟩ := li2_inv h; exact lv_lushr (rest := cS ad S0) hx hb hdg rfl k
  · obtain ⟨x, S0, rfl, rfl⟩ := i1_inv h; exact lv_i2l (rest := cS ad S0) hx hb hdg rfl k
  · obtain ⟨x, S0, rfl, rfl⟩ := l1_inv h; exact lv_l2i (rest := cS ad S0) hx hb hdg rfl k
  · obtain ⟨x, y, S0, rfl, rfl⟩ := lcm2_inv h; exact W.lcmp (rest := cS ad S0) hx hb hdg k
  · obtain ⟨v, S0, hv, rfl, rfl⟩ := dupS_inv h; exact lv_dup (rest := cS ad S0) hx hb hdg (isC1_cat hv) k
  · obtain ⟨v, w, S0, hv, hw, rfl, rfl⟩ := dup2S_inv h; exact lv_dup2_11 (rest := cS ad S0) hx hb hdg (isC1_cat hv) (isC1_cat hw) k
  · cases h
theorem ldI_inv {x : Option Value} {v : Value} (h : ldI x = some v) : ∃ i, x = some (.int i) ∧ v = .int i := by
  unfold ldI at h
  split at h
  · cases h; exact ⟨_, rfl, rfl⟩
  · cases h
theorem ldL_inv {x : Option Value} {v : Value} (h : ldL x = some v) : ∃ i, x = some (.long i) ∧ v = .long i := by
  unfold ldL at h
  split at h
  · cases h; exact ⟨_, rfl, rfl⟩
  · cases h
theorem ldA_inv {x : Option Value} {v : Value} (h : ldA x = some v) : ∃ i, x = some (.ref i) ∧ v = .ref i := by
  unfold ldA at h
  split at h
  · cases h; exact ⟨_, rfl, rfl⟩
  · cases h
theorem push_inv {nx pc' : Nat} {L L' : Lcs} {S S' : Stk} {x : Option Value} (h : push nx L S x = some (pc', L', S')) : ∃ v, x = some v ∧ pc' = nx ∧ L' = L ∧ S' = v :: S := by
  unfold push at h
  split at h
  · cases h; exact ⟨_, rfl, rfl, rfl, rfl⟩
  · cases h
theorem stI_inv {nx a pc' : Nat} {L L' : Lcs} {S S' : Stk} (h : stI nx a L S = some (pc', L', S')) : ∃ x, S = .int x :: S' ∧ pc' = nx ∧ L' = sL1 L a (.int x) := by
  unfold stI at h
  split at h
  · cases h; exact ⟨_, rfl, rfl, rfl⟩
  · cases h
theorem stA_inv {nx a pc' : Nat} {L L' : Lcs} {S S' : Stk} (h : stA nx a L S = some (pc', L', S')) : ∃ x, S = .ref x :: S' ∧ pc' = nx ∧ L' = sL1 L a (.ref x) := by
  unfold stA at h
  split at h
  · cases h; exact ⟨_, rfl, rfl, rfl⟩
  · cases h
theorem stL_inv {nx a pc' : Nat} {L L' : Lcs} {S S' : Stk} (h : stL nx a L S = some (pc', L', S')) : ∃ x, S = .long x :: S' ∧ pc' = nx ∧ L' = sL2 L a (.long x) := by
  unfold stL at h
  split at h
  · cases h; exact ⟨_, rfl, rfl, rfl⟩
  · cases h
theorem incS_inv {nx a pc' : Nat} {L L' : Lcs} {S S' : Stk} {x : Option Value} {v : Value} (h : incS nx a L S x v = some (pc', L', S')) : ∃ i n, x = some (.int i) ∧ v = .int n ∧ S' = S ∧ pc' = nx ∧ L' = sL1 L a (.int (i + n)) := by
  unfold incS at h
  split at h
  · cases h; exact ⟨_, _, rfl, rfl, rfl, rfl, rfl⟩
  · cases h
theorem kOk_inv {i : Nat} {v : Value} {l : List (Nat × Int32)} (h : kOk i v l = true) : ∃ x, v = .int x ∧ (i, x) ∈ l := by
  unfold kOk at h
  split at h
  · exact ⟨_, rfl, of_decide_eq_true h⟩
  · cases h
theorem kOkL_inv {i : Nat} {v : Value} {l : List (Nat × Int64)} (h : kOkL i v l = true) : ∃ x, v = .long x ∧ (i, x) ∈ l := by
  unfold kOkL at h
  split at h
  · exact ⟨_, rfl, of_decide_eq_true h⟩
  · cases h
theorem beqE {a b : Nat} (h : Nat.beq a b = true) : a = b := Nat.eq_of_beq_eq_true h
theorem bltE {a b : Nat} (h : Nat.blt a b = true) : a < b := Nat.le_of_ble_eq_true h
theorem andE {a b : Bool} (h : (a && b) = true) : a = true ∧ b = true := by rwa [Bool.and_eq_true] at h
theorem s_st1 (hx : p.tables.exec = Jvm.exec) (hb : c.code = cc) {o nL : Nat} {rt : Option FieldType} {ini : Bool} {a b : Nat} {v : Value} (hown : s.vm.findClass (own o) = some m.cls) (hts : ∀ w ∈ wT, w.before args s = true) {ins : Instr} (hdg : decode cc pc = .ok (ins, ilen ins)) (hk : lnk o nL rt ini pc ins a b v = true)
    {L L' : Lcs} {S S' : Stk} {pc' : Nat} (hl : lv_has ls nL (cL ad L)) (h : st1 ins (pc + ilen ins) a v L S = some (pc', L', S'))
    (kk : ∀ ls' : Array Slot, lv_has ls' nL (cL ad L') → W p l e R s m args below meth c H locs cells slots Q (F0 m pc' ls' (cS ad S'))) : W p l e R s m args below meth c H locs cells slots Q (F0 m pc ls (cS ad S)) := by
  unfold st1 at h
  split at h
  · cases h
    obtain rfl := of_decide_eq_true hk
    exact lv_iconst hx hb hdg rfl (kk ls hl)
  · cases h
    obtain rfl := of_decide_eq_true hk
    exact lv_bipush hx hb hdg rfl (kk ls hl)
  · cases h
    obtain rfl := of_decide_eq_true hk
    exact lv_sipush hx hb hdg rfl (kk ls hl)
  · cases h
    obtain rfl := of_decide_eq_true hk
    exact lv_lconst hx hb hdg rfl (kk ls hl)
  · cases h
    obtain ⟨x, rfl, hm⟩ := kOk_inv hk
    exact lv_ldc hx hb hown (hts _ (mem_wT (KI_ok o _ hm) rfl)) hdg (kk ls hl)
  · cases h
    obtain ⟨x, rfl, hm⟩ := kOk_inv hk
    exact lv_ldcw hx hb hown (hts _ (mem_wT (KI_ok o _ hm) rfl)) hdg (kk ls hl)
  · cases h
    obtain ⟨x, rfl, hm⟩ := kOkL_inv hk
    exact lv_ldc2 hx hb hown (hts _ (mem_wT (KL_ok o _ hm) rfl)) hdg (kk ls hl)
  · obtain ⟨w, hw, rfl, rfl, rfl⟩ := push_inv h
    obtain ⟨x, hg, rfl⟩ := ldI_inv hw
    obtain rfl := beqE hk
    exact lv_iload hx hb hdg (gL_ls hl hg) (kk ls hl)
  · obtain ⟨w, hw, rfl, rfl, rfl⟩ := push_inv h
    obtain ⟨x, hg, rfl⟩ := ldI_inv hw
    obtain rfl := beqE hk
    exact lv_iload_n hx hb hdg rfl (gL_ls hl hg) (kk ls hl)
  · obtain ⟨w, hw, rfl, rfl, rfl⟩ := push_inv h
    obtain ⟨x, hg, rfl⟩ := ldL_inv hw
    obtain rfl := beqE hk
    exact lv_lload hx hb hdg (gL_ls hl hg) (kk ls hl)
  · obtain ⟨w, hw, rfl, rfl, rfl⟩ := push_inv h
    obtain ⟨x, hg, rfl⟩ := ldL_inv hw
    obtain rfl := beqE hk
    exact lv_lload_n hx hb hdg rfl (gL_ls hl hg) (kk ls hl)
  · obtain ⟨w, hw, rfl, rfl, rfl⟩ := push_inv h
    obtain ⟨x, hg, rfl⟩ := ldA_inv hw
    obtain rfl := beqE hk
    exact lv_aload hx hb hdg (gL_ls hl hg) (kk ls hl)
  · obtain ⟨w, hw, rfl, rfl, rfl⟩ := push_inv h
    obtain ⟨x, hg, rfl⟩ := ldA_inv hw
    obtain rfl := beqE hk
    exact lv_aload_n hx hb hdg rfl (gL_ls hl hg) (kk ls hl)
  · obtain ⟨x, rfl, rfl, rfl⟩ := stI_inv h
    obtain ⟨h1, h2⟩ := andE hk
    obtain rfl := beqE h1
    exact lv_istore hx hb hdg hl (bltE h2) rfl (fun ls' hl' => kk ls' (lv_mono hl' (cL_st1 ad L _ (.int x))))
  · obtain ⟨x, rfl, rfl, rfl⟩ := stI_inv h
    obtain ⟨h1, h2⟩ := andE hk
    obtain rfl := beqE h1
    exact lv_istore_n hx hb hdg rfl hl (bltE h2) rfl (fun ls' hl' => kk ls' (lv_mono hl' (cL_st1 ad L _ (.int x))))
  · obtain ⟨x, rfl, rfl, rfl⟩ := stL_inv h
    obtain ⟨h1, h2⟩ := andE hk
    obtain rfl := beqE h1
    exact lv_lstore hx hb hdg hl (bltE h2) rfl (fun ls' hl' => kk ls' (lv_mono hl' (cL_st2 ad L _ (.long x))))
  · obtain ⟨x, rfl, rfl, rfl⟩ := stL_inv h
    obtain ⟨h1, h2⟩ := andE hk
    obtain rfl := beqE h1
    exact lv_lstore_n hx hb hdg rfl hl (bltE h2) rfl (fun ls' hl' => kk ls' (lv_mono hl' (cL_st2 ad L _ (.long x))))
  · obtain ⟨x, rfl, rfl, rfl⟩ := stA_inv h
    obtain ⟨h1, h2⟩ := andE hk
    obtain rfl := beqE h1
    exact lv_astore hx hb hdg hl (bltE h2) rfl (fun ls' hl' => kk ls' (lv_mono hl' (cL_st1 ad L _ (.ref x))))
  · obtain ⟨x, rfl, rfl, rfl⟩ := stA_inv h
    obtain ⟨h1, h2⟩ := andE hk
    obtain rfl := beqE h1
    exact lv_astore_n hx hb hdg rfl hl (bltE h2) rfl (fun ls' hl' => kk ls' (lv_mono hl' (cL_st1 ad L _ (.ref x))))
  · obtain ⟨x, n, hg, rfl, rfl, rfl, rfl⟩ := incS_inv h
    obtain ⟨h1, h20⟩ := andE hk
    obtain ⟨h21, h30⟩ := andE h20
    obtain rfl := beqE h1
    have h4 := of_decide_eq_true h30
    cases h4
    obtain ⟨kx, hkx⟩ := List.getElem?_of_mem (gL_cL (ad := ad) hg)
    exact lv_iinc hx hb hdg hl hkx rfl (bltE h21) rfl (fun ls' hl' => kk ls' (lv_mono hl' (cL_st1 ad L _ (.int _))))
  · cases h
    exact lv_goto hx hb hdg (of_decide_eq_true hk) (kk ls hl)
  · cases hA : alu ins S with
    | none => rw [hA] at h; cases h
    | some S1 =>
      rw [hA] at h
      cases h
      exact s_alu hx hb hdg hA (kk ls hl)
theorem s_br (hx : p.tables.exec = Jvm.exec) (hb : c.code = cc) {o nL : Nat} {rt : Option FieldType} {ini : Bool} {a b : Nat} {v : Value} {ins : Instr} (hdg : decode cc pc = .ok (ins, ilen ins)) (hk : lnk o nL rt ini pc ins a b v = true)
    {S S' : Stk} {cd : Bool} (h : brS ins S = some (cd, S'))
    (k : W p l e R s m args below meth c H locs cells slots Q (F0 m (bif cd then a else pc + ilen ins) ls (cS ad S'))) : W p l e R s m args below meth c H locs cells slots Q (F0 m pc ls (cS ad S)) := by
  unfold brS at h
  split at h
  · rename_i q off
    unfold br0 at h
    split at h
    · rename_i x S0
      have ht := of_decide_eq_true hk
      cases h
      cases q
      · exact lv_if_eq hx hb hdg ht (fun z => by rw [show ifB .eq x = true from decide_eq_true z] at k; exact k) (fun z => by rw [show ifB .eq x = false from decide_eq_false z] at k; exact k)
      · exact lv_if_ne hx hb hdg ht (fun z => by rw [show ifB .ne x = true from decide_eq_true z] at k; exact k) (fun z => by rw [show ifB .ne x = false from decide_eq_false (fun n => n z)] at k; exact k)
      · exact lv_if_lt hx hb hdg ht (fun z => by rw [show ifB .lt x = true from decide_eq_true z] at k; exact k) (fun z => by rw [show ifB .lt x = false from decide_eq_false z] at k; exact k)
      · exact lv_if_ge hx hb hdg ht (fun z => by rw [show ifB .ge x = true from decide_eq_true z] at k; exact k) (fun z => by rw [show ifB .ge x = false from decide_eq_false z] at k; exact k)
      · exact lv_if_gt hx hb hdg ht (fun z => by rw [show ifB .gt x = true from decide_eq_true z] at k; exact k) (fun z => by rw [show ifB .gt x = false from decide_eq_false z] at k; exact k)
      · exact lv_if_le hx hb hdg ht (fun z => by rw [show ifB .le x = true from decide_eq_true z] at k; exact k) (fun z => by rw [show ifB .le x = false from decide_eq_false z] at k; exact k)
    · cases h
  · rename_i q off
    unfold br2 at h
    split at h
    · rename_i y x S0
      have ht := of_decide_eq_true hk
      cases h
      cases q
      · exact lv_icmp_eq hx hb hdg ht (fun z => by rw [show cmB .eq x y = true from decide_eq_true z] at k; exact k) (fun z => by rw [show cmB .eq x y = false from decide_eq_false z] at k; exact k)
      · exact lv_icmp_ne hx hb hdg ht (fun z => by rw [show cmB .ne x y = true from decide_eq_true z] at k; exact k) (fun z => by rw [show cmB .ne x y = false from decide_eq_false (fun n => n z)] at k; exact k)
      · exact lv_icmp_lt hx hb hdg ht (fun z => by rw [show cmB .lt x y = true from decide_eq_true z] at k; exact k) (fun z => by rw [show cmB .lt x y = false from decide_eq_false z] at k; exact k)
      · exact lv_icmp_ge hx hb hdg ht (fun z => by rw [show cmB .ge x y = true from decide_eq_true z] at k; exact k) (fun z => by rw [show cmB .ge x y = false from decide_eq_false z] at k; exact k)
      · exact lv_icmp_gt hx hb hdg ht (fun z => by rw [show cmB .gt x y = true from decide_eq_true z] at k; exact k) (fun z => by rw [show cmB .gt x y = false from decide_eq_false z] at k; exact k)
      · exact lv_icmp_le hx hb hdg ht (fun z => by rw [show cmB .le x y = true from decide_eq_true z] at k; exact k) (fun z => by rw [show cmB .le x y = false from decide_eq_false z] at k; exact k)
    · cases h
  · cases h
theorem off_ge {pc : Nat} {d x : Int} : ∀ {l : List (Int × Int)}, 0 ≤ (pc : Int) + d → l.all (fun q => decide (0 ≤ (pc : Int) + q.2)) = true → 0 ≤ (pc : Int) + Op.lookupswitch.offset l d x
  | [], h, _ => h
  | (a, f) :: r, h, h2 => by
    rw [List.all_cons] at h2
    obtain ⟨h3, h4⟩ := andE h2
    rw [Op.lookupswitch.offset_cons]
    split
    · exact of_decide_eq_true h3
    · exact off_ge h h4
theorem s_sw (hx : p.tables.exec = Jvm.exec) (hb : c.code = cc) {o nL : Nat} {rt : Option FieldType} {ini : Bool} {a b len : Nat} {v : Value} {ins : Instr} (hdg : decode cc pc = .ok (ins, len)) (hk : lnk o nL rt ini pc ins a b v = true)
    {S S' : Stk} {t : Nat} (h : swS ins pc S = some (t, S'))
    (k : W p l e R s m args below meth c H locs cells slots Q (F0 m t ls (cS ad S'))) : W p l e R s m args below meth c H locs cells slots Q (F0 m pc ls (cS ad S)) := by
  unfold swS at h
  split at h
  · rename_i x S0
    cases hT : swT ins pc x with
    | none => rw [hT] at h; cases h
    | some t2 =>
      rw [hT] at h
      cases h
      unfold swT at hT
      split at hT
      · rename_i d lo hi offs
        obtain ⟨h1, h2⟩ := andE hk
        cases hc : (decide (x.toInt < lo) || decide (hi < x.toInt)) with
        | true =>
          rw [hc] at hT
          cases hT
          rw [Bool.or_eq_true, decide_eq_true_eq, decide_eq_true_eq] at hc
          exact lv_tableOut hx hb hdg hc (Int.toNat_of_nonneg (of_decide_eq_true h1)).symm k
        | false =>
          rw [hc] at hT
          rw [Bool.or_eq_false_iff, decide_eq_false_iff_not, decide_eq_false_iff_not] at hc
          cases ho : offs[(x.toInt - lo).toNat]? with
          | none => rw [ho] at hT; cases hT
          | some off =>
            rw [ho] at hT
            cases hT
            have hm : off ∈ offs.toList := by
              rw [← Array.getElem?_toList] at ho
              exact List.mem_of_getElem? ho
            exact lv_tableIn hx hb hdg hc.1 hc.2 ho (Int.toNat_of_nonneg (of_decide_eq_true (List.all_eq_true.mp h2 off hm))).symm k
      · rename_i d ps
        cases hT
        obtain ⟨h1, h2⟩ := andE hk
        obtain ⟨h2, h3⟩ := andE h2
        exact lv_lookup hx hb hdg h1 rfl (Int.toNat_of_nonneg (off_ge (of_decide_eq_true h2) h3)).symm k
      · cases hT
  · cases h
end SA
