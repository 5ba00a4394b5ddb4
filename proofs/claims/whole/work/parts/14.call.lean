/-! the interpreter is sound: calls, and the whole run -/
theorem wT_warm {args a' : Array Value} {s U : State} (hts : ∀ w ∈ wT, w.before args s = true) (hW : s.WarmedH U.vm) : ∀ w ∈ wT, w.before a' U = true := by
  intro w hw
  have h0 := hts w hw
  have hg : gw w = true := (List.mem_filter.mp hw).2
  unfold gw at hg
  rcases (Bool.or_eq_true _ _).mp hg with h1 | h1
  · exact word_at hW (good_of_word h1) h0
  · split at h1
    · exact va_Nw.use rfl (va_Nw.warmF hW (va_Nw.of rfl h0))
    · exact va_Nw.use rfl (va_Nw.warmM hW (va_Nw.of rfl h0))
    · cases h1
theorem pad_get : ∀ (n : Nat) (l : Lcs) (i : Nat) (v : Value), (pad n l)[i]? = some (some v) → l[i]? = some (some v)
  | 0, _, _, _, h => by cases h
  | n + 1, [], 0, v, h => by cases h
  | n + 1, [], i + 1, v, h => by
    have h1 : (pad n [])[i]? = some (some v) := h
    have h2 := pad_get n [] i v h1
    cases h2
  | n + 1, x :: l, 0, v, h => h
  | n + 1, x :: l, i + 1, v, h => pad_get n l i v h
theorem argL_mem (ad : Nat → Nat) : ∀ (as : Stk) (i k : Nat) (v : Value), (argL as)[i]? = some (some v) → (i + k, cV ad v) ∈ lv_args k (as.map (cV ad))
  | [], i, k, v, h => by cases h
  | a :: r, i, k, v, h => by
    unfold argL at h
    show (i + k, cV ad v) ∈ (k, cV ad a) :: lv_args (if (cV ad a).category = 2 then k + 2 else k + 1) (r.map (cV ad))
    cases ha : isC1 a with
    | true =>
      rw [ha] at h
      rw [cV_cat, if_neg (C1_cat ha)]
      match i, h with
      | 0, h =>
        cases h
        rw [Nat.zero_add]
        exact List.mem_cons_self
      | i + 1, h =>
        have h2 := argL_mem ad r i (k + 1) v h
        rw [show i + 1 + k = i + (k + 1) by omega]
        exact List.mem_cons_of_mem _ h2
    | false =>
      rw [ha] at h
      rw [cV_cat, if_pos (C2_cat ha)]
      match i, h with
      | 0, h =>
        cases h
        rw [Nat.zero_add]
        exact List.mem_cons_self
      | 1, h => cases h
      | i + 2, h =>
        have h2 := argL_mem ad r i (k + 2) v h
        rw [show i + 2 + k = i + (k + 2) by omega]
        exact List.mem_cons_of_mem _ h2
theorem iniL_mem (ad : Nat → Nat) (n : Nat) (as : Stk) : ∀ q ∈ cL ad (iniL n as), q ∈ lv_args 0 (as.map (cV ad)) := by
  intro q hq
  obtain ⟨v, h1, h2⟩ := cL_mem.mp hq
  have h3 := argL_mem ad as q.1 0 v (pad_get n _ _ _ (gL_lt h1))
  rw [← h2] at h3
  exact h3
theorem lg_sl_len (ad : Nat → Nat) : ∀ (as : Stk), (lg_sl (as.map (cV ad))).length = catS as
  | [] => rfl
  | v :: vs => by
    have ih := lg_sl_len ad vs
    unfold lg_sl catS at ih ⊢
    rw [List.map_cons, List.flatMap_cons, List.length_append, ih, List.map_cons, List.sum_cons, cV_cat]
    congr 1
    rcases lv_cat v with h | h
    · rw [if_neg (by omega), h]; rfl
    · rw [if_pos h, h]; rfl
theorem hwr_len {ins : Instr} {a b : Nat} {S S' : Stk} {h h' : AHp} (hh : hwr ins a b S h = some (S', h')) : h'.length = h.length := by
  unfold hwr at hh
  split at hh
  · split at hh
    · obtain ⟨fs, e1, e2, e3, rfl, rfl⟩ := pfC_inv hh
      exact List.length_set
    · cases hh
  · split at hh
    · obtain ⟨n, f, e1, e2, rfl, rfl⟩ := iasC_inv hh
      exact List.length_set
    · cases hh
  · split at hh
    · obtain ⟨n, f, e1, e2, rfl, rfl⟩ := lasC_inv hh
      exact List.length_set
    · cases hh
  · split at hh
    · obtain ⟨n, f, e1, e2, rfl, rfl⟩ := basC_inv hh
      exact List.length_set
    · cases hh
  · cases h98 : Nat.beq a 998 with
    | true =>
      rw [h98] at hh
      have hh2 : cpyS h S = some (S', h') := hh
      unfold cpyS at hh2
      split at hh2
      · obtain ⟨n0, f, n1, g, e1, e2, h1, h2, h3, h4, h5, h6, rfl, rfl⟩ := cpC_inv hh2
        exact List.length_set
      · cases hh2
    | false =>
      rw [h98] at hh
      have hh2 : mthC a h S = some (S', h') := hh
      unfold mthC at hh2
      split at hh2
      · split at hh2
        · obtain ⟨h1, h2⟩ := bifE hh2; cases h2; rfl
        · cases hh2
      · split at hh2
        · obtain ⟨h1, h2⟩ := bifE hh2; cases h2; rfl
        · cases hh2
      · split at hh2
        · obtain ⟨h1, h2⟩ := bifE hh2; cases h2; rfl
        · cases hh2
      · split at hh2
        · obtain ⟨h1, h2⟩ := bifE hh2; cases h2; rfl
        · cases hh2
      · cases hh2
  · split at hh
    · obtain ⟨h1, h2⟩ := bifE hh; cases h2; rfl
    · cases hh
  · cases hh
theorem alc_len {ins : Instr} {a n : Nat} {S S' : Stk} {h h' : AHp} (hh : alc ins a S h = some (S', h', n)) : h'.length = h.length + 1 := by
  unfold alc at hh
  split at hh
  · obtain ⟨h1, h2⟩ := bifE hh; cases h2; rw [List.length_append]; rfl
  · split at hh
    · obtain ⟨h1, h2⟩ := bifE hh; cases h2; rw [List.length_append]; rfl
    · cases hh
  · cases hh
theorem run_len (sc : Scr) : ∀ (f d M pc : Nat) (L : Lcs) (S : Stk) (h : AHp) (r : Option Value) (h' : AHp) (cn sn : Nat), run sc f d M pc L S h = some (r, h', cn, sn) → h'.length = h.length + cn := by
  intro f
  induction f with
  | zero => intro d M pc L S h r h' cn sn e; cases e
  | succ f ih =>
    intro d M pc L S h r h' cn sn e
    unfold run at e
    split at e
    · cases e
    · rename_i ins nx a b v hc
      split at e
      · split at e
        · cases e
        · exact ih _ _ _ _ _ _ _ _ _ _ e
      · split at e
        · cases e
        · exact ih _ _ _ _ _ _ _ _ _ _ e
      · split at e
        · cases e
        · exact ih _ _ _ _ _ _ _ _ _ _ e
      · split at e
        · cases e
        · exact ih _ _ _ _ _ _ _ _ _ _ e
      · split at e
        · cases e
        · rename_i S1 h1 hw
          rw [ih _ _ _ _ _ _ _ _ _ _ e]
          congr 1
          exact hwr_len hw
      · split at e
        · cases e
        · rename_i S1 h1 k hw
          split at e
          · cases e
          · rename_i r2 h2 c2 n2 e2
            cases e
            rw [ih _ _ _ _ _ _ _ _ _ _ e2, alc_len hw]
            omega
      · split at e
        · cases e
        · split at e
          · cases e
          · split at e
            · cases e
            · rename_i r1 h1 c1 n1 e1
              split at e
              · cases e
              · rename_i r2 h2 c2 n2 e2
                cases e
                rw [ih _ _ _ _ _ _ _ _ _ _ e2, ih _ _ _ _ _ _ _ _ _ _ e1]
                omega
      · split at e
        · cases e
        · cases e
          rfl
def Pcc (base : Nat) (ad : Nat → Nat) (cT : Nat → ClassId) (D : va_G) (sc : Scr) (as : Stk) (h : AHp) : Array Value → State → Prop := va_Pc (as.map (cV ad)) (fun U => Wd base ad cT D sc h U U.heap ∧ base ≤ U.heap.size ∧ U.heap.size ≤ base + h.length)
def Qcc (base : Nat) (ad : Nat → Nat) (cT : Nat → ClassId) (D : va_G) (sc : Scr) (rv : Option Value) (h' : AHp) : Array Value → State → Outcome → State → Prop := fun _ st oc t => oc = .returned (rv.map (cV ad)) ∧ Wd base ad cT D sc h' t t.heap ∧ (∀ q, q < base → t.heap[q]? = st.heap[q]?) ∧ st.heap.size ≤ t.heap.size
def rmM (d cn sn : Nat) : Room := { frames := d + 1, cells := cn, slots := sn, locals := 50 * (d + 1) }
theorem Pcc_blind {base : Nat} {ad : Nat → Nat} {cT : Nat → ClassId} {D : va_G} {sc : Scr} {as : Stk} {h : AHp} : FrameBlind (Pcc base ad cT D sc as h) := by
  intro a U g mk q
  obtain ⟨q0, q1, q2, q3⟩ := q
  exact ⟨q0, Wd.moved (u := U) (U := U.calling g mk a) (Vm.Alike.refl U.vm) q1, q2, q3⟩
theorem ownR : ∀ o, o < 7 → own o = clR o
  | 0, _ => rfl
  | 1, _ => rfl
  | 2, _ => rfl
  | 3, _ => rfl
  | 4, _ => rfl
  | 5, _ => rfl
  | 6, _ => rfl
  | n + 7, h => absurd h (by omega)
theorem chkH_inv {y : MethodName} {cc : ByteArray} {ml o kind np : Nat} {rt : Option FieldType} {k : List (Nat × Ent)} (h : chkH (y, cc, ml, rt, o, kind, np, k) = true) : plainName y.cls = true ∧ y.cls = own o ∧ ml ≤ 20 ∧ (y.cls ≠ "java/lang/invoke/MethodHandle" ∧ y.cls ≠ "java/lang/invoke/VarHandle") ∧ (parseMethodDescriptor y.desc).map (fun d => d.parameters.length) = some np ∧ (kind = 2 → y.name = "<init>") := by
  obtain ⟨h1, h⟩ := andE h
  obtain ⟨h2, h⟩ := andE h
  obtain ⟨h3, h⟩ := andE h
  obtain ⟨h4, h⟩ := andE h
  obtain ⟨h5, h⟩ := andE h
  obtain ⟨h6, h7⟩ := andE h
  refine ⟨h1, of_decide_eq_true h2, Nat.le_of_ble_eq_true h3, of_decide_eq_true h4, of_decide_eq_true h5, fun e => ?_⟩
  subst e
  rcases (Bool.or_eq_true _ _).mp h7 with h8 | h8
  · cases h8
  · exact of_decide_eq_true h8
theorem cal_inv {ins : Instr} {b nl : Nat} {v : Value} {S as rest : Stk} {h : AHp} (e : cal ins b v S h = some (as, rest, nl)) : ∃ z, v = .retAddr z ∧ nl = z / 100 ∧ as.length = b ∧ catS rest ≤ 8 ∧ catS as ≤ z / 100 ∧ rcv ins (z % 100) as h = true ∧ S = as.reverse ++ rest := by
  unfold cal at e
  split at e
  · rename_i z
    unfold calZ at e
    obtain ⟨h1, h2⟩ := bifE e
    cases h2
    obtain ⟨h1, h3⟩ := andE h1
    obtain ⟨h3, h4⟩ := andE h3
    obtain ⟨h4, h5⟩ := andE h4
    have hl := Nat.le_of_ble_eq_true h1
    refine ⟨z, rfl, rfl, ?_, Nat.le_of_ble_eq_true h3, ?_, h5, ?_⟩
    · rw [List.length_reverse, List.length_take]
      exact Nat.min_eq_left hl
    · have h6 : catS (S.take b).reverse = catS (S.take b) := by
        unfold catS
        rw [List.map_reverse, List.sum_reverse]
      rw [h6]
      exact Nat.le_of_ble_eq_true h4
    · rw [List.reverse_reverse, List.take_append_drop]
  · cases e
theorem cOk_inv {o i a b kind : Nat} {v : Value} (h : cOk o i a b kind v = true) : ∃ y cc ml rt o' np k z, mt a = some (y, cc, ml, rt, o', kind, np, k) ∧ b = (bif Nat.beq kind 0 then np else np + 1) ∧ ((i, a, 0) ∈ XT o ∨ (i, a, 1) ∈ XT o) ∧ v = .retAddr z ∧ z / 100 = ml ∧ (kind = 1 → z % 100 = o' ∧ o' < 7) := by
  unfold cOk at h
  split at h
  · rename_i y cc ml rt o' k' np k hm
    obtain ⟨h1, g1⟩ := andE h
    obtain ⟨h2, g2⟩ := andE g1
    obtain ⟨h3, h4⟩ := andE g2
    clear h g1 g2
    obtain rfl := beqE h1
    split at h4
    · rename_i z
      obtain ⟨h5, h6⟩ := andE h4
      refine ⟨y, cc, ml, rt, o', np, k, z, hm, beqE h2, ?_, rfl, beqE h5, fun e => ?_⟩
      · rw [Bool.or_eq_true, decide_eq_true_eq, decide_eq_true_eq] at h3
        exact h3
      · subst e
        obtain ⟨h7, h8⟩ := andE h6
        exact ⟨beqE h7, bltE h8⟩
    · cases h4
  · cases h
def notLaw : Option Meta → Bool
  | some (_, _, _, _, o, _) => !(Nat.beq o 7)
  | none => true
theorem XT_law0 : ∀ o, o < 12 → (XT o).all (fun q => notLaw (mt q.2.1)) = true := by decide +kernel
theorem XT_law {o i a f : Nat} (h : (i, a, f) ∈ XT o) {y : MethodName} {cc : ByteArray} {ml kind np : Nat} {rt : Option FieldType} {k : List (Nat × Ent)} (hm : mt a = some (y, cc, ml, rt, 7, kind, np, k)) : False := by
  rcases Nat.lt_or_ge o 12 with ho | ho
  · have h1 := List.all_eq_true.mp (XT_law0 o ho) _ h
    have h2 : notLaw (mt a) = true := h1
    rw [hm] at h2
    cases h2
  · obtain ⟨n, rfl⟩ : ∃ n, o = n + 12 := ⟨o - 12, by omega⟩
    cases h
def k2n (t : Meta) : Bool := match t with
  | (_, _, _, rt, _, kind, _, _) => !(Nat.beq kind 2) || rt.isNone
theorem k2n_all : mts.all (fun g => g.all k2n) = true := by decide +kernel
theorem kind2 {a : Nat} {y : MethodName} {cc : ByteArray} {ml np o : Nat} {rt : Option FieldType} {k : List (Nat × Ent)} (h : mt a = some (y, cc, ml, rt, o, 2, np, k)) : rt = none := by
  unfold mt at h
  have h1 := List.mem_of_getElem? h
  rw [List.getD_eq_getElem?_getD] at h1
  cases hg : mts[a / 16]? with
  | none => rw [hg] at h1; cases h1
  | some g =>
    rw [hg] at h1
    have h2 := List.all_eq_true.mp (List.all_eq_true.mp k2n_all g (List.mem_of_getElem? hg)) _ h1
    cases rt with
    | none => rfl
    | some t => cases h2
section SD
variable {p : Program} {l : Launch} {e : Env} {R : Room} {s : State} {m : MethodId} {args : Array Value} {below : List Frame} {meth : Method} {c : Code} {H : Heap} {locs : List Loc} {cells slots : Nat} {Q : State → Prop}
variable {cc : ByteArray} {pc : Nat} {ls : Array Slot} {ad : Nat → Nat} {cT : Nat → ClassId} {D : va_G} {sc : Scr} {base : Nat}
theorem s_ran {mc ms : Nat} {st0 rest : List Value} {rv : Option Value} {h1 : AHp} {a : Array Value} (hr : va_Run p l e R s m args below meth c H locs cells slots mc ms (F0 m pc ls st0) rest (Qcc base ad cT D sc rv h1 a) (fun q => base ≤ q)) (hS : va_S (fun q => base ≤ q) s.heap H locs)
    (kk : ∀ (H1 : Heap) (locs1 : List Loc), Wd base ad cT D sc h1 s H1 → va_S (fun q => base ≤ q) s.heap H1 locs1 → W p l e R s m args below meth c H1 locs1 (cells + mc) (slots + ms) Q (F0 m (pc + 3) ls ((rv.map (cV ad)).toList ++ rest))) : W p l e R s m args below meth c H locs cells slots Q (F0 m pc ls st0) := by
  intro T hT X
  obtain ⟨v, st₀, t, T', L, h0, X', hL, e1, e2, ⟨hv, hw, hq, hz⟩, st⟩ := hr T hT X
  cases hv
  rw [h0] at hq hz
  have hw' : Wd base ad cT D sc h1 s T'.heap := by
    rw [e1]
    exact Wd.moved (by rw [← e2]; exact X'.warmed.alike.symm) hw
  obtain ⟨t2, a1, b1⟩ := kk T'.heap (locs ++ L) hw' ⟨Nat.le_trans hS.1 (by rw [e1]; exact hz), fun q g1 g2 => by rw [e1, hq q (Nat.lt_of_not_le g2)]; exact hS.2.1 q g1 g2, fun q hq => by
      rcases List.mem_append.mp hq with h | h
      · exact hS.2.2 q h
      · exact hL q h⟩ T' rfl X'
  exact ⟨t2, st t2 a1, b1⟩
theorem rcC_inv {z : Nat} {x : Option ACell} (h : rcC z x = true) : ∃ fs, x = some (.inr (z, fs)) := by
  unfold rcC at h
  split at h
  · obtain rfl := beqE h
    exact ⟨_, rfl⟩
  · cases h
theorem s_call (hx : p.tables.exec = Jvm.exec) (hb : c.code = cc) {nL : Nat} (hml : c.maxLocals = nL) (hls : ls.size = nL) {o : Nat} {rt : Option FieldType} {ini : Bool} {a b : Nat} {v : Value} (hown : s.vm.findClass (own o) = some m.cls) (hts : ∀ w ∈ wT, w.before args s = true) {ins : Instr} (hdg : decode cc pc = .ok (ins, ilen ins)) (hk : lnk o nL rt ini pc ins a b v = true) (hkd : kd ins a = 6)
    {h : AHp} (w : Wd base ad cT D sc h s H) (hS : va_S (fun q => base ≤ q) s.heap H locs) (hbs : base ≤ s.heap.size) (hsz : s.heap.size + cells ≤ base + h.length) {S as rest : Stk} {nl : Nat} (hh : cal ins b v S h = some (as, rest, nl))
    {d' c1 n1 : Nat} {r1 : Option Value} {h1 : AHp} (hfr : d' + 2 ≤ R.frames) (hlo : 50 * (d' + 2) ≤ R.locals) (hc : cells + c1 ≤ R.cells) (hsl : slots + n1 ≤ R.slots)
    (hM : ∀ y cy ml ry o' kind np k, mt a = some (y, cy, ml, ry, o', kind, np, k) → ml = nl → catS as ≤ ml → Met l y (.code y cy ml ry :: wT) (rmM d' c1 n1) (Pcc base ad cT D sc as h) (Qcc base ad cT D sc r1 h1) c1 n1 (fun q => base ≤ q))
    (kk : ∀ (H1 : Heap) (locs1 : List Loc), Wd base ad cT D sc h1 s H1 → va_S (fun q => base ≤ q) s.heap H1 locs1 → W p l e R s m args below meth c H1 locs1 (cells + c1) (slots + n1) Q (F0 m (pc + ilen ins) ls (cS ad (r1.toList ++ rest)))) : W p l e R s m args below meth c H locs cells slots Q (F0 m pc ls (cS ad S)) := by
  obtain ⟨z, rfl, q0, q1, q2, q3, q4, rfl⟩ := cal_inv hh
  have hkk : ∀ (H1 : Heap) (locs1 : List Loc), ilen ins = 3 → Wd base ad cT D sc h1 s H1 → va_S (fun q => base ≤ q) s.heap H1 locs1 → W p l e R s m args below meth c H1 locs1 (cells + c1) (slots + n1) Q (F0 m (pc + 3) ls ((r1.map (cV ad)).toList ++ cS ad rest)) := by
    intro H1 locs1 h3 g1 g2
    have h4 := kk H1 locs1 g1 g2
    rw [h3] at h4
    have h5 : cS ad (r1.toList ++ rest) = (r1.map (cV ad)).toList ++ cS ad rest := by
      unfold cS
      rw [List.map_append]
      cases r1 <;> rfl
    rw [h5] at h4
    exact h4
  have hcat : 2 * (F0 m pc ls (cS ad (as.reverse ++ rest))).monitorRoom + ((cS ad rest).map fun v => v.category).sum ≤ 8 := by
    rw [cS_cat]
    show 2 * 0 + _ ≤ 8
    omega
  have hstk : cS ad (as.reverse ++ rest) = (as.map (cV ad)).reverse ++ cS ad rest := by
    unfold cS
    rw [List.map_append, List.map_reverse]
  have hcf : CallFix p m c cc nL s args wT (own o) := ⟨hx, hb, hml, hown, hts⟩
  have common : ∀ kind i, cOk o i a b kind (.retAddr z) = true → ∃ y cy ml ry o' np k, mt a = some (y, cy, ml, ry, o', kind, np, k) ∧ as.length = (bif Nat.beq kind 0 then np else np + 1) ∧ ((i, a, 0) ∈ XT o ∨ (i, a, 1) ∈ XT o) ∧ (kind = 1 → z % 100 = o' ∧ o' < 7) ∧ yOf a = y ∧ y.cls = own o' ∧ (kind = 2 → y.name = "<init>") ∧
      Met l y (.code y cy ml ry :: wT) (rmM d' c1 n1) (Pcc base ad cT D sc as h) (Qcc base ad cT D sc r1 h1) c1 n1 (fun q => base ≤ q) ∧ (∀ w ∈ mW (y, cy, ml, ry, o', kind, np, k), w.before args s = true) ∧
      ((rmM d' c1 n1).cells = c1 ∧ (rmM d' c1 n1).slots = n1 ∧ (rmM d' c1 n1).frames + 1 ≤ R.frames ∧ 8 + (ml + 11) + (rmM d' c1 n1).locals ≤ R.locals ∧ (∀ w ∈ (Jvm.Cond.code y cy ml ry :: wT), ∀ (a' : Array Value) (U : State), s.WarmedH U.vm → w.before a' U = true) ∧ Jvm.Cond.code y cy ml ry ∈ (Jvm.Cond.code y cy ml ry :: wT)) ∧
      (y.cls ≠ "java/lang/invoke/MethodHandle" ∧ y.cls ≠ "java/lang/invoke/VarHandle") ∧ (∀ sig, parseMethodDescriptor y.desc = some sig → np = sig.parameters.length) := by
    intro kind i hck
    obtain ⟨y, cy, ml, ry, o', np, k, z2, hm, hbn, hxt, hz2, hz3, hz4⟩ := cOk_inv hck
    cases hz2
    obtain ⟨ck1, ck2, ck3⟩ := ok_mt hm
    obtain ⟨j1, j2, j3, j4, j5, j6⟩ := chkH_inv ck1
    have hyo : yOf a = y := by unfold yOf; rw [hm]
    have ho7 : ¬ o' = 7 := by
      intro h7
      subst h7
      rw [show own 7 = RL from rfl] at j2
      have hxw : ∀ f, (i, a, f) ∈ XT o → False := by
        intro f hf
        exact XT_law hf hm
      rcases hxt with hx1 | hx1
      · exact hxw 0 hx1
      · exact hxw 1 hx1
    have hmw : ∀ w ∈ mW (y, cy, ml, ry, o', kind, np, k), w ∈ wT := by
      intro w hw
      rcases ck3 with h7 | h7
      · exact absurd h7 ho7
      · refine mem_wT (h7 w hw) ?_
        unfold mW at hw
        rcases List.mem_cons.mp hw with rfl | hw
        · rfl
        · rcases List.mem_cons.mp hw with rfl | hw
          · rfl
          · cases hk0 : Nat.beq kind 0 with
            | true =>
              rw [hk0] at hw
              obtain rfl := List.mem_singleton.mp hw
              rfl
            | false =>
              rw [hk0] at hw
              cases hk1 : Nat.beq kind 1 with
              | true =>
                rw [hk1] at hw
                rcases List.mem_cons.mp hw with rfl | hw
                · rfl
                · obtain rfl := List.mem_singleton.mp hw
                  rfl
              | false =>
                rw [hk1] at hw
                obtain rfl := List.mem_singleton.mp hw
                rfl
    have hcode : Jvm.Cond.code y cy ml ry ∈ wT := hmw _ List.mem_cons_self
    refine ⟨y, cy, ml, ry, o', np, k, hm, ?_, hxt, hz4, hyo, j2, j6, hM y cy ml ry o' kind np k hm (by omega) (by omega), fun w hw => hts w (hmw w hw), ⟨rfl, rfl, hfr, ?_, ?_, List.mem_cons_self⟩, j4, ?_⟩
    · rw [q1, hbn]
    · show 8 + (ml + 11) + 50 * (d' + 1) ≤ R.locals
      omega
    · intro w hw a' U hW
      rcases List.mem_cons.mp hw with rfl | hw
      · exact wT_warm hts hW _ hcode
      · exact wT_warm hts hW w hw
    · intro sig hs
      rw [hs] at j5
      exact (Option.some.inj j5).symm
  intro T hT X
  have hsize : H.size ≤ base + h.length := by
    have hz1 : T.heap.size ≤ s.heap.size + cells := X.same.2.2.1
    rw [hT] at hz1
    omega
  have hPc : ∀ U : State, U.heap = H → s.WarmedH U.vm → Pcc base ad cT D sc as h (as.map (cV ad)).toArray U := by
    intro U hU hW
    exact ⟨rfl, by rw [hU]; exact Wd.moved hW.alike w, by rw [hU]; exact Nat.le_trans hbs hS.1, by rw [hU]; exact hsize⟩
  unfold rcv at q4
  split at q4
  · rename_i i
    split at q4
    · rename_i q As
      obtain ⟨fs, hq⟩ := rcC_inv q4
      obtain ⟨y, cy, ml, ry, o', np, k, hm, hlen, hxt, hz4, hyo, hcl, hnm, hMet, hmw, hcb, hy, hnp⟩ := common 1 i hk
      obtain ⟨hz5, ho7⟩ := hz4 rfl
      have hln : (As.map (cV ad)).length = np := by
        rw [List.length_map]
        have h2 : As.length + 1 = np + 1 := hlen
        omega
      have hst : (F0 m pc ls (cS ad ((Value.ref q :: As).reverse ++ rest))).stack = (As.map (cV ad)).reverse ++ .ref (ad q) :: cS ad rest := by
        show cS ad ((Value.ref q :: As).reverse ++ rest) = _
        rw [hstk, List.map_cons, List.reverse_cons, List.append_assoc]
        rfl
      have hpre : PreV s H y.cls (ad q) (Pcc base ad cT D sc (.ref q :: As) h) (As.map (cV ad)) := by
        refine ⟨Pcc_blind, ?_, hPc⟩
        rw [hcl, ownR o' ho7]
        rw [hz5] at hq
        exact va_recv w.2.2.1 w.2.1 (clK o' ho7) (cW_get hq)
      have hmw1 := hmw _ List.mem_cons_self
      have hmw2 := hmw _ (List.mem_cons_of_mem _ List.mem_cons_self)
      have hmw3 : (Jvm.Cond.instanceMethod y).before args s = true := hmw _ (List.mem_cons_of_mem _ (List.mem_cons_of_mem _ List.mem_cons_self))
      have hmw4 : (Jvm.Cond.selects y.cls y y).before args s = true := hmw _ (List.mem_cons_of_mem _ (List.mem_cons_of_mem _ (List.mem_cons_of_mem _ List.mem_cons_self)))
      rcases hxt with hxt | hxt
      · have hlk := XT_ok o _ hxt
        have hlk2 : (Jvm.Cond.methodLink (own o) i y).before args s = true := by
          have h9 := hts _ (mem_wT hlk rfl)
          rw [← hyo]
          exact h9
        exact s_ran (va_runV (As := As.map (cV ad)) (rest := cS ad rest) (n := np) hcf hMet ⟨⟨hcb.1, hcb.2.1, hcb.2.2.1, hcb.2.2.2.1, hcb.2.2.2.2.1, hcb.2.2.2.2.2, hmw1, hmw2, hy, hnp, hlk2⟩, hmw3, hmw4⟩ hpre rfl hln hls hst hcat hdg ⟨hc, hsl⟩) hS (fun H1 locs1 => hkk H1 locs1 rfl) T hT X
      · have hlk := XT_ok o _ hxt
        have hlk2 : (Jvm.Cond.methodLinkNest (own o) i y "WingCensus").before args s = true := by
          have h9 := hts _ (mem_wT hlk rfl)
          rw [← hyo]
          exact h9
        exact s_ran (va_runVN (As := As.map (cV ad)) (rest := cS ad rest) (n := np) (host := "WingCensus") hcf hMet ⟨⟨hcb, hmw1, hmw2, hy, hnp, hlk2⟩, hmw3, hmw4⟩ hpre rfl hln hls hst hcat hdg ⟨hc, hsl⟩) hS (fun H1 locs1 => hkk H1 locs1 rfl) T hT X
    · cases q4
  · rename_i i
    split at q4
    · rename_i q As
      have hkd2 : (bif Nat.beq a 999 then 4 else 6) = 6 := hkd
      have hk2 : (bif Nat.beq a 999 then decide (i ∈ OB o) else cOk o i a b 2 (.retAddr z)) = true := hk
      cases h99 : Nat.beq a 999 with
      | true => rw [h99] at hkd2; cases hkd2
      | false =>
        rw [h99] at hk2
        obtain ⟨y, cy, ml, ry, o', np, k, hm, hlen, hxt, hz4, hyo, hcl, hnm, hMet, hmw, hcb, hy, hnp⟩ := common 2 i hk2
        obtain rfl := kind2 hm
        have hln : (As.map (cV ad)).length = np := by
          rw [List.length_map]
          have h2 : As.length + 1 = np + 1 := hlen
          omega
        have hst : (F0 m pc ls (cS ad ((Value.ref q :: As).reverse ++ rest))).stack = (As.map (cV ad)).reverse ++ .ref (ad q) :: cS ad rest := by
          show cS ad ((Value.ref q :: As).reverse ++ rest) = _
          rw [hstk, List.map_cons, List.reverse_cons, List.append_assoc]
          rfl
        have hpre : PreS s H (Pcc base ad cT D sc (.ref q :: As) h) (.ref (ad q) :: As.map (cV ad)) := ⟨Pcc_blind, hPc⟩
        have hmw1 := hmw _ List.mem_cons_self
        have hmw2 := hmw _ (List.mem_cons_of_mem _ List.mem_cons_self)
        have hmw3 : (Jvm.Cond.instanceMethod y).before args s = true := hmw _ (List.mem_cons_of_mem _ (List.mem_cons_of_mem _ List.mem_cons_self))
        rcases hxt with hxt | hxt
        · have hlk := XT_ok o _ hxt
          have hlk2 : (Jvm.Cond.methodLink (own o) i y).before args s = true := by
            have h9 := hts _ (mem_wT hlk rfl)
            rw [← hyo]
            exact h9
          exact s_ran (va_runI (As := As.map (cV ad)) (rest := cS ad rest) (n := np) hcf hMet ⟨⟨hcb.1, hcb.2.1, hcb.2.2.1, hcb.2.2.2.1, hcb.2.2.2.2.1, hcb.2.2.2.2.2, hmw1, hmw2, hy, hnp, hlk2⟩, hnm rfl, hmw3⟩ hpre rfl hln hls hst hcat hdg ⟨hc, hsl⟩) hS (fun H1 locs1 => hkk H1 locs1 rfl) T hT X
        · have hlk := XT_ok o _ hxt
          have hlk2 : (Jvm.Cond.methodLinkNest (own o) i y "WingCensus").before args s = true := by
            have h9 := hts _ (mem_wT hlk rfl)
            rw [← hyo]
            exact h9
          exact s_ran (va_runIN (As := As.map (cV ad)) (rest := cS ad rest) (n := np) (host := "WingCensus") hcf hMet ⟨⟨hcb, hmw1, hmw2, hy, hnp, hlk2⟩, hnm rfl, hmw3⟩ hpre rfl hln hls hst hcat hdg ⟨hc, hsl⟩) hS (fun H1 locs1 => hkk H1 locs1 rfl) T hT X
    · cases q4
  · rename_i i
    have hkd2 : (bif Nat.ble 990 a then 4 else 6) = 6 := hkd
    have hk2 : (bif Nat.ble 990 a then decide ((i, a) ∈ AC o) else cOk o i a b 0 (.retAddr z)) = true := hk
    cases h99 : Nat.ble 990 a with
    | true => rw [h99] at hkd2; cases hkd2
    | false =>
      rw [h99] at hk2
      obtain ⟨y, cy, ml, ry, o', np, k, hm, hlen, hxt, hz4, hyo, hcl, hnm, hMet, hmw, hcb, hy, hnp⟩ := common 0 i hk2
      have hln : (as.map (cV ad)).length = np := by
        rw [List.length_map]
        exact hlen
      have hst : (F0 m pc ls (cS ad (as.reverse ++ rest))).stack = (as.map (cV ad)).reverse ++ cS ad rest := hstk
      have hpre : PreS s H (Pcc base ad cT D sc as h) (as.map (cV ad)) := ⟨Pcc_blind, hPc⟩
      have hmw1 := hmw _ List.mem_cons_self
      have hmw2 := hmw _ (List.mem_cons_of_mem _ List.mem_cons_self)
      have hmw3 : (Jvm.Cond.static y).before args s = true := hmw _ (List.mem_cons_of_mem _ (List.mem_cons_of_mem _ List.mem_cons_self))
      rcases hxt with hxt | hxt
      · have hlk := XT_ok o _ hxt
        have hlk2 : (Jvm.Cond.methodLink (own o) i y).before args s = true := by
          have h9 := hts _ (mem_wT hlk rfl)
          rw [← hyo]
          exact h9
        exact s_ran (va_runS (As := as.map (cV ad)) (rest := cS ad rest) (n := np) hcf hMet ⟨⟨hcb.1, hcb.2.1, hcb.2.2.1, hcb.2.2.2.1, hcb.2.2.2.2.1, hcb.2.2.2.2.2, hmw1, hmw2, hy, hnp, hlk2⟩, hmw3⟩ hpre rfl hln hls hst hcat hdg ⟨hc, hsl⟩) hS (fun H1 locs1 => hkk H1 locs1 rfl) T hT X
      · have hlk := XT_ok o _ hxt
        have hlk2 : (Jvm.Cond.methodLinkNest (own o) i y "WingCensus").before args s = true := by
          have h9 := hts _ (mem_wT hlk rfl)
          rw [← hyo]
          exact h9
        exact s_ran (va_runSN (As := as.map (cV ad)) (rest := cS ad rest) (n := np) (host := "WingCensus") hcf hMet ⟨⟨hcb, hmw1, hmw2, hy, hnp, hlk2⟩, hmw3, trivial⟩ hpre rfl hln hls hst hcat hdg ⟨hc, hsl⟩) hS (fun H1 locs1 => hkk H1 locs1 rfl) T hT X
  · cases q4
end SD
