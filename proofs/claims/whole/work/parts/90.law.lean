/-! THE CLAIM OUT OF ONE WALK OF THE LAW'S BODY. Your part is whole_start (and what it stands on); all else here is the same for every law, but numbers. -/
def R_law : String := "WingCensusLaw"
def lw_P (b : Addr) (xs : List Int32) (args : Array Value) (s : State) : Prop := args = #[.ref b] ∧ s.IntsAt b xs ∧ xs.length ≤ 256 ∧ (Jvm.Cond.and given_1 narrow_1).before args s = true
def lw_Q (_ : Array Value) (s : State) (o : Outcome) (t : State) : Prop := o = .returned (some (.int 1)) ∧ Framed s o t [] 600000 7302250
def lw_Z (below : List Frame) (a : Array Value) (s : State) : State → Prop := fun t => ∃ o, t.status = .running ∧ Ended t below o ∧ lw_Q a s o t
/-- the law's own end, with 1 on the stack, nothing written that was there before, its room as the claim has it -/
theorem lw_ret {p : Program} {l : Launch} {e : Env} {s : State} {m : MethodId} {below : List Frame} {meth : Method} {c : Code} {b : Nat} (hx : p.tables.exec = Jvm.exec) (hb : c.code = code) (hr : meth.sig.returnType = ret) (hlocks : meth.locks = false) {pc : Nat} {H : Heap} {ls : Array Slot} (hdg : decode code pc = .ok (.ireturn, 1)) : W p l e room_1 s m #[Value.ref b] below meth c H [] 600000 7302250 (lw_Z below #[Value.ref b] s) (F0 m pc ls [.int 1]) := by
  intro T hT X
  obtain ⟨fs, hret, hrun, hended, hW, hframe⟩ := X.leave (v := some (.int 1)) (hlocks := hlocks) (fun h => by rw [hr] at h; cases h)
  have hmeth' : T.vm.method? m = some meth := X.method'
  refine ⟨T.setFrames fs, ?_, .returned (some (.int 1)), hrun, hended, rfl, ⟨_, rfl⟩, hW, hframe⟩
  jvm_step X.here [X.here.top, hx, hb, hdg, hmeth', hr, ret, narrow_b1]
  (try refine ⟨rfl, ?_⟩); (try refine ⟨rfl, ?_⟩)
  first | (intro acts; rw [hret _ acts rfl rfl rfl]) | rw [hret _ _ rfl rfl rfl]
  exact Steps.refl _
/-- what holds at the law's entry: the machine, the code, the tables' words (any of lw_tbl by 'hts w (by decide +kernel)'), the script of L ints xs at the cell b, what the Statement gives of the start (any of its parts by flat_of_before) -/
def lw_At (p : Program) (s : State) (m : MethodId) (meth : Method) (c : Code) (b L : Nat) (xs : Nat → Int32) : Prop :=
  p.tables.exec = Jvm.exec ∧ c.code = code ∧ meth.sig.returnType = ret ∧ c.maxLocals = 4 ∧ s.vm.findClass R_law = some m.cls ∧ (∀ w ∈ lw_tbl, w.before #[Value.ref b] s = true) ∧ va_X b L xs s s.heap ∧ b < s.heap.size ∧ meth.locks = false ∧ (Jvm.Cond.and given_1 narrow_1).before #[Value.ref b] s = true
set_option maxHeartbeats 4000000 in
set_option maxRecDepth 100000 in
/-- THE LAW, from its entry: by the interpreter's run -/
theorem whole_start {p : Program} {e : Env} {s : State} {m : MethodId} {below : List Frame} {meth : Method} {c : Code} (l : Launch) {b L : Nat} {xs : Nat → Int32} (hL : L ≤ 256) (C0 : lw_At p s m meth c b L xs) : W p l e room_1 s m #[Value.ref b] below meth c s.heap [] 0 0 (lw_Z below #[Value.ref b] s) (entryFrame m ([Value.ref b] : List Value).toArray 4) := by
  obtain ⟨hx, hb, hr, hml, hown, hts, hX, hbl, hlocks, hgv⟩ := id C0
  have hgs := flat_of_before _ hgv
  have hA : ∀ a : Nat, a < s.heap.size → ¬ s.heap.size ≤ a := fun a h => Nat.not_le.mpr h
  obtain ⟨t, ht, hT⟩ := va_Tof (args := #[Value.ref b]) (s := s) (tm := .static "WingCensus" "LIMBS" "[I") (ty := .int) (N := 5) (f := fun j => .int (limbs j)) (A := fun q => s.heap.size ≤ q) (by decide) (hgs _ (by decide +kernel)) (va_eqt (hgs (.eq (.length (.static "WingCensus" "LIMBS" "[I")) (.int 5)) (by decide +kernel)))
    (fun j hj => by
      rcases (show j = 0 ∨ j = 1 ∨ j = 2 ∨ j = 3 ∨ j = 4 by omega) with rfl | rfl | rfl | rfl | rfl
      · exact va_eqt (hgs (.eq (.elem (.static "WingCensus" "LIMBS" "[I") (.int 0)) (.int 10)) (by decide +kernel))
      · exact va_eqt (hgs (.eq (.elem (.static "WingCensus" "LIMBS" "[I") (.int 1)) (.int 26)) (by decide +kernel))
      · exact va_eqt (hgs (.eq (.elem (.static "WingCensus" "LIMBS" "[I") (.int 2)) (.int 4)) (by decide +kernel))
      · exact va_eqt (hgs (.eq (.elem (.static "WingCensus" "LIMBS" "[I") (.int 3)) (.int 0)) (by decide +kernel))
      · exact va_eqt (hgs (.eq (.elem (.static "WingCensus" "LIMBS" "[I") (.int 4)) (.int 2)) (by decide +kernel))) hA
  have htl : t < s.heap.size := by
    obtain ⟨cell, h1, -⟩ := hT
    exact (Array.getElem?_eq_some_iff.mp h1).1
  have hZ : va_Z "WingCensus" "LIMBS" "[I" (.ref t) (fun q => s.heap.size ≤ q) s s.heap := va_Zof (hts _ w_ls) (hts _ iniX5) ht hA
  obtain ⟨f, hf⟩ := Classical.axiomOfChoice (r := fun (ci : Nat) (q : ClassId × (Nat → Nat)) => ci < 7 → u_Kn s (clR ci) (clT ci) (nfs ci) q.1 q.2) (fun ci => by
    by_cases h : ci < 7
    · obtain ⟨c0, i0, hk⟩ := u_known (C := clR ci) (T := clT ci) (N := nfs ci) (n := nfs ci) (ws := wT) (fun w hw => hts w (List.mem_filter.mp hw).1) (clin ci h) (hts _ (clit ci h))
      exact ⟨(c0, i0), fun _ => hk⟩
    · exact ⟨(0, fun _ => 0), fun h2 => absurd h2 h⟩)
  obtain ⟨cI, kI, mI, i1, i2, i3⟩ := Cond.arrayClass_spec (hts _ w_a0)
  obtain ⟨cJ, kJ, mJ, j1, j2, j3⟩ := Cond.arrayClass_spec (hts _ w_a1)
  obtain ⟨cZ, kZ, mZ, z1, z2, z3⟩ := Cond.arrayClass_spec (hts _ w_a2)
  obtain ⟨cT, e0, e1, e2⟩ : ∃ cT : Nat → ClassId, cT 0 = cI ∧ cT 1 = cJ ∧ cT 2 = cZ := ⟨fun k => match k with
    | 0 => cI
    | 1 => cJ
    | _ => cZ, rfl, rfl, rfl⟩
  obtain ⟨ad, a1, a2, a3⟩ : ∃ ad : Nat → Nat, (∀ i, i < 1000 → ad i = s.heap.size + i) ∧ ad 1000 = b ∧ ad 1001 = t := ⟨fun i => if i < 1000 then s.heap.size + i else if i = 1000 then b else t, fun i hi => if_pos hi, rfl, rfl⟩
  have hG : Ga s.heap.size ad := ⟨a1, by rw [a2]; exact hbl, by rw [a3]; exact htl⟩
  have hK : va_K (fun ci => (f ci).1, fun ci => (f ci).2) classes (tyL cT) s := by
    refine ⟨fun ci q hq => ?_, fun k q hk => ?_⟩
    · have h7 : ci < 7 := (List.getElem?_eq_some_iff.mp hq).1
      rw [clK ci h7] at hq
      cases hq
      exact hf ci h7
    · match k, hk with
      | 0, hk =>
        cases hk
        exact ⟨fun n z => ⟨fun k h => (by cases h), kI, by rw [e0]; exact i2, mI, i3⟩, by show s.vm.findClass _ = some (cT 0); rw [e0]; exact i1⟩
      | 1, hk =>
        cases hk
        exact ⟨fun n z => ⟨fun k h => (by cases h), kJ, by rw [e1]; exact j2, mJ, j3⟩, by show s.vm.findClass _ = some (cT 1); rw [e1]; exact j1⟩
      | 2, hk =>
        cases hk
        exact ⟨fun n z => ⟨fun k h => (by cases h), kZ, by rw [e2]; exact z2, mZ, z3⟩, by show s.vm.findClass _ = some (cT 2); rw [e2]; exact z1⟩
      | n + 3, hk => cases hk
  have hW : Wd s.heap.size ad cT (fun ci => (f ci).1, fun ci => (f ci).2) (L, xs) [] s s.heap := ⟨Nat.lt_of_lt_of_le (Nat.zero_lt_succ 0) (by decide), (fun k q h => absurd h (by simp [cW])), hK, by rw [a2]; exact hX, by rw [a3]; exact hT, by rw [a3]; exact hZ⟩
  obtain ⟨d, h', cn, sn, hd, hcn, hsn, fu, hrun⟩ := law_run L xs hL
  have hl := lv_entry ([.ref b]) (n := 4) (Nat.le_of_ble_eq_true rfl)
  rw [lg_entry_eq]
  generalize (lg_sl ([.ref b]) ++ List.replicate (4 - (lg_sl ([.ref b])).length) Slot.unset).toArray = ls at hl ⊢
  have hl2 : lv_has ls 4 (cL ad (iniL 4 [.ref 1000])) := by
    refine lv_mono hl (fun q hq => ?_)
    have h9 := iniL_mem ad 4 [.ref 1000] q hq
    rw [show ([.ref 1000] : List Value).map (cV ad) = [.ref b] by show [Value.ref (ad 1000)] = _; rw [a2]] at h9
    exact h9
  refine sound hG l fu d m_W_law 0 (iniL 4 [.ref 1000]) [] [] (some (.int 1)) h' cn sn hrun y_W_law code 4 (some .boolean) 7 1 1 k_W_law rfl p e room_1 s m _ below meth c s.heap [] 0 0 _ ls hx hb hml hown (fun w hw => hts w (List.mem_filter.mp hw).1) (fun h => absurd h (by decide)) hl2 hW va_S.rf (Nat.le_refl _) (Nat.le_refl _) (by show d + 1 ≤ 2048; omega) (by show 50 * (d + 1) ≤ 84000; omega) (by show 0 + cn ≤ 600000; omega) (by show 0 + sn ≤ 7302250; omega) ?_
  intro pc' ls' H1 locs1 ins nx a b' v hc hrt hw1 hS1
  obtain ⟨d1, d2, d3⟩ := ent_ok (M := m_W_law) (y := y_W_law) (cc := code) (nL := 4) (o := 7) (kind := 1) (np := 1) (rt := some .boolean) (k := k_W_law) rfl hc
  rcases rtS_inv hrt with ⟨rfl, x, q1, q2, q3⟩ | ⟨rfl, x, q1, q2⟩ | ⟨rfl, q1, q2⟩
  · obtain ⟨d4, -⟩ := ent_dec (a := a) d1 d2 (by show (7 : Nat) ≠ 2; decide)
    refine va_forget (fun q hq => hS1.2.2 q hq) ?_
    refine W.widen (k := 600000) (n := 7302250) (by omega) (by omega) ?_
    exact lw_ret hx hb hr hlocks d4
  · cases q2
  · cases q2
set_option maxHeartbeats 4000000 in
theorem lw_walk (l : Launch) (b : Addr) (xs : List Int32) : MetFree l x (headSpec (Jvm.Cond.code x code maxLocals ret :: tables_1) room_1) (lw_P b xs) (fun _ _ _ _ _ => True) lw_Q := by
  refine MetFree.of_bodyS (code := code) (maxLocals := maxLocals) (ret := ret) (by decide) ?_ ?_
  · intro args s m h hn
    obtain ⟨meth, c, h1, h2, h3, h4, h5, h6, -, -⟩ := Cond.code_spec hn (atoms_spec (ws := Jvm.Cond.code x code maxLocals ret :: tables_1) h _ List.mem_cons_self)
    exact ⟨meth, c, h1, h2, h3, h4, h5, h6⟩
  · intro p e s m args below meth c s₁ B hml0 hP _
    obtain ⟨rfl, hx, hbd, hgv⟩ := hP
    obtain ⟨scr, harrAt, hlist, hof, hsmall⟩ := hx
    obtain ⟨hcb, hkn, -, -⟩ := State.arrayAt?_spec harrAt
    have hown : s.vm.findClass R_law = some m.cls := findClass_of_methodNamed B.named
    have hts0 : ∀ c ∈ (Jvm.Cond.code x code maxLocals ret :: tables_1), c.before #[Value.ref b] s = true := atoms_spec (ws := Jvm.Cond.code x code maxLocals ret :: tables_1) B.pre
    have hts : ∀ w ∈ lw_tbl, w.before #[Value.ref b] s = true := k2_hts_sels lw_privs (fun w hw => hts0 w (List.mem_cons_of_mem _ hw)) lw_privs_ok
    have hml : c.maxLocals = 4 := B.maxLocals_eq (hts0 _ List.mem_cons_self)
    have X₀ : Stand p l e room_1 s m #[Value.ref b] below meth c s₁ [] 0 0 := Stand.of_body B
    have hh0 : s₁.heap = s.heap := by rw [B.state]; rfl
    have hsz : scr.slots.size = xs.length := by rw [← Array.length_toList, hlist, List.length_map]
    have hval : ∀ j : Nat, j < xs.length → scr.slots[j]? = some (.int (xs.getD j 0)) := fun j hj => by
      rw [← Array.getElem?_toList, hlist]
      simp [hj]
    have hbl : b < s.heap.size := (Array.getElem?_eq_some_iff.mp hcb).1
    have hX : va_X b xs.length (fun j => xs.getD j 0) s s.heap := ⟨scr, hcb, hof, hkn, hsz, hval⟩
    have K : W p l e room_1 s m #[Value.ref b] below meth c s₁.heap [] 0 0 (lw_Z below #[Value.ref b] s) (entryFrame m ([Value.ref b] : List Value).toArray 4) := by
      rw [hh0]
      exact whole_start l hbd ⟨B.exec, B.bytes, B.returns, hml, hown, hts, hX, hbl, B.notSynchronized, hgv⟩
    obtain ⟨t, a1, o, b1, b2, b3⟩ := K s₁ rfl X₀
    exact ⟨t, o, a1, b1, b2, b3⟩
theorem lw_pre_spec {args : Array Value} {s : State} (h : (Jvm.Cond.and given_1 narrow_1).before args s = true) (hr : rest_1_c.before args s = true) : ∃ (b : Addr) (xs : List Int32), lw_P b xs args s := by
  have hs := flat_of_before _ h
  have hq := flat_of_before _ hr
  have hc : (Cond.count 1).before args s = true := hs _ (by decide +kernel)
  have harr : (Cond.arrayOf (.arg 0) .int).before args s = true := hs _ (by decide +kernel)
  have hle : (Cond.le (.length (.arg 0)) (.int 256)).before args s = true := hs _ (by decide +kernel)
  have hlen : (Cond.isInt (.length (.arg 0))).before args s = true := hq _ (by decide +kernel)
  have hall : (Cond.all (.arg 0) (.isInt (.elem (.arg 0) (.index 0)))).before args s = true := hq _ (by decide +kernel)
  obtain ⟨b, xs, hb, hx⟩ := State.ints_of_pre rfl harr hlen hall
  have hsm : xs.length < 2 ^ 31 := hx.choose_spec.2.2.2
  have hev : (Term.length (.arg 0)).eval args s none [] s = some (.int xs.length.toInt32) := hx.length_eval hb
  have hv := Cond.le_ints hev (show (Term.int 256).eval args s none [] s = some (.int 256) from rfl)
  have hd : xs.length.toInt32 ≤ 256 := by
    simpa [Cond.before, Cond.holds, hv] using hle
  have hN : xs.length ≤ 256 := (Int32.ofNat_le_ofNat hsm (by decide)).mp (show Int32.ofNat xs.length ≤ Int32.ofNat 256 from hd)
  exact ⟨b, xs, Cond.one_arg hc (show args[0]? = some (.ref b) from hb), hx, hN, h⟩
theorem lw_comes (l : Launch) : Comes l x (Jvm.Cond.code x code maxLocals ret :: tables_1) room_1 (fun tb e args s => Calls_1 tb e args s ∧ rest_1 tb e args s ∧ Pre_1 tb e args s)
    (fun _ _ args s o t => lw_Q args s o t) := by
  intro p e ha hc hk s m args below hf hfit hheap happ hpre
  obtain ⟨b, xs, hP⟩ := lw_pre_spec hpre.2.2 hpre.2.1
  obtain ⟨k, o, h1, h2, h3, hQ⟩ := lw_walk l b xs p e ha hc hk s m args below hf ((Spec.applies_iff_loose hf).mp happ).1 hP trivial
  exact ⟨k, o, h1, h2, h3, hQ⟩
theorem lw_frame {s t : State} {o : Outcome} {args : Array Value} (h : Framed s o t [] 600000 7302250) :
    Framed s o t (fieldLocs frame_1_writes args s ++ arrayLocs frame_1_arrays args s ++ staticLocs frame_1_statics s) 600000 7302250 := h
theorem lw_limb (L : Cond) (hL : ∀ (args : Array Value) (s t : State), L.after args s (.returned (some (.int 1))) t = true) :
    ArmFor flags0 classFile x code maxLocals ret World_1 tables_1 room_1 Calls_1 rest_1 Pre_1
      (fun tb e a s o t => postC L tb e a s o t ∧ Framed s o t (fieldLocs frame_1_writes a s ++ arrayLocs frame_1_arrays a s ++ staticLocs frame_1_statics s) 600000 7302250) := by
  intro l _ _ _ p e ha hc hk s m args below hf hfit hheap happ hpre
  obtain ⟨k, o, h1, h2, h3, rfl, hF⟩ := lw_comes l p e ha hc hk s m args below hf hfit hheap happ hpre
  exact ⟨k, _, h1, h2, h3, hL args s _, lw_frame hF⟩
theorem i_vc : Claimed_1_1 ∧ Claimed_1_2 := ⟨lw_limb limb_1_1 (fun args s t => by simp [limb_1_1, Cond.after, Cond.holds, Cond.value]), lw_limb limb_1_2 (fun args s t => Cond.after_iff.mpr (by
  first | (rw [show limb_1_2 = Cond.eq .result (.int 1) from rfl, Cond.eq_ints (x := 1) (y := 1) rfl rfl]; simp; done) | (simp [limb_1_2, Cond.value, Term.eval]; done)))⟩
