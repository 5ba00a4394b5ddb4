/-! the interpreter is sound: the whole run -/
theorem rtS_inv {ins : Instr} {b : Nat} {S : Stk} {rv : Option Value} (h : rtS ins b S = some rv) : (ins = .ireturn ∧ ∃ x, S = [.int x] ∧ rv = some (.int x) ∧ (b = 0 ∨ x = 0 ∨ x = 1)) ∨ (ins = .lreturn ∧ ∃ x, S = [.long x] ∧ rv = some (.long x)) ∨ (ins = .return_ ∧ S = [] ∧ rv = none) := by
  unfold rtS at h
  split at h
  · split at h
    · rename_i x
      obtain ⟨h1, h2⟩ := bifE h
      refine Or.inl ⟨rfl, x, rfl, h2.symm, ?_⟩
      rcases (Bool.or_eq_true _ _).mp h1 with h3 | h3
      · exact Or.inl (beqE h3)
      · rw [Bool.or_eq_true, decide_eq_true_eq, decide_eq_true_eq] at h3
        exact Or.inr h3
    · cases h
  · split at h
    · cases h
      exact Or.inr (Or.inl ⟨rfl, _, rfl, rfl⟩)
    · cases h
  · split at h
    · cases h
      exact Or.inr (Or.inr ⟨rfl, rfl, rfl⟩)
    · cases h
  · cases h
theorem isSw_kd {ins : Instr} {a : Nat} (h : isSw ins = true) : kd ins a = 2 := by
  unfold isSw at h
  split at h
  · rfl
  · rfl
  · cases h
theorem ent_ok {M pc : Nat} {y : MethodName} {cc : ByteArray} {nL o kind np : Nat} {rt : Option FieldType} {k : List (Nat × Ent)} (hm : mt M = some (y, cc, nL, rt, o, kind, np, k)) {ins : Instr} {nx a b : Nat} {v : Value} (hc : cAt M pc = some (ins, nx, a, b, v)) :
    decode cc pc = .ok (ins, nx - pc) ∧ (isSw ins = true ∨ nx = pc + ilen ins) ∧ lnk o nL rt (decide (y.name = "<init>")) pc ins a b v = true := by
  unfold cAt at hc
  rw [hm] at hc
  have h1 := gC_mem hc
  obtain ⟨-, h2, -⟩ := ok_mt hm
  have h3 := List.all_eq_true.mp h2 _ h1
  obtain ⟨h4, h5⟩ := andE h3
  obtain ⟨h5, h6⟩ := andE h5
  refine ⟨of_decide_eq_true h4, ?_, h6⟩
  rcases (Bool.or_eq_true _ _).mp h5 with h7 | h7
  · exact Or.inl h7
  · exact Or.inr (beqE h7)
theorem ent_dec {pc nx : Nat} {cc : ByteArray} {ins : Instr} {a : Nat} (h1 : decode cc pc = .ok (ins, nx - pc)) (h2 : isSw ins = true ∨ nx = pc + ilen ins) (hk : kd ins a ≠ 2) : decode cc pc = .ok (ins, ilen ins) ∧ nx = pc + ilen ins := by
  rcases h2 with h2 | h2
  · exact absurd (isSw_kd h2) hk
  · subst h2
    rw [Nat.add_sub_cancel_left] at h1
    exact ⟨h1, rfl⟩
def Snd (base : Nat) (ad : Nat → Nat) (cT : Nat → ClassId) (D : va_G) (sc : Scr) (l : Launch) (f : Nat) : Prop :=
  ∀ (d M pc : Nat) (L : Lcs) (S : Stk) (h : AHp) (rv : Option Value) (h' : AHp) (cn sn : Nat), run sc f d M pc L S h = some (rv, h', cn, sn) →
  ∀ (y : MethodName) (cc : ByteArray) (nL : Nat) (rt : Option FieldType) (o kind np : Nat) (k : List (Nat × Ent)), mt M = some (y, cc, nL, rt, o, kind, np, k) →
  ∀ (p : Program) (e : Env) (R : Room) (s : State) (m : MethodId) (args : Array Value) (below : List Frame) (meth : Method) (c : Code) (H : Heap) (locs : List Loc) (cells slots : Nat) (Q : State → Prop) (ls : Array Slot),
    p.tables.exec = Jvm.exec → c.code = cc → c.maxLocals = nL → s.vm.findClass (own o) = some m.cls → (∀ w ∈ wT, w.before args s = true) → (decide (y.name = "<init>") = true → meth.name = "<init>") →
    lv_has ls nL (cL ad L) → Wd base ad cT D sc h s H → va_S (fun q => base ≤ q) s.heap H locs → base ≤ s.heap.size → s.heap.size + cells ≤ base + h.length → d + 1 ≤ R.frames → 50 * (d + 1) ≤ R.locals → cells + cn ≤ R.cells → slots + sn ≤ R.slots →
    (∀ (pc' : Nat) (ls' : Array Slot) (H1 : Heap) (locs1 : List Loc) (ins : Instr) (nx a b : Nat) (v : Value), cAt M pc' = some (ins, nx, a, b, v) → rtS ins b rv.toList = some rv → Wd base ad cT D sc h' s H1 → va_S (fun q => base ≤ q) s.heap H1 locs1 → W p l e R s m args below meth c H1 locs1 (cells + cn) (slots + sn) Q (F0 m pc' ls' (cS ad rv.toList))) →
    W p l e R s m args below meth c H locs cells slots Q (F0 m pc ls (cS ad S))
theorem met_of {base : Nat} {ad : Nat → Nat} {cT : Nat → ClassId} {D : va_G} {sc : Scr} {l : Launch} {f : Nat} (IH : Snd base ad cT D sc l f) {d a : Nat} {as : Stk} {h h1 : AHp} {r1 : Option Value} {c1 n1 : Nat} {ml : Nat} (hr : run sc f d a 0 (iniL ml as) [] h = some (r1, h1, c1, n1))
    {y : MethodName} {cy : ByteArray} {ry : Option FieldType} {o kind np : Nat} {k : List (Nat × Ent)} (hm : mt a = some (y, cy, ml, ry, o, kind, np, k)) (hcat : catS as ≤ ml) :
    Met l y (.code y cy ml ry :: wT) (rmM d c1 n1) (Pcc base ad cT D sc as h) (Qcc base ad cT D sc r1 h1) c1 n1 (fun q => base ≤ q) := by
  obtain ⟨ck1, -, -⟩ := ok_mt hm
  obtain ⟨j1, j2, -⟩ := chkH_inv ck1
  refine Met.ofW (cc := cy) (maxL := ml) (ret := ry) j1 rfl ?_
  intro p e s m args below meth c s₁ B hml hv
  obtain ⟨rfl, hw, hb1, hb2⟩ := hv
  have hx := B.exec
  have hb := B.bytes
  have hr2 := B.returns
  have hts0 := atoms_spec (ws := Jvm.Cond.code y cy ml ry :: wT) B.pre
  have hts : ∀ w ∈ wT, w.before (as.map (cV ad)).toArray s = true := fun w hw => hts0 w (List.mem_cons_of_mem _ hw)
  have hown : s.vm.findClass (own o) = some m.cls := by
    rw [← j2]
    exact findClass_of_methodNamed B.named
  have hlocks := B.notSynchronized
  have hname : meth.name = y.name := (name_of_methodNamed B.named B.method).1
  have hl := lv_entry (as.map (cV ad)) (n := ml) (by rw [lg_sl_len]; exact hcat)
  rw [lg_entry_eq]
  generalize (lg_sl (as.map (cV ad)) ++ List.replicate (ml - (lg_sl (as.map (cV ad))).length) Slot.unset).toArray = ls at hl ⊢
  have hl := lv_mono hl (iniL_mem ad ml as)
  refine IH d a 0 (iniL ml as) [] h r1 h1 c1 n1 hr y cy ml ry o kind np k hm p e (rmM d c1 n1) s m _ below meth c s.heap [] 0 0 _ ls hx hb hml hown hts (fun hi => by rw [hname]; exact of_decide_eq_true hi) hl hw va_S.rf hb1 (by omega) (Nat.le_refl _) (Nat.le_refl _) (by show 0 + c1 ≤ c1; omega) (by show 0 + n1 ≤ n1; omega) ?_
  intro pc' ls' H1 locs1 ins nx a2 b v hc hrt hw1 hS1
  obtain ⟨d1, d2, d3⟩ := ent_ok hm hc
  rw [Nat.zero_add, Nat.zero_add]
  have hq : ∀ t : State, t.heap = H1 → s.WarmedH t.vm → Qcc base ad cT D sc r1 h1 (as.map (cV ad)).toArray s (.returned (r1.map (cV ad))) t := by
    intro t ht hW
    exact ⟨rfl, by rw [ht]; exact Wd.moved hW.alike hw1, fun q hq => by rw [ht]; exact hS1.2.1 q (by omega) (by omega), by rw [ht]; exact hS1.1⟩
  rcases rtS_inv hrt with ⟨rfl, x, e1, rfl, e3⟩ | ⟨rfl, x, e1, rfl⟩ | ⟨rfl, e1, rfl⟩
  · obtain ⟨d4, -⟩ := ent_dec (a := a2) d1 d2 (by show (7 : Nat) ≠ 2; decide)
    rcases of_decide_eq_true d3 with ⟨g1, g2⟩ | ⟨g1, g2⟩
    · exact W.iret (v := x) hx hb (hr2.trans g1) hq hS1.2.2 d4 hlocks
    · subst g2
      have hx2 : narrow .boolean (.int x) = .int x := by
        rcases e3 with e3 | rfl | rfl
        · cases e3
        · decide
        · decide
      exact W.zret (v := x) hx hb (hr2.trans g1) hx2 hq hS1.2.2 d4 hlocks
  · obtain ⟨d4, -⟩ := ent_dec (a := a2) d1 d2 (by show (7 : Nat) ≠ 2; decide)
    exact W.lret (v := x) hx hb (hr2.trans (of_decide_eq_true d3)) hq hS1.2.2 d4 hlocks
  · obtain ⟨d4, -⟩ := ent_dec (a := a2) d1 d2 (by show (7 : Nat) ≠ 2; decide)
    exact W.vret hx hb (hr2.trans (of_decide_eq_true d3)) hq hS1.2.2 d4 hlocks
theorem sound {base : Nat} {ad : Nat → Nat} {cT : Nat → ClassId} {D : va_G} {sc : Scr} (hG : Ga base ad) (l : Launch) : ∀ f, Snd base ad cT D sc l f := by
  intro f
  induction f with
  | zero =>
    intro d M pc L S h rv h' cn sn hr
    cases hr
  | succ f ih =>
    intro d M pc L S h rv h' cn sn hr y cc nL rt o kind np k hm p e R s m args below meth c H locs cells slots Q ls hx hb hml hown hts hini hl hw hS hbs hsz hfr hlo hcl hsl hfin
    have hr0 := hr
    unfold run at hr
    split at hr
    · cases hr
    · rename_i ins nx a b v hc
      obtain ⟨d1, d2, d3⟩ := ent_ok hm hc
      split at hr
      · rename_i hkd
        obtain ⟨d4, rfl⟩ := ent_dec (a := a) d1 d2 (by rw [hkd]; decide)
        split at hr
        · cases hr
        · rename_i pc' L' S' hst
          exact s_st1 hx hb hown hts d4 d3 hl hst (fun ls' hl' => ih d M pc' L' S' h rv h' cn sn hr y cc nL rt o kind np k hm p e R s m args below meth c H locs cells slots Q ls' hx hb hml hown hts hini hl' hw hS hbs hsz hfr hlo hcl hsl hfin)
      · rename_i hkd
        obtain ⟨d4, rfl⟩ := ent_dec (a := a) d1 d2 (by rw [hkd]; decide)
        split at hr
        · cases hr
        · rename_i cd S' hst
          exact s_br hx hb d4 d3 hst (ih d M _ L S' h rv h' cn sn hr y cc nL rt o kind np k hm p e R s m args below meth c H locs cells slots Q ls hx hb hml hown hts hini hl hw hS hbs hsz hfr hlo hcl hsl hfin)
      · rename_i hkd
        split at hr
        · cases hr
        · rename_i t S' hst
          exact s_sw hx hb d1 d3 hst (ih d M t L S' h rv h' cn sn hr y cc nL rt o kind np k hm p e R s m args below meth c H locs cells slots Q ls hx hb hml hown hts hini hl hw hS hbs hsz hfr hlo hcl hsl hfin)
      · rename_i hkd
        obtain ⟨d4, rfl⟩ := ent_dec (a := a) d1 d2 (by rw [hkd]; decide)
        split at hr
        · cases hr
        · rename_i S' hst
          exact s_hrd hx hb hown hts d4 d3 hG hw hS hbs hst (ih d M _ L S' h rv h' cn sn hr y cc nL rt o kind np k hm p e R s m args below meth c H locs cells slots Q ls hx hb hml hown hts hini hl hw hS hbs hsz hfr hlo hcl hsl hfin)
      · rename_i hkd
        obtain ⟨d4, rfl⟩ := ent_dec (a := a) d1 d2 (by rw [hkd]; decide)
        split at hr
        · cases hr
        · rename_i S' h2 hst
          have hlen := hwr_len hst
          exact s_hwr hx hb (hml.trans hl.1.symm) hown hts d4 d3 hini hG hw hS hbs (by omega) (by omega) (by omega) (by omega) hkd hst (fun H1 locs1 hw1 hS1 => ih d M _ L S' h2 rv h' cn sn hr y cc nL rt o kind np k hm p e R s m args below meth c H1 locs1 cells slots Q ls hx hb hml hown hts hini hl hw1 hS1 hbs (by omega) hfr hlo hcl hsl hfin)
      · rename_i hkd
        obtain ⟨d4, rfl⟩ := ent_dec (a := a) d1 d2 (by rw [hkd]; decide)
        split at hr
        · cases hr
        · rename_i S' h2 n hst
          split at hr
          · cases hr
          · rename_i r3 h3 c3 n3 hr3
            cases hr
            have hlen := alc_len hst
            refine s_alc hx hb hown hts d4 d3 hG hw hS hbs hsz (by omega) (by omega) hst (fun H1 hw1 hS1 => ih d M _ L S' h2 rv h' c3 n3 hr3 y cc nL rt o kind np k hm p e R s m args below meth c H1 locs (cells + 1) (slots + n) Q ls hx hb hml hown hts hini hl hw1 hS1 hbs (by omega) hfr hlo (by omega) (by omega) ?_)
            intro pc' ls' H1 locs1 ins nx a b v g1 g2 g3 g4
            have g5 := hfin pc' ls' H1 locs1 ins nx a b v g1 g2 g3 g4
            rw [show cells + 1 + c3 = cells + (c3 + 1) by omega, show slots + n + n3 = slots + (n3 + n) by omega]
            exact g5
      · rename_i hkd
        obtain ⟨d4, rfl⟩ := ent_dec (a := a) d1 d2 (by rw [hkd]; decide)
        split at hr
        · cases hr
        · rename_i d'
          split at hr
          · cases hr
          · rename_i as rest nl hst
            split at hr
            · cases hr
            · rename_i r1 h1 c1 n1 hr1
              split at hr
              · cases hr
              · rename_i r3 h3 c3 n3 hr3
                cases hr
                have hlen := run_len sc _ _ _ _ _ _ _ _ _ _ _ hr1
                refine s_call hx hb hml hl.1 hown hts d4 d3 hkd hw hS hbs hsz hst (d' := d') (c1 := c1) (n1 := n1) (r1 := r1) (h1 := h1) hfr hlo (by omega) (by omega) (fun y2 cy ml ry o' kind2 np2 k2 hm2 hnl hcat => by subst hnl; exact met_of ih hr1 hm2 hcat) (fun H1 locs1 hw1 hS1 => ih (d' + 1) M _ L (r1.toList ++ rest) h1 rv h' c3 n3 hr3 y cc nL rt o kind np k hm p e R s m args below meth c H1 locs1 (cells + c1) (slots + n1) Q ls hx hb hml hown hts hini hl hw1 hS1 hbs (by omega) hfr hlo (by omega) (by omega) ?_)
                intro pc' ls' H1 locs1 ins nx a b v g1 g2 g3 g4
                have g5 := hfin pc' ls' H1 locs1 ins nx a b v g1 g2 g3 g4
                rw [show cells + c1 + c3 = cells + (c1 + c3) by omega, show slots + n1 + n3 = slots + (n1 + n3) by omega]
                exact g5
      · split at hr
        · cases hr
        · rename_i r3 hst
          cases hr
          have hS2 : S = rv.toList := by
            rcases rtS_inv hst with ⟨-, x, e1, rfl, -⟩ | ⟨-, x, e1, rfl⟩ | ⟨-, e1, rfl⟩ <;> exact e1
          subst hS2
          have g5 := hfin pc ls H locs ins nx a b v hc hst hw hS
          exact g5
