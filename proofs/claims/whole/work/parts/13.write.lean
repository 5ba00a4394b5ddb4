/-! the interpreter's steps are the machine's: stores, copies, small library calls, new cells -/
theorem pfC_inv {a b p : Nat} {w : Value} {S S' : Stk} {h h' : AHp} {x : Option ACell} (e : pfC a b w p S h x = some (S', h')) : ∃ fs, x = some (.inr (a, fs)) ∧ b < fs.length ∧ okV (fty a b) w = true ∧ S' = S ∧ h' = h.set p (.inr (a, fs.set b w)) := by
  unfold pfC at e
  split at e
  · rename_i ci fs
    cases hc : (Nat.beq ci a && (Nat.blt b fs.length && okV (fty a b) w)) with
    | false => rw [hc] at e; cases e
    | true =>
      rw [hc] at e
      obtain ⟨h1, h20⟩ := andE hc
      obtain ⟨h21, h3⟩ := andE h20
      obtain rfl := beqE h1
      cases e
      exact ⟨fs, rfl, bltE h21, h3, rfl, rfl⟩
  · cases e
theorem iasC_inv {i x : Int32} {p : Nat} {S S' : Stk} {h h' : AHp} {y : Option ACell} (e : iasC x i p S h y = some (S', h')) : ∃ n f, y = some (.inl (0, n, .inl f)) ∧ vp_in i n ∧ S' = S ∧ h' = h.set p (.inl (0, n, .inl (upd f i.toNatClampNeg x))) := by
  unfold iasC at e
  split at e
  · rename_i n f
    cases hc : inB i n with
    | false => rw [hc] at e; cases e
    | true => rw [hc] at e; cases e; exact ⟨n, f, rfl, inB_in hc, rfl, rfl⟩
  · cases e
theorem lasC_inv {i : Int32} {x : Int64} {p : Nat} {S S' : Stk} {h h' : AHp} {y : Option ACell} (e : lasC x i p S h y = some (S', h')) : ∃ n f, y = some (.inl (1, n, .inr (.inl f))) ∧ vp_in i n ∧ S' = S ∧ h' = h.set p (.inl (1, n, .inr (.inl (vp_updL f i.toNatClampNeg x)))) := by
  unfold lasC at e
  split at e
  · rename_i n f
    cases hc : inB i n with
    | false => rw [hc] at e; cases e
    | true => rw [hc] at e; cases e; exact ⟨n, f, rfl, inB_in hc, rfl, rfl⟩
  · cases e
theorem basC_inv {i x : Int32} {p : Nat} {S S' : Stk} {h h' : AHp} {y : Option ACell} (e : basC x i p S h y = some (S', h')) : ∃ n f, y = some (.inl (2, n, .inl f)) ∧ vp_in i n ∧ S' = S ∧ h' = h.set p (.inl (2, n, .inl (upd f i.toNatClampNeg (vp_nar .boolean x)))) := by
  unfold basC at e
  split at e
  · rename_i n f
    cases hc : inB i n with
    | false => rw [hc] at e; cases e
    | true => rw [hc] at e; cases e; exact ⟨n, f, rfl, inB_in hc, rfl, rfl⟩
  · cases e
theorem nneg {z : Int32} (h : decide (0 ≤ z.toInt) = true) : ¬ z < 0 := by
  have h1 := of_decide_eq_true h
  intro h2
  have h3 := Int32.lt_iff_toInt_lt.mp h2
  rw [show (0 : Int32).toInt = 0 from rfl] at h3
  omega
theorem cpC_inv {sp dp n : Int32} {q : Nat} {S S' : Stk} {h h' : AHp} {x y : Option ACell} (e : cpC sp dp n q S h x y = some (S', h')) : ∃ n0 f n1 g, x = some (.inl (0, n0, .inl f)) ∧ y = some (.inl (0, n1, .inl g)) ∧ ¬ sp < 0 ∧ ¬ dp < 0 ∧ ¬ n < 0 ∧ sp.toNatClampNeg + n.toNatClampNeg ≤ n0 ∧ dp.toNatClampNeg + n.toNatClampNeg ≤ n1 ∧ catS S ≤ 8 ∧ S' = S ∧ h' = h.set q (.inl (0, n1, .inl (va_cpy f g sp.toNatClampNeg dp.toNatClampNeg n.toNatClampNeg))) := by
  unfold cpC at e
  split at e
  · rename_i n0 f n1 g
    cases hc : ((decide (0 ≤ sp.toInt) && (decide (0 ≤ dp.toInt) && decide (0 ≤ n.toInt))) && (Nat.ble (sp.toNatClampNeg + n.toNatClampNeg) n0 && (Nat.ble (dp.toNatClampNeg + n.toNatClampNeg) n1 && Nat.ble (catS S) 8))) with
    | false => rw [hc] at e; cases e
    | true =>
      rw [hc] at e
      cases e
      obtain ⟨a1, a2⟩ := andE hc
      obtain ⟨a3, a4⟩ := andE a1
      obtain ⟨a5, a6⟩ := andE a4
      obtain ⟨a7, a8⟩ := andE a2
      obtain ⟨a9, a10⟩ := andE a8
      exact ⟨n0, f, n1, g, rfl, rfl, nneg a3, nneg a5, nneg a6, Nat.le_of_ble_eq_true a7, Nat.le_of_ble_eq_true a9, Nat.le_of_ble_eq_true a10, rfl, rfl⟩
  · cases e
theorem bifE {α : Type} {b : Bool} {x y : α} (h : (bif b then some x else none) = some y) : b = true ∧ x = y := by
  cases b with
  | false => cases h
  | true => cases h; exact ⟨rfl, rfl⟩
section SC
variable {p : Program} {l : Launch} {e : Env} {R : Room} {s : State} {m : MethodId} {args : Array Value} {below : List Frame} {meth : Method} {c : Code} {H : Heap} {locs : List Loc} {cells slots : Nat} {Q : State → Prop}
variable {cc : ByteArray} {pc : Nat} {ls : Array Slot} {ad : Nat → Nat} {cT : Nat → ClassId} {D : va_G} {sc : Scr} {base : Nat}
theorem s_put (hx : p.tables.exec = Jvm.exec) (hb : c.code = cc) {o nL : Nat} {rt : Option FieldType} {ini : Bool} {a b i : Nat} {v : Value} (hown : s.vm.findClass (own o) = some m.cls) (hts : ∀ w ∈ wT, w.before args s = true) (hdg : decode cc pc = .ok (.putfield i, 3)) (hk : lnk o nL rt ini pc (.putfield i) a b v = true) (hin2 : ini = true → meth.name = "<init>")
    (hG : Ga base ad) {h : AHp} (w : Wd base ad cT D sc h s H) (hS : va_S (fun q => base ≤ q) s.heap H locs) (hbs : base ≤ s.heap.size) {S0 : Stk} {x : Value} {q : Nat} {fs : List Value} (e1 : h[q]? = some (.inr (a, fs))) (e2 : b < fs.length) (e3 : okV (fty a b) x = true)
    (kk : ∀ (H1 : Heap) (locs1 : List Loc), Wd base ad cT D sc (h.set q (.inr (a, fs.set b x))) s H1 → va_S (fun q => base ≤ q) s.heap H1 locs1 → W p l e R s m args below meth c H1 locs1 cells slots Q (F0 m (pc + 3) ls (cS ad S0))) : W p l e R s m args below meth c H locs cells slots Q (F0 m pc ls (cV ad x :: .ref (ad q) :: cS ad S0)) := by
  obtain ⟨hlen, hP, hK, -⟩ := id w
  have he := cW_get (ad := ad) (cT := cT) e1
  have hl : b < (fs.map (cV ad)).length := by rw [List.length_map]; exact e2
  obtain ⟨o1, o2⟩ := okV_ok ad e3
  have fin : ∀ (H1 : Heap) (locs1 : List Loc), va_P D classes ((cW ad cT h).set q (ad q, .inr (a, (fs.map (cV ad)).set b (cV ad x)))) H1 → va_S (fun q => base ≤ q) s.heap H1 locs1 → W p l e R s m args below meth c H1 locs1 cells slots Q (F0 m (pc + 3) ls (cS ad S0)) := by
    intro H1 locs1 hP1 hS1
    rw [← List.map_set] at hP1
    have hP2 : va_P D classes (cW ad cT (h.set q (.inr (a, fs.set b x)))) H1 := by
      rw [← cW_set]
      exact hP1
    exact kk H1 locs1 (w.next hG (by rw [List.length_set]; exact hlen) hP2 (S_eq hbs hS hS1)) hS1
  have hk2 : (bif (clT a b).2.2.2 then decide ((i, a, b, 0) ∈ FT o) && (ini && Nat.beq a o) else (decide ((i, a, b, 0) ∈ FT o) || decide ((i, a, b, 1) ∈ FT o))) = true := hk
  cases hfin : (clT a b).2.2.2 with
  | true =>
    rw [hfin] at hk2
    obtain ⟨hf0, h20⟩ := andE hk2
    obtain ⟨h21, h3⟩ := andE h20
    have hf := of_decide_eq_true hf0
    obtain rfl := beqE h3
    obtain ⟨r1, r2⟩ := FT_rng hf
    refine va_putF (D := D) (cl := classes) (C := clR a) (T := clT a) (N := nfs a) (ref := clR a) hx hb hts (clin a r1) (fty a) (clty a r1) (clnm a r1) hown hK hP (cW_D hG cT hlen) hS q he (clK a r1) b r2 (hts _ (mem_wT (FT_ok a _ hf) rfl)) (fun z hz => by rw [clT1 a r1 b r2] at hz; exact hz) hfin (hin2 h21) ?_ (clty a r1 b r2) o1 o2 hl hdg (fun H1 locs1 hP1 _ hS1 => fin H1 locs1 hP1 hS1)
    rw [clT1 a r1 b r2]
    match a, r1 with
    | 0, _ => rfl
    | 1, _ => rfl
    | 2, _ => rfl
    | 3, _ => rfl
    | 4, _ => rfl
    | 5, _ => rfl
    | 6, _ => rfl
  | false =>
    rw [hfin] at hk2
    rcases (Bool.or_eq_true _ _).mp hk2 with hf | hf
    · have hf := of_decide_eq_true hf
      obtain ⟨r1, r2⟩ := FT_rng hf
      exact va_put (D := D) (cl := classes) (C := clR a) (T := clT a) (N := nfs a) (ref := clR a) hx hb hts (clin a r1) (fty a) (clty a r1) (clnm a r1) hown hK hP (cW_D hG cT hlen) hS q he (clK a r1) b r2 (hts _ (mem_wT (FT_ok o _ hf) rfl)) (fun z hz => by rw [clT1 a r1 b r2] at hz; exact hz) hfin (clty a r1 b r2) o1 o2 hl hdg (fun H1 locs1 hP1 _ hS1 => fin H1 locs1 hP1 hS1)
    · have hf := of_decide_eq_true hf
      obtain ⟨r1, r2⟩ := FT_rng hf
      exact va_putN (D := D) (cl := classes) (C := clR a) (T := clT a) (N := nfs a) (ref := clR a) (host := "WingCensus") hx hb hts (clin a r1) (fty a) (clty a r1) (clnm a r1) hown hK hP (cW_D hG cT hlen) hS q he (clK a r1) b r2 (hts _ (mem_wT (FT_ok o _ hf) rfl)) (fun z hz => by rw [clT1 a r1 b r2] at hz; exact hz) hfin (clty a r1 b r2) o1 o2 hl hdg (fun H1 locs1 hP1 _ hS1 => fin H1 locs1 hP1 hS1)
theorem s_hwr (hx : p.tables.exec = Jvm.exec) (hb : c.code = cc) (hml : c.maxLocals = ls.size) {o nL : Nat} {rt : Option FieldType} {ini : Bool} {a b : Nat} {v : Value} (hown : s.vm.findClass (own o) = some m.cls) (hts : ∀ w ∈ wT, w.before args s = true) {ins : Instr} (hdg : decode cc pc = .ok (ins, ilen ins)) (hk : lnk o nL rt ini pc ins a b v = true) (hin2 : ini = true → meth.name = "<init>")
    (hG : Ga base ad) {h h' : AHp} (w : Wd base ad cT D sc h s H) (hS : va_S (fun q => base ≤ q) s.heap H locs) (hbs : base ≤ s.heap.size) (hfr : 1 ≤ R.frames) (hlo : 40 ≤ R.locals) (hc : cells ≤ R.cells) (hsl : slots ≤ R.slots) (hkd : kd ins a = 4) {S S' : Stk} (hh : hwr ins a b S h = some (S', h'))
    (kk : ∀ (H1 : Heap) (locs1 : List Loc), Wd base ad cT D sc h' s H1 → va_S (fun q => base ≤ q) s.heap H1 locs1 → W p l e R s m args below meth c H1 locs1 cells slots Q (F0 m (pc + ilen ins) ls (cS ad S'))) : W p l e R s m args below meth c H locs cells slots Q (F0 m pc ls (cS ad S)) := by
  obtain ⟨hlen, hP, hK, hX0, hX1, hZ⟩ := id w
  have hD := cW_D hG cT hlen
  unfold hwr at hh
  split at hh
  · split at hh
    · rename_i i x q S0
      obtain ⟨fs, e1, e2, e3, rfl, rfl⟩ := pfC_inv hh
      exact s_put hx hb hown hts hdg hk hin2 hG w hS hbs e1 e2 e3 kk
    · cases hh
  · split at hh
    · rename_i x i q S0
      obtain ⟨n, f, e1, e2, rfl, rfl⟩ := iasC_inv hh
      refine va_iast hx hb hK hP hD hS q 0 (cW_get e1) rfl e2 hdg (fun H1 locs1 hP1 _ hS1 => ?_)
      have hP2 : va_P D classes (cW ad cT (h.set q (.inl (0, n, .inl (upd f i.toNatClampNeg x))))) H1 := by
        rw [← cW_set]
        exact hP1
      exact kk H1 locs1 (w.next hG (by rw [List.length_set]; exact hlen) hP2 (S_eq hbs hS hS1)) hS1
    · cases hh
  · split at hh
    · rename_i x i q S0
      obtain ⟨n, f, e1, e2, rfl, rfl⟩ := lasC_inv hh
      refine va_last hx hb hK hP hD hS q 1 (cW_get e1) rfl e2 hdg (fun H1 locs1 hP1 _ hS1 => ?_)
      have hP2 : va_P D classes (cW ad cT (h.set q (.inl (1, n, .inr (.inl (vp_updL f i.toNatClampNeg x)))))) H1 := by
        rw [← cW_set]
        exact hP1
      exact kk H1 locs1 (w.next hG (by rw [List.length_set]; exact hlen) hP2 (S_eq hbs hS hS1)) hS1
    · cases hh
  · split at hh
    · rename_i x i q S0
      obtain ⟨n, f, e1, e2, rfl, rfl⟩ := basC_inv hh
      refine va_zast hx hb hK hP hD hS q 2 (cW_get e1) rfl e2 hdg (fun H1 locs1 hP1 _ hS1 => ?_)
      have hP2 : va_P D classes (cW ad cT (h.set q (.inl (2, n, .inl (upd f i.toNatClampNeg (vp_nar .boolean x)))))) H1 := by
        rw [← cW_set]
        exact hP1
      exact kk H1 locs1 (w.next hG (by rw [List.length_set]; exact hlen) hP2 (S_eq hbs hS hS1)) hS1
    · cases hh
  · rename_i i
    have hk2 : (bif Nat.ble 990 a then decide ((i, a) ∈ AC o) else cOk o i a b 0 v) = true := hk
    have hkd2 : (bif Nat.ble 990 a then 4 else 6) = 4 := hkd
    cases hge : Nat.ble 990 a with
    | false => rw [hge] at hkd2; cases hkd2
    | true =>
      rw [hge] at hk2
      have hlw := AC_ok o _ (of_decide_eq_true hk2)
      cases h98 : Nat.beq a 998 with
      | true =>
        rw [h98] at hh
        obtain rfl := beqE h98
        have hh2 : cpyS h S = some (S', h') := hh
        unfold cpyS at hh2
        · split at hh2
          · rename_i n dp q1 sp q0 S0
            obtain ⟨n0, f, n1, g, e1, e2, h1, h2, h3, h4, h5, h6, rfl, rfl⟩ := cpC_inv hh2
            refine va_copyi hx hb hml hown (hts _ (mem_wT hlw rfl)) (hts _ (mem_wT w_an rfl)) (hts _ (mem_wT w_as rfl)) (hts _ (mem_wT w_ai rfl)) hK hP hD hS q0 q1 0 0 (cW_get e1) (cW_get e2) rfl rfl rfl h1 h2 h3 h4 h5 (fun _ _ => rfl) hfr ?_ hdg (fun H1 locs1 hP1 _ hS1 => ?_)
            · have hcat := cS_cat ad S'
              have hnw : nativeFrameWords "java/lang/System" "arraycopy" 5 = 7 := by decide +kernel
              rw [hnw]
              show ((cS ad S').map fun v => v.category).sum + (7 + 11) ≤ R.locals
              omega
            · have hP2 : va_P D classes (cW ad cT (h.set q1 (.inl (0, n1, .inl (va_cpy f g sp.toNatClampNeg dp.toNatClampNeg n.toNatClampNeg))))) H1 := by
                rw [← cW_set]
                exact hP1
              exact kk H1 locs1 (w.next hG (by rw [List.length_set]; exact hlen) hP2 (S_eq hbs hS hS1)) hS1
          · cases hh2
      | false =>
        rw [h98] at hh
        have hh2 : mthC a h S = some (S', h') := hh
        unfold mthC at hh2
        split at hh2
        · split at hh2
          · rename_i y x S0
            obtain ⟨h1, h2⟩ := bifE hh2
            cases h2
            have hcat := cS_cat ad S0
            have h8 := Nat.le_of_ble_eq_true h1
            exact va_mmax hx hb hml hown (hts _ (mem_wT hlw rfl)) (hts _ (mem_wT w_m0s rfl)) (hts _ (mem_wT w_mi rfl)) (hts _ (mem_wT w_m0c rfl)) hfr (by show ((cS ad S0).map fun v => v.category).sum + 13 ≤ R.locals; omega) hc hsl hdg (kk H locs w hS)
          · cases hh2
        · split at hh2
          · rename_i y x S0
            obtain ⟨h1, h2⟩ := bifE hh2
            cases h2
            have hcat := cS_cat ad S0
            have h8 := Nat.le_of_ble_eq_true h1
            exact va_mmin hx hb hml hown (hts _ (mem_wT hlw rfl)) (hts _ (mem_wT w_m1s rfl)) (hts _ (mem_wT w_mi rfl)) (hts _ (mem_wT w_m1c rfl)) hfr (by show ((cS ad S0).map fun v => v.category).sum + 13 ≤ R.locals; omega) hc hsl hdg (kk H locs w hS)
          · cases hh2
        · split at hh2
          · rename_i x S0
            obtain ⟨h1, h2⟩ := bifE hh2
            cases h2
            have hcat := cS_cat ad S0
            have h8 := Nat.le_of_ble_eq_true h1
            exact va_mabs hx hb hml hown (hts _ (mem_wT hlw rfl)) (hts _ (mem_wT w_m2s rfl)) (hts _ (mem_wT w_mi rfl)) (hts _ (mem_wT w_m2c rfl)) hfr (by show ((cS ad S0).map fun v => v.category).sum + 13 ≤ R.locals; omega) hc hsl hdg (kk H locs w hS)
          · cases hh2
        · split at hh2
          · rename_i y x S0
            obtain ⟨h1, h2⟩ := bifE hh2
            cases h2
            have hcat := cS_cat ad S0
            have h8 := Nat.le_of_ble_eq_true h1
            exact va_mmin_long hx hb hml hown (hts _ (mem_wT hlw rfl)) (hts _ (mem_wT w_m3s rfl)) (hts _ (mem_wT w_mi rfl)) (hts _ (mem_wT w_m3c rfl)) hfr (by show ((cS ad S0).map fun v => v.category).sum + 15 ≤ R.locals; omega) hc hsl hdg (kk H locs w hS)
          · cases hh2
        · cases hh2
  · rename_i i
    have hkd2 : (bif Nat.beq a 999 then 4 else 6) = 4 := hkd
    have hk2 : (bif Nat.beq a 999 then decide (i ∈ OB o) else cOk o i a b 2 v) = true := hk
    cases h99 : Nat.beq a 999 with
    | false => rw [h99] at hkd2; cases hkd2
    | true =>
      rw [h99] at hk2
      split at hh
      · rename_i q S0
        obtain ⟨h1, h2⟩ := bifE hh
        cases h2
        have hcat := cS_cat ad S'
        have h8 := Nat.le_of_ble_eq_true h1
        refine W.objInit hx hb hown (hts _ (mem_wT (OB_ok o _ (of_decide_eq_true hk2)) rfl)) (hts _ (mem_wT w_oi rfl)) (hts _ (mem_wT w_oc rfl)) rfl hml.symm rfl hdg hfr ?_ (kk H locs w hS)
        show 2 * 0 + ((cS ad S').map fun v => v.category).sum + 12 ≤ R.locals
        omega
      · cases hh
  · cases hh
/-- which address a new cell has -/
theorem new_at {q : Nat} {x : va_E} {h : AHp} {H1 : Heap} (hG : Ga base ad) (hl : h.length < 999) (hP : va_P D classes (cW ad cT h ++ [(q, x)]) H1) (hD : va_D (fun q => base ≤ q) (cW ad cT h ++ [(q, x)])) (hz : H1.size ≤ base + h.length + 1) : q = ad h.length := by
  have hlast : (cW ad cT h ++ [(q, x)])[h.length]? = some (q, x) := by
    rw [List.getElem?_append_right (by rw [cW_len]; exact Nat.le_refl _), cW_len, Nat.sub_self]
    rfl
  have h1 : q < H1.size := (hP _ _ hlast).lt
  have h2 : base ≤ q := hD.2 _ _ hlast
  rw [hG.1 _ (by omega)]
  rcases Nat.lt_or_ge q (base + h.length) with h3 | h3
  · exfalso
    have hi : q - base < h.length := by omega
    obtain ⟨y, hy⟩ : ∃ y, h[q - base]? = some y := ⟨_, List.getElem?_eq_getElem hi⟩
    have h4 : (cW ad cT h ++ [(q, x)])[q - base]? = some (ad (q - base), cE ad cT y) := by
      rw [List.getElem?_append_left (by rw [cW_len]; exact hi)]
      exact cW_get hy
    have h5 := hD.1 _ _ _ _ h4 hlast (by show ad (q - base) = q; rw [hG.1 _ (by omega)]; omega)
    omega
  · omega
theorem s_alc (hx : p.tables.exec = Jvm.exec) (hb : c.code = cc) {o nL : Nat} {rt : Option FieldType} {ini : Bool} {a b : Nat} {v : Value} (hown : s.vm.findClass (own o) = some m.cls) (hts : ∀ w ∈ wT, w.before args s = true) {ins : Instr} (hdg : decode cc pc = .ok (ins, ilen ins)) (hk : lnk o nL rt ini pc ins a b v = true)
    (hG : Ga base ad) {h h' : AHp} (w : Wd base ad cT D sc h s H) (hS : va_S (fun q => base ≤ q) s.heap H locs) (hbs : base ≤ s.heap.size) (hsz : s.heap.size + cells ≤ base + h.length) {S S' : Stk} {n : Nat} (hc : cells + 1 ≤ R.cells) (hsl : slots + n ≤ R.slots) (hh : alc ins a S h = some (S', h', n))
    (kk : ∀ (H1 : Heap), Wd base ad cT D sc h' s H1 → va_S (fun q => base ≤ q) s.heap H1 locs → W p l e R s m args below meth c H1 locs (cells + 1) (slots + n) Q (F0 m (pc + ilen ins) ls (cS ad S'))) : W p l e R s m args below meth c H locs cells slots Q (F0 m pc ls (cS ad S)) := by
  obtain ⟨hlen, hP, hK, hX0, hX1, hZ⟩ := id w
  have hD := cW_D hG cT hlen
  have hA : ∀ q, s.heap.size ≤ q → base ≤ q := fun q hq => Nat.le_trans hbs hq
  unfold alc at hh
  split at hh
  · rename_i i
    obtain ⟨h1, h2⟩ := bifE hh
    cases h2
    have hl9 := bltE h1
    have hm := of_decide_eq_true hk
    have r1 := CT_rng hm
    refine va_new (D := D) (cl := classes) (ci := a) (fs := dflt a) (C := clR a) (T := clT a) (N := nfs a) hx hb hts (clin a r1) (fty a) (clty a r1) hown (hts _ (mem_wT (CT_ok o _ hm) rfl)) (hts _ (mem_wT (clit a r1) rfl)) (hts _ (mem_wT (clini a r1) rfl)) hK hP hD hS hA (clK a r1) (clD a r1) hc hsl hdg (fun q H1 hP1 hD1 hS1 => ?_)
    intro T hT X
    have hz : H1.size ≤ base + h.length + 1 := by
      have hz1 : T.heap.size ≤ s.heap.size + (cells + 1) := X.same.2.2.1
      rw [hT] at hz1
      omega
    have hq := new_at hG hl9 hP1 hD1 hz
    subst hq
    have hP2 : va_P D classes (cW ad cT (h ++ [.inr (a, dflt a)])) H1 := by
      rw [← cW_app]
      show va_P D classes (cW ad cT h ++ [(ad h.length, .inr (a, (dflt a).map (cV ad)))]) H1
      rw [cldf ad a r1]
      exact hP1
    exact kk H1 (w.next hG (by rw [List.length_append]; show h.length + 1 < 1000; omega) hP2 (S_eq hbs hS hS1)) hS1 T hT X
  · split at hh
    · rename_i t _ n0 S0
      obtain ⟨b1, b2⟩ := bifE hh
      cases b2
      obtain ⟨b3, b4⟩ := andE b1
      obtain ⟨b5, b6⟩ := andE b4
      have hl9 := bltE b6
      have hn := nneg b3
      have hbig : n0.toNatClampNeg < 100000 := by
        have z1 := of_decide_eq_true b5
        show n0.toInt.toNat < 100000
        omega
      have mkA : ∀ (ty : FieldType) (a0 : vp_A) (hty : newarray.typeOf t = ty) (ha : ∀ cA : ClassId, vp_cell cA a0 = arrV cA n0.toNatClampNeg (fun _ => defaultValue ty)) (hby : n0.toNatClampNeg * componentBytes ty ≤ 536870912) (harr : (Jvm.Cond.arrayClass (newarray.typeOf t)).before args s = true) (hcls : ∀ cA : ClassId, va_RA s cA ty → cA = cT a) (hza : cE ad cT (zeroA a n0.toNatClampNeg) = .inl (cT a, a0)) , W p l e R s m args below meth c H locs cells slots Q (F0 m pc ls (cS ad (.int n0 :: S0))) := by
        intro ty a0 hty ha hby harr hcls hza
        refine va_newa (D := D) (cl := classes) hx hb harr hty hK hP hD hS hA ha hn rfl hby hc hsl hdg (fun q cA H1 hK1 hP1 hD1 hS1 => ?_)
        have hcA : cA = cT a := hcls cA (hK1.2 3 (cA, ty) rfl).2
        subst hcA
        intro T hT X
        have hz : H1.size ≤ base + h.length + 1 := by
          have hz1 : T.heap.size ≤ s.heap.size + (cells + 1) := X.same.2.2.1
          rw [hT] at hz1
          omega
        have hq := new_at hG hl9 hP1 hD1 hz
        subst hq
        have hP2 : va_P D classes (cW ad cT (h ++ [zeroA a n0.toNatClampNeg])) H1 := by
          rw [← cW_app, hza]
          exact hP1
        exact kk H1 (w.next hG (by rw [List.length_append]; show h.length + 1 < 1000; omega) hP2 (S_eq hbs hS hS1)) hS1 T hT X
      cases t with
      | int =>
        obtain rfl := beqE (show Nat.beq a 0 = true from hk)
        exact mkA .int (n0.toNatClampNeg, .inl fun _ => 0) rfl (fun _ => rfl) (by show _ * 4 ≤ _; omega) (hts _ (mem_wT w_a0 rfl)) (fun cA hr => Option.some.inj (Eq.trans (Eq.symm hr) (hK.2 0 (cT 0, .int) rfl).2)) rfl
      | long =>
        obtain rfl := beqE (show Nat.beq a 1 = true from hk)
        exact mkA .long (n0.toNatClampNeg, .inr (.inl fun _ => 0)) rfl (fun _ => rfl) (by show _ * 8 ≤ _; omega) (hts _ (mem_wT w_a1 rfl)) (fun cA hr => Option.some.inj (Eq.trans (Eq.symm hr) (hK.2 1 (cT 1, .long) rfl).2)) rfl
      | boolean =>
        obtain rfl := beqE (show Nat.beq a 2 = true from hk)
        exact mkA .boolean (n0.toNatClampNeg, .inl fun _ => 0) rfl (fun _ => rfl) (by show _ * 1 ≤ _; omega) (hts _ (mem_wT w_a2 rfl)) (fun cA hr => Option.some.inj (Eq.trans (Eq.symm hr) (hK.2 2 (cT 2, .boolean) rfl).2)) rfl
      | char => exact absurd (show false = true from hk) (by decide)
      | float => exact absurd (show false = true from hk) (by decide)
      | double => exact absurd (show false = true from hk) (by decide)
      | byte => exact absurd (show false = true from hk) (by decide)
      | short => exact absurd (show false = true from hk) (by decide)
    · cases hh
  · cases hh
end SC
