/-! each method's table is its bytecode, with links that the tables have -/
def ilen (ins : Instr) : Nat := match ins with
  | .bipush _ => 2
  | .ldc _ => 2
  | .iload _ => 2
  | .lload _ => 2
  | .aload _ => 2
  | .istore _ => 2
  | .lstore _ => 2
  | .astore _ => 2
  | .newarray _ => 2
  | .sipush _ => 3
  | .ldc_w _ => 3
  | .ldc2_w _ => 3
  | .getfield _ => 3
  | .putfield _ => 3
  | .getstatic _ => 3
  | .invokevirtual _ => 3
  | .invokestatic _ => 3
  | .invokespecial _ => 3
  | .new _ => 3
  | .goto _ => 3
  | .ifCond _ _ => 3
  | .if_icmp _ _ => 3
  | .iinc _ _ => 3
  | _ => 1
def isSw (ins : Instr) : Bool := match ins with
  | .tableswitch _ _ _ _ => true
  | .lookupswitch _ _ => true
  | _ => false
def kOk (i : Nat) (v : Value) (l : List (Nat × Int32)) : Bool := match v with
  | .int x => decide ((i, x) ∈ l)
  | _ => false
def kOkL (i : Nat) (v : Value) (l : List (Nat × Int64)) : Bool := match v with
  | .long x => decide ((i, x) ∈ l)
  | _ => false
def cOk (o i a b kind : Nat) (v : Value) : Bool := match mt a with
  | some (_, _, ml, _, o', k', np, _) => Nat.beq k' kind && (Nat.beq b (bif Nat.beq kind 0 then np else np + 1) && ((decide ((i, a, 0) ∈ XT o) || decide ((i, a, 1) ∈ XT o)) && (match v with
    | .retAddr z => Nat.beq (z / 100) ml && (bif Nat.beq kind 1 then Nat.beq (z % 100) o' && Nat.blt o' 7 else true)
    | _ => false)))
  | none => false
def lnk (o maxL : Nat) (rt : Option FieldType) (ini : Bool) (pc : Nat) (ins : Instr) (a b : Nat) (v : Value) : Bool := match ins with
  | .iconst n => decide (v = .int (Int32.ofInt n))
  | .bipush n => decide (v = .int (Int8.ofInt n).toInt32)
  | .sipush n => decide (v = .int (Int16.ofInt n).toInt32)
  | .lconst n => decide (v = .long (Int64.ofNat (n : Nat)))
  | .ldc i => kOk i v (KI o)
  | .ldc_w i => kOk i v (KI o)
  | .ldc2_w i => kOkL i v (KL o)
  | .getstatic i => decide (v = .ref 1001) && (Nat.beq i 75 && Nat.beq o 1)
  | .iload i => Nat.beq a i
  | .iload_n i => Nat.beq a i
  | .lload i => Nat.beq a i
  | .lload_n i => Nat.beq a i
  | .aload i => Nat.beq a i
  | .aload_n i => Nat.beq a i
  | .istore i => Nat.beq a i && Nat.blt i maxL
  | .istore_n i => Nat.beq a i && Nat.blt i maxL
  | .lstore i => Nat.beq a i && Nat.blt (i + 1) maxL
  | .lstore_n i => Nat.beq a i && Nat.blt (i + 1) maxL
  | .astore i => Nat.beq a i && Nat.blt i maxL
  | .astore_n i => Nat.beq a i && Nat.blt i maxL
  | .iinc i n => Nat.beq a i && (Nat.blt i maxL && decide (v = .int (Int32.ofInt n)))
  | .goto off => decide ((pc : Int) + off = (a : Int))
  | .ifCond _ off => decide ((pc : Int) + off = (a : Int))
  | .if_icmp _ off => decide ((pc : Int) + off = (a : Int))
  | .tableswitch d _ _ offs => decide (0 ≤ (pc : Int) + d) && offs.toList.all (fun off => decide (0 ≤ (pc : Int) + off))
  | .lookupswitch d ps => (ps.toList.zip (ps.toList.drop 1)).all (fun (a, next) => a.1 < next.1) && (decide (0 ≤ (pc : Int) + d) && ps.toList.all (fun q => decide (0 ≤ (pc : Int) + q.2)))
  | .getfield i => decide ((i, a, b, 0) ∈ FT o) || decide ((i, a, b, 1) ∈ FT o)
  | .putfield i => bif (clT a b).2.2.2 then decide ((i, a, b, 0) ∈ FT o) && (ini && Nat.beq a o) else (decide ((i, a, b, 0) ∈ FT o) || decide ((i, a, b, 1) ∈ FT o))
  | .newarray t => (match t with
    | .int => Nat.beq a 0
    | .long => Nat.beq a 1
    | .boolean => Nat.beq a 2
    | _ => false)
  | .new i => decide ((i, a) ∈ CT o)
  | .invokevirtual i => cOk o i a b 1 v
  | .invokestatic i => bif Nat.ble 990 a then decide ((i, a) ∈ AC o) else cOk o i a b 0 v
  | .invokespecial i => bif Nat.beq a 999 then decide (i ∈ OB o) else cOk o i a b 2 v
  | .ireturn => decide (rt = some .int ∧ b = 0 ∨ rt = some .boolean ∧ b = 1)
  | .lreturn => decide (rt = some .long)
  | .return_ => decide (rt = none)
  | _ => true
def chkE (o maxL : Nat) (rt : Option FieldType) (ini : Bool) (cc : ByteArray) (q : Nat × Ent) : Bool := match q with
  | (pc, ins, nx, a, b, v) => decide (decode cc pc = .ok (ins, nx - pc)) && ((isSw ins || Nat.beq nx (pc + ilen ins)) && lnk o maxL rt ini pc ins a b v)
def chkH (t : Meta) : Bool := match t with
  | (y, _, ml, _, o, kind, np, _) => plainName y.cls && (decide (y.cls = own o) && (Nat.ble ml 20 && (decide (y.cls ≠ "java/lang/invoke/MethodHandle" ∧ y.cls ≠ "java/lang/invoke/VarHandle") && (decide ((parseMethodDescriptor y.desc).map (fun d => d.parameters.length) = some np) && (Nat.ble kind 2 && (!(Nat.beq kind 2) || decide (y.name = "<init>")))))))
/-- the words on a method as it is called -/
def mW (t : Meta) : List Cond := match t with
  | (y, cc, ml, rt, _, kind, _, _) => .code y cc ml rt :: .initialized y.cls :: (bif Nat.beq kind 0 then [.static y] else bif Nat.beq kind 1 then [.instanceMethod y, .selects y.cls y y] else [.instanceMethod y])
def chkB (t : Meta) : Bool := match t with
  | (y, cc, ml, rt, o, _, _, k) => k.all (chkE o ml rt (decide (y.name = "<init>")) cc)
def okM (t : Meta) : Prop := chkH t = true ∧ chkB t = true ∧ (t.2.2.2.2.1 = 7 ∨ ∀ w ∈ mW t, w ∈ lw_tbl)
theorem mem_ps {l : List Cond} {ps : List Nat} (h : l = ps.filterMap (fun i => lw_tbl[i]?)) : ∀ w ∈ l, w ∈ lw_tbl := by
  intro q hq
  rw [h] at hq
  obtain ⟨i, -, hi⟩ := List.mem_filterMap.mp hq
  exact List.mem_of_getElem? hi
theorem ok_F_init : okM t_F_init := ⟨by decide +kernel, by decide +kernel, Or.inr (mem_ps (ps := [236, 131, 235]) (by decide +kernel))⟩
theorem ok_F_begin : okM t_F_begin := ⟨by decide +kernel, by decide +kernel, Or.inr (mem_ps (ps := [447, 131, 446, 19]) (by decide +kernel))⟩
theorem ok_F_become : okM t_F_become := ⟨by decide +kernel, by decide +kernel, Or.inr (mem_ps (ps := [550, 131, 549, 40]) (by decide +kernel))⟩
theorem ok_F_dented : okM t_F_dented := ⟨by decide +kernel, by decide +kernel, Or.inr (mem_ps (ps := [557, 131, 556, 41]) (by decide +kernel))⟩
theorem ok_F_seen : okM t_F_seen := ⟨by decide +kernel, by decide +kernel, Or.inr (mem_ps (ps := [476, 131, 475, 24]) (by decide +kernel))⟩
theorem ok_F_dentedFrom : okM t_F_dentedFrom := ⟨by decide +kernel, by decide +kernel, Or.inr (mem_ps (ps := [480, 131, 479, 25]) (by decide +kernel))⟩
theorem ok_F_press : okM t_F_press := ⟨by decide +kernel, by decide +kernel, Or.inr (mem_ps (ps := [634, 131, 633, 54]) (by decide +kernel))⟩
theorem ok_F_passNight : okM t_F_passNight := ⟨by decide +kernel, by decide +kernel, Or.inr (mem_ps (ps := [561, 131, 560, 42]) (by decide +kernel))⟩
theorem ok_F_melt : okM t_F_melt := ⟨by decide +kernel, by decide +kernel, Or.inr (mem_ps (ps := [659, 131, 658, 57]) (by decide +kernel))⟩
theorem ok_F_snowOver : okM t_F_snowOver := ⟨by decide +kernel, by decide +kernel, Or.inr (mem_ps (ps := [667, 131, 666, 58]) (by decide +kernel))⟩
theorem ok_F_cross : okM t_F_cross := ⟨by decide +kernel, by decide +kernel, Or.inr (mem_ps (ps := [675, 131, 674, 59]) (by decide +kernel))⟩
theorem ok_F_roll : okM t_F_roll := ⟨by decide +kernel, by decide +kernel, Or.inr (mem_ps (ps := [689, 131, 688, 61]) (by decide +kernel))⟩
theorem ok_L_init : okM t_L_init := ⟨by decide +kernel, by decide +kernel, Or.inr (mem_ps (ps := [184, 130, 183]) (by decide +kernel))⟩
theorem ok_L_clear : okM t_L_clear := ⟨by decide +kernel, by decide +kernel, Or.inr (mem_ps (ps := [367, 130, 366, 2]) (by decide +kernel))⟩
theorem ok_L_measure : okM t_L_measure := ⟨by decide +kernel, by decide +kernel, Or.inr (mem_ps (ps := [398, 130, 397, 9]) (by decide +kernel))⟩
theorem ok_L_cells : okM t_L_cells := ⟨by decide +kernel, by decide +kernel, Or.inr (mem_ps (ps := [432, 130, 431, 16]) (by decide +kernel))⟩
theorem okg_0 : ∀ t ∈ mt_0, okM t := List.forall_mem_cons.mpr ⟨ok_F_init, List.forall_mem_cons.mpr ⟨ok_F_begin, List.forall_mem_cons.mpr ⟨ok_F_become, List.forall_mem_cons.mpr ⟨ok_F_dented, List.forall_mem_cons.mpr ⟨ok_F_seen, List.forall_mem_cons.mpr ⟨ok_F_dentedFrom, List.forall_mem_cons.mpr ⟨ok_F_press, List.forall_mem_cons.mpr ⟨ok_F_passNight, List.forall_mem_cons.mpr ⟨ok_F_melt, List.forall_mem_cons.mpr ⟨ok_F_snowOver, List.forall_mem_cons.mpr ⟨ok_F_cross, List.forall_mem_cons.mpr ⟨ok_F_roll, List.forall_mem_cons.mpr ⟨ok_L_init, List.forall_mem_cons.mpr ⟨ok_L_clear, List.forall_mem_cons.mpr ⟨ok_L_measure, List.forall_mem_cons.mpr ⟨ok_L_cells, fun t h => by cases h⟩⟩⟩⟩⟩⟩⟩⟩⟩⟩⟩⟩⟩⟩⟩⟩
theorem ok_L_isRock : okM t_L_isRock := ⟨by decide +kernel, by decide +kernel, Or.inr (mem_ps (ps := [581, 130, 580, 44]) (by decide +kernel))⟩
theorem ok_L_row : okM t_L_row := ⟨by decide +kernel, by decide +kernel, Or.inr (mem_ps (ps := [684, 130, 683, 60]) (by decide +kernel))⟩
theorem ok_L_moved : okM t_L_moved := ⟨by decide +kernel, by decide +kernel, Or.inr (mem_ps (ps := [442, 130, 441, 18]) (by decide +kernel))⟩
theorem ok_L_grown : okM t_L_grown := ⟨by decide +kernel, by decide +kernel, Or.inr (mem_ps (ps := [496, 130, 495, 29]) (by decide +kernel))⟩
theorem ok_L_steps : okM t_L_steps := ⟨by decide +kernel, by decide +kernel, Or.inr (mem_ps (ps := [536, 130, 535, 38]) (by decide +kernel))⟩
theorem ok_L_shape : okM t_L_shape := ⟨by decide +kernel, by decide +kernel, Or.inr (mem_ps (ps := [603, 130, 602, 48]) (by decide +kernel))⟩
theorem ok_L_drawShapes : okM t_L_drawShapes := ⟨by decide +kernel, by decide +kernel, Or.inr (mem_ps (ps := [428, 130, 427, 15]) (by decide +kernel))⟩
theorem ok_L_drawnShape : okM t_L_drawnShape := ⟨by decide +kernel, by decide +kernel, Or.inr (mem_ps (ps := [436, 130, 435, 17]) (by decide +kernel))⟩
theorem ok_L_groupOf : okM t_L_groupOf := ⟨by decide +kernel, by decide +kernel, Or.inr (mem_ps (ps := [492, 130, 491, 28]) (by decide +kernel))⟩
theorem ok_L_firstGroup : okM t_L_firstGroup := ⟨by decide +kernel, by decide +kernel, Or.inr (mem_ps (ps := [488, 130, 487, 27]) (by decide +kernel))⟩
theorem ok_L_groupsIn : okM t_L_groupsIn := ⟨by decide +kernel, by decide +kernel, Or.inr (mem_ps (ps := [509, 130, 508, 32]) (by decide +kernel))⟩
theorem ok_L_countOf : okM t_L_countOf := ⟨by decide +kernel, by decide +kernel, Or.inr (mem_ps (ps := [484, 130, 483, 26]) (by decide +kernel))⟩
theorem ok_L_countedAs : okM t_L_countedAs := ⟨by decide +kernel, by decide +kernel, Or.inr (mem_ps (ps := [501, 130, 500, 30]) (by decide +kernel))⟩
theorem ok_L_greatestIn : okM t_L_greatestIn := ⟨by decide +kernel, by decide +kernel, Or.inr (mem_ps (ps := [513, 130, 512, 33]) (by decide +kernel))⟩
theorem ok_L_forgedIn : okM t_L_forgedIn := ⟨by decide +kernel, by decide +kernel, Or.inr (mem_ps (ps := [520, 130, 519, 34]) (by decide +kernel))⟩
theorem ok_L_isShape : okM t_L_isShape := ⟨by decide +kernel, by decide +kernel, Or.inr (mem_ps (ps := [524, 130, 523, 35]) (by decide +kernel))⟩
theorem okg_1 : ∀ t ∈ mt_1, okM t := List.forall_mem_cons.mpr ⟨ok_L_isRock, List.forall_mem_cons.mpr ⟨ok_L_row, List.forall_mem_cons.mpr ⟨ok_L_moved, List.forall_mem_cons.mpr ⟨ok_L_grown, List.forall_mem_cons.mpr ⟨ok_L_steps, List.forall_mem_cons.mpr ⟨ok_L_shape, List.forall_mem_cons.mpr ⟨ok_L_drawShapes, List.forall_mem_cons.mpr ⟨ok_L_drawnShape, List.forall_mem_cons.mpr ⟨ok_L_groupOf, List.forall_mem_cons.mpr ⟨ok_L_firstGroup, List.forall_mem_cons.mpr ⟨ok_L_groupsIn, List.forall_mem_cons.mpr ⟨ok_L_countOf, List.forall_mem_cons.mpr ⟨ok_L_countedAs, List.forall_mem_cons.mpr ⟨ok_L_greatestIn, List.forall_mem_cons.mpr ⟨ok_L_forgedIn, List.forall_mem_cons.mpr ⟨ok_L_isShape, fun t h => by cases h⟩⟩⟩⟩⟩⟩⟩⟩⟩⟩⟩⟩⟩⟩⟩⟩
theorem ok_N_init : okM t_N_init := ⟨by decide +kernel, by decide +kernel, Or.inr (mem_ps (ps := [282, 135, 281]) (by decide +kernel))⟩
theorem ok_N_empty : okM t_N_empty := ⟨by decide +kernel, by decide +kernel, Or.inr (mem_ps (ps := [451, 135, 450, 20]) (by decide +kernel))⟩
theorem ok_N_addFound : okM t_N_addFound := ⟨by decide +kernel, by decide +kernel, Or.inr (mem_ps (ps := [797, 135, 796, 71]) (by decide +kernel))⟩
theorem ok_N_agreesWith : okM t_N_agreesWith := ⟨by decide +kernel, by decide +kernel, Or.inr (mem_ps (ps := [818, 135, 817, 75]) (by decide +kernel))⟩
theorem ok_N_addEntry : okM t_N_addEntry := ⟨by decide +kernel, by decide +kernel, Or.inr (mem_ps (ps := [849, 135, 848, 80]) (by decide +kernel))⟩
theorem ok_N_firstOtherThan : okM t_N_firstOtherThan := ⟨by decide +kernel, by decide +kernel, Or.inr (mem_ps (ps := [857, 135, 856, 81]) (by decide +kernel))⟩
theorem ok_R_init : okM t_R_init := ⟨by decide +kernel, by decide +kernel, Or.inr (mem_ps (ps := [152, 129, 151]) (by decide +kernel))⟩
theorem ok_R_add : okM t_R_add := ⟨by decide +kernel, by decide +kernel, Or.inr (mem_ps (ps := [354, 129, 353, 0]) (by decide +kernel))⟩
theorem ok_R_readInto : okM t_R_readInto := ⟨by decide +kernel, by decide +kernel, Or.inr (mem_ps (ps := [363, 129, 362, 1]) (by decide +kernel))⟩
theorem ok_R_complain : okM t_R_complain := ⟨by decide +kernel, by decide +kernel, Or.inr (mem_ps (ps := [382, 129, 381, 5]) (by decide +kernel))⟩
theorem ok_R_skipBlanks : okM t_R_skipBlanks := ⟨by decide +kernel, by decide +kernel, Or.inr (mem_ps (ps := [374, 129, 373, 3]) (by decide +kernel))⟩
theorem ok_R_atFigure : okM t_R_atFigure := ⟨by decide +kernel, by decide +kernel, Or.inr (mem_ps (ps := [394, 129, 393, 8]) (by decide +kernel))⟩
theorem ok_R_readClause : okM t_R_readClause := ⟨by decide +kernel, by decide +kernel, Or.inr (mem_ps (ps := [378, 129, 377, 4]) (by decide +kernel))⟩
theorem ok_R_readEnd : okM t_R_readEnd := ⟨by decide +kernel, by decide +kernel, Or.inr (mem_ps (ps := [424, 129, 423, 14]) (by decide +kernel))⟩
theorem ok_R_readNumber : okM t_R_readNumber := ⟨by decide +kernel, by decide +kernel, Or.inr (mem_ps (ps := [390, 129, 389, 7]) (by decide +kernel))⟩
theorem ok_R_readSides : okM t_R_readSides := ⟨by decide +kernel, by decide +kernel, Or.inr (mem_ps (ps := [386, 129, 385, 6]) (by decide +kernel))⟩
theorem okg_2 : ∀ t ∈ mt_2, okM t := List.forall_mem_cons.mpr ⟨ok_N_init, List.forall_mem_cons.mpr ⟨ok_N_empty, List.forall_mem_cons.mpr ⟨ok_N_addFound, List.forall_mem_cons.mpr ⟨ok_N_agreesWith, List.forall_mem_cons.mpr ⟨ok_N_addEntry, List.forall_mem_cons.mpr ⟨ok_N_firstOtherThan, List.forall_mem_cons.mpr ⟨ok_R_init, List.forall_mem_cons.mpr ⟨ok_R_add, List.forall_mem_cons.mpr ⟨ok_R_readInto, List.forall_mem_cons.mpr ⟨ok_R_complain, List.forall_mem_cons.mpr ⟨ok_R_skipBlanks, List.forall_mem_cons.mpr ⟨ok_R_atFigure, List.forall_mem_cons.mpr ⟨ok_R_readClause, List.forall_mem_cons.mpr ⟨ok_R_readEnd, List.forall_mem_cons.mpr ⟨ok_R_readNumber, List.forall_mem_cons.mpr ⟨ok_R_readSides, fun t h => by cases h⟩⟩⟩⟩⟩⟩⟩⟩⟩⟩⟩⟩⟩⟩⟩⟩
theorem ok_R_readPerson : okM t_R_readPerson := ⟨by decide +kernel, by decide +kernel, Or.inr (mem_ps (ps := [402, 129, 401, 10]) (by decide +kernel))⟩
theorem ok_R_readWind : okM t_R_readWind := ⟨by decide +kernel, by decide +kernel, Or.inr (mem_ps (ps := [406, 129, 405, 11]) (by decide +kernel))⟩
theorem ok_R_readRock : okM t_R_readRock := ⟨by decide +kernel, by decide +kernel, Or.inr (mem_ps (ps := [410, 129, 409, 12]) (by decide +kernel))⟩
theorem ok_R_addRock : okM t_R_addRock := ⟨by decide +kernel, by decide +kernel, Or.inr (mem_ps (ps := [420, 129, 419, 13]) (by decide +kernel))⟩
theorem ok_S_init : okM t_S_init := ⟨by decide +kernel, by decide +kernel, Or.inr (mem_ps (ps := [266, 133, 265]) (by decide +kernel))⟩
theorem ok_S_put : okM t_S_put := ⟨by decide +kernel, by decide +kernel, Or.inr (mem_ps (ps := [625, 133, 624, 52]) (by decide +kernel))⟩
theorem ok_S_take : okM t_S_take := ⟨by decide +kernel, by decide +kernel, Or.inr (mem_ps (ps := [724, 133, 723, 66]) (by decide +kernel))⟩
theorem ok_C_init : okM t_C_init := ⟨by decide +kernel, by decide +kernel, Or.inr (mem_ps (ps := [144, 128, 143]) (by decide +kernel))⟩
theorem ok_C_feed : okM t_C_feed := ⟨by decide +kernel, by decide +kernel, Or.inr (mem_ps (ps := [349, 128, 347, 348]) (by decide +kernel))⟩
theorem ok_C_north : okM t_C_north := ⟨by decide +kernel, by decide +kernel, Or.inr (mem_ps (ps := [359, 128, 357, 358]) (by decide +kernel))⟩
theorem ok_C_fault : okM t_C_fault := ⟨by decide +kernel, by decide +kernel, Or.inr (mem_ps (ps := [459, 128, 457, 458]) (by decide +kernel))⟩
theorem ok_C_told : okM t_C_told := ⟨by decide +kernel, by decide +kernel, Or.inr (mem_ps (ps := [463, 128, 461, 462]) (by decide +kernel))⟩
theorem ok_C_cell : okM t_C_cell := ⟨by decide +kernel, by decide +kernel, Or.inr (mem_ps (ps := [571, 128, 569, 570]) (by decide +kernel))⟩
theorem ok_C_person : okM t_C_person := ⟨by decide +kernel, by decide +kernel, Or.inr (mem_ps (ps := [591, 128, 589, 590]) (by decide +kernel))⟩
theorem ok_C_lie : okM t_C_lie := ⟨by decide +kernel, by decide +kernel, Or.inr (mem_ps (ps := [607, 128, 605, 606]) (by decide +kernel))⟩
theorem ok_C_rise : okM t_C_rise := ⟨by decide +kernel, by decide +kernel, Or.inr (mem_ps (ps := [638, 128, 636, 637]) (by decide +kernel))⟩
theorem okg_3 : ∀ t ∈ mt_3, okM t := List.forall_mem_cons.mpr ⟨ok_R_readPerson, List.forall_mem_cons.mpr ⟨ok_R_readWind, List.forall_mem_cons.mpr ⟨ok_R_readRock, List.forall_mem_cons.mpr ⟨ok_R_addRock, List.forall_mem_cons.mpr ⟨ok_S_init, List.forall_mem_cons.mpr ⟨ok_S_put, List.forall_mem_cons.mpr ⟨ok_S_take, List.forall_mem_cons.mpr ⟨ok_C_init, List.forall_mem_cons.mpr ⟨ok_C_feed, List.forall_mem_cons.mpr ⟨ok_C_north, List.forall_mem_cons.mpr ⟨ok_C_fault, List.forall_mem_cons.mpr ⟨ok_C_told, List.forall_mem_cons.mpr ⟨ok_C_cell, List.forall_mem_cons.mpr ⟨ok_C_person, List.forall_mem_cons.mpr ⟨ok_C_lie, List.forall_mem_cons.mpr ⟨ok_C_rise, fun t h => by cases h⟩⟩⟩⟩⟩⟩⟩⟩⟩⟩⟩⟩⟩⟩⟩⟩
theorem ok_C_night : okM t_C_night := ⟨by decide +kernel, by decide +kernel, Or.inr (mem_ps (ps := [642, 128, 640, 641]) (by decide +kernel))⟩
theorem ok_C_thaw : okM t_C_thaw := ⟨by decide +kernel, by decide +kernel, Or.inr (mem_ps (ps := [655, 128, 653, 654]) (by decide +kernel))⟩
theorem ok_C_snow : okM t_C_snow := ⟨by decide +kernel, by decide +kernel, Or.inr (mem_ps (ps := [663, 128, 661, 662]) (by decide +kernel))⟩
theorem ok_C_hare : okM t_C_hare := ⟨by decide +kernel, by decide +kernel, Or.inr (mem_ps (ps := [671, 128, 669, 670]) (by decide +kernel))⟩
theorem ok_C_pin : okM t_C_pin := ⟨by decide +kernel, by decide +kernel, Or.inr (mem_ps (ps := [680, 128, 678, 679]) (by decide +kernel))⟩
theorem ok_C_wind : okM t_C_wind := ⟨by decide +kernel, by decide +kernel, Or.inr (mem_ps (ps := [693, 128, 691, 692]) (by decide +kernel))⟩
theorem ok_C_drift : okM t_C_drift := ⟨by decide +kernel, by decide +kernel, Or.inr (mem_ps (ps := [697, 128, 695, 696]) (by decide +kernel))⟩
theorem ok_C_undo : okM t_C_undo := ⟨by decide +kernel, by decide +kernel, Or.inr (mem_ps (ps := [720, 128, 718, 719]) (by decide +kernel))⟩
theorem ok_C_left : okM t_C_left := ⟨by decide +kernel, by decide +kernel, Or.inr (mem_ps (ps := [728, 128, 726, 727]) (by decide +kernel))⟩
theorem ok_C_willCount : okM t_C_willCount := ⟨by decide +kernel, by decide +kernel, Or.inr (mem_ps (ps := [740, 128, 738, 739]) (by decide +kernel))⟩
theorem ok_C_wrongFirst : okM t_C_wrongFirst := ⟨by decide +kernel, by decide +kernel, Or.inr (mem_ps (ps := [744, 128, 742, 743]) (by decide +kernel))⟩
theorem ok_C_canLie : okM t_C_canLie := ⟨by decide +kernel, by decide +kernel, Or.inr (mem_ps (ps := [748, 128, 746, 747]) (by decide +kernel))⟩
theorem ok_C_round : okM t_C_round := ⟨by decide +kernel, by decide +kernel, Or.inr (mem_ps (ps := [757, 128, 755, 756]) (by decide +kernel))⟩
theorem ok_C_touch : okM t_C_touch := ⟨by decide +kernel, by decide +kernel, Or.inr (mem_ps (ps := [782, 128, 780, 781]) (by decide +kernel))⟩
theorem ok_C_still : okM t_C_still := ⟨by decide +kernel, by decide +kernel, Or.inr (mem_ps (ps := [787, 128, 785, 786]) (by decide +kernel))⟩
theorem ok_C_find : okM t_C_find := ⟨by decide +kernel, by decide +kernel, Or.inr (mem_ps (ps := [793, 128, 791, 792]) (by decide +kernel))⟩
theorem okg_4 : ∀ t ∈ mt_4, okM t := List.forall_mem_cons.mpr ⟨ok_C_night, List.forall_mem_cons.mpr ⟨ok_C_thaw, List.forall_mem_cons.mpr ⟨ok_C_snow, List.forall_mem_cons.mpr ⟨ok_C_hare, List.forall_mem_cons.mpr ⟨ok_C_pin, List.forall_mem_cons.mpr ⟨ok_C_wind, List.forall_mem_cons.mpr ⟨ok_C_drift, List.forall_mem_cons.mpr ⟨ok_C_undo, List.forall_mem_cons.mpr ⟨ok_C_left, List.forall_mem_cons.mpr ⟨ok_C_willCount, List.forall_mem_cons.mpr ⟨ok_C_wrongFirst, List.forall_mem_cons.mpr ⟨ok_C_canLie, List.forall_mem_cons.mpr ⟨ok_C_round, List.forall_mem_cons.mpr ⟨ok_C_touch, List.forall_mem_cons.mpr ⟨ok_C_still, List.forall_mem_cons.mpr ⟨ok_C_find, fun t h => by cases h⟩⟩⟩⟩⟩⟩⟩⟩⟩⟩⟩⟩⟩⟩⟩⟩
theorem ok_C_fits : okM t_C_fits := ⟨by decide +kernel, by decide +kernel, Or.inr (mem_ps (ps := [802, 128, 800, 801]) (by decide +kernel))⟩
theorem ok_C_look : okM t_C_look := ⟨by decide +kernel, by decide +kernel, Or.inr (mem_ps (ps := [831, 128, 829, 830]) (by decide +kernel))⟩
theorem ok_C_write : okM t_C_write := ⟨by decide +kernel, by decide +kernel, Or.inr (mem_ps (ps := [845, 128, 843, 844]) (by decide +kernel))⟩
theorem ok_C_judge : okM t_C_judge := ⟨by decide +kernel, by decide +kernel, Or.inr (mem_ps (ps := [853, 128, 851, 852]) (by decide +kernel))⟩
theorem ok_C_tear : okM t_C_tear := ⟨by decide +kernel, by decide +kernel, Or.inr (mem_ps (ps := [861, 128, 859, 860]) (by decide +kernel))⟩
theorem ok_C_seed : okM t_C_seed := ⟨by decide +kernel, by decide +kernel, Or.inr (mem_ps (ps := [865, 128, 863, 864]) (by decide +kernel))⟩
theorem ok_C_keep : okM t_C_keep := ⟨by decide +kernel, by decide +kernel, Or.inr (mem_ps (ps := [869, 128, 867, 868]) (by decide +kernel))⟩
theorem ok_C_goBack : okM t_C_goBack := ⟨by decide +kernel, by decide +kernel, Or.inr (mem_ps (ps := [877, 128, 875, 876]) (by decide +kernel))⟩
theorem ok_C_has : okM t_C_has := ⟨by decide +kernel, by decide +kernel, Or.inr (mem_ps (ps := [566, 128, 565]) (by decide +kernel))⟩
theorem ok_C_leastOf : okM t_C_leastOf := ⟨by decide +kernel, by decide +kernel, Or.inr (mem_ps (ps := [516, 128, 515]) (by decide +kernel))⟩
theorem ok_C_hasNorth : okM t_C_hasNorth := ⟨by decide +kernel, by decide +kernel, Or.inr (mem_ps (ps := [650, 128, 649, 56]) (by decide +kernel))⟩
theorem ok_C_isCell : okM t_C_isCell := ⟨by decide +kernel, by decide +kernel, Or.inr (mem_ps (ps := [575, 128, 574, 43]) (by decide +kernel))⟩
theorem ok_C_isPerson : okM t_C_isPerson := ⟨by decide +kernel, by decide +kernel, Or.inr (mem_ps (ps := [595, 128, 594, 46]) (by decide +kernel))⟩
theorem ok_C_isImage : okM t_C_isImage := ⟨by decide +kernel, by decide +kernel, Or.inr (mem_ps (ps := [873, 128, 872, 82]) (by decide +kernel))⟩
theorem ok_C_everybody : okM t_C_everybody := ⟨by decide +kernel, by decide +kernel, Or.inr (mem_ps (ps := [761, 128, 760, 70]) (by decide +kernel))⟩
theorem ok_C_whoLies : okM t_C_whoLies := ⟨by decide +kernel, by decide +kernel, Or.inr (mem_ps (ps := [468, 128, 467, 22]) (by decide +kernel))⟩
theorem okg_5 : ∀ t ∈ mt_5, okM t := List.forall_mem_cons.mpr ⟨ok_C_fits, List.forall_mem_cons.mpr ⟨ok_C_look, List.forall_mem_cons.mpr ⟨ok_C_write, List.forall_mem_cons.mpr ⟨ok_C_judge, List.forall_mem_cons.mpr ⟨ok_C_tear, List.forall_mem_cons.mpr ⟨ok_C_seed, List.forall_mem_cons.mpr ⟨ok_C_keep, List.forall_mem_cons.mpr ⟨ok_C_goBack, List.forall_mem_cons.mpr ⟨ok_C_has, List.forall_mem_cons.mpr ⟨ok_C_leastOf, List.forall_mem_cons.mpr ⟨ok_C_hasNorth, List.forall_mem_cons.mpr ⟨ok_C_isCell, List.forall_mem_cons.mpr ⟨ok_C_isPerson, List.forall_mem_cons.mpr ⟨ok_C_isImage, List.forall_mem_cons.mpr ⟨ok_C_everybody, List.forall_mem_cons.mpr ⟨ok_C_whoLies, fun t h => by cases h⟩⟩⟩⟩⟩⟩⟩⟩⟩⟩⟩⟩⟩⟩⟩⟩
theorem ok_C_whoIsAt : okM t_C_whoIsAt := ⟨by decide +kernel, by decide +kernel, Or.inr (mem_ps (ps := [587, 128, 586, 45]) (by decide +kernel))⟩
theorem ok_C_shapeLeftBy : okM t_C_shapeLeftBy := ⟨by decide +kernel, by decide +kernel, Or.inr (mem_ps (ps := [599, 128, 598, 47]) (by decide +kernel))⟩
theorem ok_C_countNow : okM t_C_countNow := ⟨by decide +kernel, by decide +kernel, Or.inr (mem_ps (ps := [472, 128, 471, 23]) (by decide +kernel))⟩
theorem ok_C_truth : okM t_C_truth := ⟨by decide +kernel, by decide +kernel, Or.inr (mem_ps (ps := [505, 128, 504, 31]) (by decide +kernel))⟩
theorem ok_C_farOut : okM t_C_farOut := ⟨by decide +kernel, by decide +kernel, Or.inr (mem_ps (ps := [528, 128, 527, 36]) (by decide +kernel))⟩
theorem ok_C_stepsToNearest : okM t_C_stepsToNearest := ⟨by decide +kernel, by decide +kernel, Or.inr (mem_ps (ps := [532, 128, 531, 37]) (by decide +kernel))⟩
theorem ok_C_refusalOfNights : okM t_C_refusalOfNights := ⟨by decide +kernel, by decide +kernel, Or.inr (mem_ps (ps := [646, 128, 645, 55]) (by decide +kernel))⟩
theorem ok_C_layDown : okM t_C_layDown := ⟨by decide +kernel, by decide +kernel, Or.inr (mem_ps (ps := [630, 128, 629, 53]) (by decide +kernel))⟩
theorem ok_C_remember : okM t_C_remember := ⟨by decide +kernel, by decide +kernel, Or.inr (mem_ps (ps := [617, 128, 616, 50]) (by decide +kernel))⟩
theorem ok_C_placeOfDeed : okM t_C_placeOfDeed := ⟨by decide +kernel, by decide +kernel, Or.inr (mem_ps (ps := [621, 128, 620, 51]) (by decide +kernel))⟩
theorem ok_C_forgetDeeds : okM t_C_forgetDeeds := ⟨by decide +kernel, by decide +kernel, Or.inr (mem_ps (ps := [455, 128, 454, 21]) (by decide +kernel))⟩
theorem ok_C_draw : okM t_C_draw := ⟨by decide +kernel, by decide +kernel, Or.inr (mem_ps (ps := [705, 128, 704, 63]) (by decide +kernel))⟩
theorem ok_C_happenByDraw : okM t_C_happenByDraw := ⟨by decide +kernel, by decide +kernel, Or.inr (mem_ps (ps := [701, 128, 700, 62]) (by decide +kernel))⟩
theorem ok_C_lieByDraw : okM t_C_lieByDraw := ⟨by decide +kernel, by decide +kernel, Or.inr (mem_ps (ps := [712, 128, 711, 64]) (by decide +kernel))⟩
theorem ok_C_hareByDraw : okM t_C_hareByDraw := ⟨by decide +kernel, by decide +kernel, Or.inr (mem_ps (ps := [716, 128, 715, 65]) (by decide +kernel))⟩
theorem ok_C_canTry : okM t_C_canTry := ⟨by decide +kernel, by decide +kernel, Or.inr (mem_ps (ps := [732, 128, 731, 67]) (by decide +kernel))⟩
theorem okg_6 : ∀ t ∈ mt_6, okM t := List.forall_mem_cons.mpr ⟨ok_C_whoIsAt, List.forall_mem_cons.mpr ⟨ok_C_shapeLeftBy, List.forall_mem_cons.mpr ⟨ok_C_countNow, List.forall_mem_cons.mpr ⟨ok_C_truth, List.forall_mem_cons.mpr ⟨ok_C_farOut, List.forall_mem_cons.mpr ⟨ok_C_stepsToNearest, List.forall_mem_cons.mpr ⟨ok_C_refusalOfNights, List.forall_mem_cons.mpr ⟨ok_C_layDown, List.forall_mem_cons.mpr ⟨ok_C_remember, List.forall_mem_cons.mpr ⟨ok_C_placeOfDeed, List.forall_mem_cons.mpr ⟨ok_C_forgetDeeds, List.forall_mem_cons.mpr ⟨ok_C_draw, List.forall_mem_cons.mpr ⟨ok_C_happenByDraw, List.forall_mem_cons.mpr ⟨ok_C_lieByDraw, List.forall_mem_cons.mpr ⟨ok_C_hareByDraw, List.forall_mem_cons.mpr ⟨ok_C_canTry, fun t h => by cases h⟩⟩⟩⟩⟩⟩⟩⟩⟩⟩⟩⟩⟩⟩⟩⟩
