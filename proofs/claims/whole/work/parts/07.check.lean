/-! each method's table is its bytecode, with links that the tables have -/
def ilen (ins : Instr) : Nat := match ins with
  | .bipush _ => 2
  | .ldc _ => 2
  | .iload _ => 2
  | .lload _ => 2
  | .aload _ => 2
  | .istore _ => 2
  | .lstore _ => 2
  | .astore _ => 2
  | .newarray _ => 2
  | .sipush _ => 3
  | .ldc_w _ => 3
  | .ldc2_w _ => 3
  | .getfield _ => 3
  | .putfield _ => 3
  | .getstatic _ => 3
  | .invokevirtual _ => 3
  | .invokestatic _ => 3
  | .invokespecial _ => 3
  | .new _ => 3
  | .goto _ => 3
  | .ifCond _ _ => 3
  | .if_icmp _ _ => 3
  | .iinc _ _ => 3
  | _ => 1
def isSw (ins : Instr) : Bool := match ins with
  | .tableswitch _ _ _ _ => true
  | .lookupswitch _ _ => true
  | _ => false
def kOk (i : Nat) (v : Value) (l : List (Nat × Int32)) : Bool := match v with
  | .int x => decide ((i, x) ∈ l)
  | _ => false
def kOkL (i : Nat) (v : Value) (l : List (Nat × Int64)) : Bool := match v with
  | .long x => decide ((i, x) ∈ l)
  | _ => false
def cOk (o i a b kind : Nat) (v : Value) : Bool := match mt a with
  | some (_, _, ml, _, o', k', np, _) => Nat.beq k' kind && (Nat.beq b (bif Nat.beq kind 0 then np else np + 1) && ((decide ((i, a, 0) ∈ XT o) || decide ((i, a, 1) ∈ XT o)) && (match v with
    | .retAddr z => Nat.beq (z / 100) ml && (bif Nat.beq kind 1 then Nat.beq (z % 100) o' && Nat.blt o' 7 else true)
    | _ => false)))
  | none => false
def lnk (o maxL : Nat) (rt : Option FieldType) (ini : Bool) (pc : Nat) (ins : Instr) (a b : Nat) (v : Value) : Bool := match ins with
  | .iconst n => decide (v = .int (Int32.ofInt n))
  | .bipush n => decide (v = .int (Int8.ofInt n).toInt32)
  | .sipush n => decide (v = .int (Int16.ofInt n).toInt32)
  | .lconst n => decide (v = .long (Int64.ofNat (n : Nat)))
  | .ldc i => kOk i v (KI o)
  | .ldc_w i => kOk i v (KI o)
  | .ldc2_w i => kOkL i v (KL o)
  | .getstatic i => decide (v = .ref 1001) && (Nat.beq i 75 && Nat.beq o 1)
  | .iload i => Nat.beq a i
  | .iload_n i => Nat.beq a i
  | .lload i => Nat.beq a i
  | .lload_n i => Nat.beq a i
  | .aload i => Nat.beq a i
  | .aload_n i => Nat.beq a i
  | .istore i => Nat.beq a i && Nat.blt i maxL
  | .istore_n i => Nat.beq a i && Nat.blt i maxL
  | .lstore i => Nat.beq a i && Nat.blt (i + 1) maxL
  | .lstore_n i => Nat.beq a i && Nat.blt (i + 1) maxL
  | .astore i => Nat.beq a i && Nat.blt i maxL
  | .astore_n i => Nat.beq a i && Nat.blt i maxL
  | .iinc i n => Nat.beq a i && (Nat.blt i maxL && decide (v = .int (Int32.ofInt n)))
  | .goto off => decide ((pc : Int) + off = (a : Int))
  | .ifCond _ off => decide ((pc : Int) + off = (a : Int))
  | .if_icmp _ off => decide ((pc : Int) + off = (a : Int))
  | .tableswitch d _ _ offs => decide (0 ≤ (pc : Int) + d) && offs.toList.all (fun off => decide (0 ≤ (pc : Int) + off))
  | .lookupswitch d ps => (ps.toList.zip (ps.toList.drop 1)).all (fun (a, next) => a.1 < next.1) && (decide (0 ≤ (pc : Int) + d) && ps.toList.all (fun q => decide (0 ≤ (pc : Int) + q.2)))
  | .getfield i => decide ((i, a, b, 0) ∈ FT o) || decide ((i, a, b, 1) ∈ FT o)
  | .putfield i => bif (clT a b).2.2.2 then decide ((i, a, b, 0) ∈ FT o) && (ini && Nat.beq a o) else (decide ((i, a, b, 0) ∈ FT o) || decide ((i, a, b, 1) ∈ FT o))
  | .newarray t => (match t with
    | .int => Nat.beq a 0
    | .long => Nat.beq a 1
    | .boolean => Nat.beq a 2
    | _ => false)
  | .new i => decide ((i, a) ∈ CT o)
  | .invokevirtual i => cOk o i a b 1 v
  | .invokestatic i => bif Nat.ble 990 a then decide ((i, a) ∈ AC o) else cOk o i a b 0 v
  | .invokespecial i => bif Nat.beq a 999 then decide (i ∈ OB o) else cOk o i a b 2 v
  | .ireturn => decide (rt = some .int ∧ b = 0 ∨ rt = some .boolean ∧ b = 1)
  | .lreturn => decide (rt = some .long)
  | .return_ => decide (rt = none)
  | _ => true
def chkE (o maxL : Nat) (rt : Option FieldType) (ini : Bool) (cc : ByteArray) (q : Nat × Ent) : Bool := match q with
  | (pc, ins, nx, a, b, v) => decide (decode cc pc = .ok (ins, nx - pc)) && ((isSw ins || Nat.beq nx (pc + ilen ins)) && lnk o maxL rt ini pc ins a b v)
def chkH (t : Meta) : Bool := match t with
  | (y, _, ml, _, o, kind, np, _) => plainName y.cls && (decide (y.cls = own o) && (Nat.ble ml 20 && (decide (y.cls ≠ "java/lang/invoke/MethodHandle" ∧ y.cls ≠ "java/lang/invoke/VarHandle") && (decide ((parseMethodDescriptor y.desc).map (fun d => d.parameters.length) = some np) && (Nat.ble kind 2 && (!(Nat.beq kind 2) || decide (y.name = "<init>")))))))
/-- the words on a method as it is called -/
def mW (t : Meta) : List Cond := match t with
  | (y, cc, ml, rt, _, kind, _, _) => .code y cc ml rt :: .initialized y.cls :: (bif Nat.beq kind 0 then [.static y] else bif Nat.beq kind 1 then [.instanceMethod y, .selects y.cls y y] else [.instanceMethod y])
def chkB (t : Meta) : Bool := match t with
  | (y, cc, ml, rt, o, _, _, k) => k.all (chkE o ml rt (decide (y.name = "<init>")) cc)
def okM (t : Meta) : Prop := chkH t = true ∧ chkB t = true ∧ (t.2.2.2.2.1 = 7 ∨ ∀ w ∈ mW t, w ∈ lw_tbl)
theorem mem_ps {l : List Cond} {ps : List Nat} (h : l = ps.filterMap (fun i => lw_tbl[i]?)) : ∀ w ∈ l, w ∈ lw_tbl := by
  intro q hq
  rw [h] at hq
  obtain ⟨i, -, hi⟩ := List.mem_filterMap.mp hq
  exact List.mem_of_getElem? hi
theorem ok_F_init : okM t_F_init := ⟨by decide +kernel, by decide +kernel, Or.inr (mem_ps (ps := [237, 132, 236]) (by decide +kernel))⟩
theorem ok_F_begin : okM t_F_begin := ⟨by decide +kernel, by decide +kernel, Or.inr (mem_ps (ps := [448, 132, 447, 19]) (by decide +kernel))⟩
theorem ok_F_become : okM t_F_become := ⟨by decide +kernel, by decide +kernel, Or.inr (mem_ps (ps := [551, 132, 550, 40]) (by decide +kernel))⟩
theorem ok_F_dented : okM t_F_dented := ⟨by decide +kernel, by decide +kernel, Or.inr (mem_ps (ps := [558, 132, 557, 41]) (by decide +kernel))⟩
theorem ok_F_seen : okM t_F_seen := ⟨by decide +kernel, by decide +kernel, Or.inr (mem_ps (ps := [477, 132, 476, 24]) (by decide +kernel))⟩
theorem ok_F_dentedFrom : okM t_F_dentedFrom := ⟨by decide +kernel, by decide +kernel, Or.inr (mem_ps (ps := [481, 132, 480, 25]) (by decide +kernel))⟩
theorem ok_F_press : okM t_F_press := ⟨by decide +kernel, by decide +kernel, Or.inr (mem_ps (ps := [635, 132, 634, 54]) (by decide +kernel))⟩
theorem ok_F_passNight : okM t_F_passNight := ⟨by decide +kernel, by decide +kernel, Or.inr (mem_ps (ps := [562, 132, 561, 42]) (by decide +kernel))⟩
theorem ok_F_melt : okM t_F_melt := ⟨by decide +kernel, by decide +kernel, Or.inr (mem_ps (ps := [660, 132, 659, 57]) (by decide +kernel))⟩
theorem ok_F_snowOver : okM t_F_snowOver := ⟨by decide +kernel, by decide +kernel, Or.inr (mem_ps (ps := [668, 132, 667, 58]) (by decide +kernel))⟩
theorem ok_F_cross : okM t_F_cross := ⟨by decide +kernel, by decide +kernel, Or.inr (mem_ps (ps := [676, 132, 675, 59]) (by decide +kernel))⟩
theorem ok_F_roll : okM t_F_roll := ⟨by decide +kernel, by decide +kernel, Or.inr (mem_ps (ps := [690, 132, 689, 61]) (by decide +kernel))⟩
theorem ok_L_init : okM t_L_init := ⟨by decide +kernel, by decide +kernel, Or.inr (mem_ps (ps := [185, 131, 184]) (by decide +kernel))⟩
theorem ok_L_clear : okM t_L_clear := ⟨by decide +kernel, by decide +kernel, Or.inr (mem_ps (ps := [368, 131, 367, 2]) (by decide +kernel))⟩
theorem ok_L_measure : okM t_L_measure := ⟨by decide +kernel, by decide +kernel, Or.inr (mem_ps (ps := [399, 131, 398, 9]) (by decide +kernel))⟩
theorem ok_L_cells : okM t_L_cells := ⟨by decide +kernel, by decide +kernel, Or.inr (mem_ps (ps := [433, 131, 432, 16]) (by decide +kernel))⟩
theorem okg_0 : ∀ t ∈ mt_0, okM t := List.forall_mem_cons.mpr ⟨ok_F_init, List.forall_mem_cons.mpr ⟨ok_F_begin, List.forall_mem_cons.mpr ⟨ok_F_become, List.forall_mem_cons.mpr ⟨ok_F_dented, List.forall_mem_cons.mpr ⟨ok_F_seen, List.forall_mem_cons.mpr ⟨ok_F_dentedFrom, List.forall_mem_cons.mpr ⟨ok_F_press, List.forall_mem_cons.mpr ⟨ok_F_passNight, List.forall_mem_cons.mpr ⟨ok_F_melt, List.forall_mem_cons.mpr ⟨ok_F_snowOver, List.forall_mem_cons.mpr ⟨ok_F_cross, List.forall_mem_cons.mpr ⟨ok_F_roll, List.forall_mem_cons.mpr ⟨ok_L_init, List.forall_mem_cons.mpr ⟨ok_L_clear, List.forall_mem_cons.mpr ⟨ok_L_measure, List.forall_mem_cons.mpr ⟨ok_L_cells, fun t h => by cases h⟩⟩⟩⟩⟩⟩⟩⟩⟩⟩⟩⟩⟩⟩⟩⟩
theorem ok_L_isRock : okM t_L_isRock := ⟨by decide +kernel, by decide +kernel, Or.inr (mem_ps (ps := [582, 131, 581, 44]) (by decide +kernel))⟩
theorem ok_L_row : okM t_L_row := ⟨by decide +kernel, by decide +kernel, Or.inr (mem_ps (ps := [685, 131, 684, 60]) (by decide +kernel))⟩
theorem ok_L_moved : okM t_L_moved := ⟨by decide +kernel, by decide +kernel, Or.inr (mem_ps (ps := [443, 131, 442, 18]) (by decide +kernel))⟩
theorem ok_L_grown : okM t_L_grown := ⟨by decide +kernel, by decide +kernel, Or.inr (mem_ps (ps := [497, 131, 496, 29]) (by decide +kernel))⟩
theorem ok_L_steps : okM t_L_steps := ⟨by decide +kernel, by decide +kernel, Or.inr (mem_ps (ps := [537, 131, 536, 38]) (by decide +kernel))⟩
theorem ok_L_shape : okM t_L_shape := ⟨by decide +kernel, by decide +kernel, Or.inr (mem_ps (ps := [604, 131, 603, 48]) (by decide +kernel))⟩
theorem ok_L_drawShapes : okM t_L_drawShapes := ⟨by decide +kernel, by decide +kernel, Or.inr (mem_ps (ps := [429, 131, 428, 15]) (by decide +kernel))⟩
theorem ok_L_drawnShape : okM t_L_drawnShape := ⟨by decide +kernel, by decide +kernel, Or.inr (mem_ps (ps := [437, 131, 436, 17]) (by decide +kernel))⟩
theorem ok_L_groupOf : okM t_L_groupOf := ⟨by decide +kernel, by decide +kernel, Or.inr (mem_ps (ps := [493, 131, 492, 28]) (by decide +kernel))⟩
theorem ok_L_firstGroup : okM t_L_firstGroup := ⟨by decide +kernel, by decide +kernel, Or.inr (mem_ps (ps := [489, 131, 488, 27]) (by decide +kernel))⟩
theorem ok_L_groupsIn : okM t_L_groupsIn := ⟨by decide +kernel, by decide +kernel, Or.inr (mem_ps (ps := [510, 131, 509, 32]) (by decide +kernel))⟩
theorem ok_L_countOf : okM t_L_countOf := ⟨by decide +kernel, by decide +kernel, Or.inr (mem_ps (ps := [485, 131, 484, 26]) (by decide +kernel))⟩
theorem ok_L_countedAs : okM t_L_countedAs := ⟨by decide +kernel, by decide +kernel, Or.inr (mem_ps (ps := [502, 131, 501, 30]) (by decide +kernel))⟩
theorem ok_L_greatestIn : okM t_L_greatestIn := ⟨by decide +kernel, by decide +kernel, Or.inr (mem_ps (ps := [514, 131, 513, 33]) (by decide +kernel))⟩
theorem ok_L_forgedIn : okM t_L_forgedIn := ⟨by decide +kernel, by decide +kernel, Or.inr (mem_ps (ps := [521, 131, 520, 34]) (by decide +kernel))⟩
theorem ok_L_isShape : okM t_L_isShape := ⟨by decide +kernel, by decide +kernel, Or.inr (mem_ps (ps := [525, 131, 524, 35]) (by decide +kernel))⟩
theorem okg_1 : ∀ t ∈ mt_1, okM t := List.forall_mem_cons.mpr ⟨ok_L_isRock, List.forall_mem_cons.mpr ⟨ok_L_row, List.forall_mem_cons.mpr ⟨ok_L_moved, List.forall_mem_cons.mpr ⟨ok_L_grown, List.forall_mem_cons.mpr ⟨ok_L_steps, List.forall_mem_cons.mpr ⟨ok_L_shape, List.forall_mem_cons.mpr ⟨ok_L_drawShapes, List.forall_mem_cons.mpr ⟨ok_L_drawnShape, List.forall_mem_cons.mpr ⟨ok_L_groupOf, List.forall_mem_cons.mpr ⟨ok_L_firstGroup, List.forall_mem_cons.mpr ⟨ok_L_groupsIn, List.forall_mem_cons.mpr ⟨ok_L_countOf, List.forall_mem_cons.mpr ⟨ok_L_countedAs, List.forall_mem_cons.mpr ⟨ok_L_greatestIn, List.forall_mem_cons.mpr ⟨ok_L_forgedIn, List.forall_mem_cons.mpr ⟨ok_L_isShape, fun t h => by cases h⟩⟩⟩⟩⟩⟩⟩⟩⟩⟩⟩⟩⟩⟩⟩⟩
theorem ok_N_init : okM t_N_init := ⟨by decide +kernel, by decide +kernel, Or.inr (mem_ps (ps := [283, 136, 282]) (by decide +kernel))⟩
theorem ok_N_empty : okM t_N_empty := ⟨by decide +kernel, by decide +kernel, Or.inr (mem_ps (ps := [452, 136, 451, 20]) (by decide +kernel))⟩
theorem ok_N_addFound : okM t_N_addFound := ⟨by decide +kernel, by decide +kernel, Or.inr (mem_ps (ps := [799, 136, 798, 72]) (by decide +kernel))⟩
theorem ok_N_agreesWith : okM t_N_agreesWith := ⟨by decide +kernel, by decide +kernel, Or.inr (mem_ps (ps := [820, 136, 819, 76]) (by decide +kernel))⟩
theorem ok_N_addEntry : okM t_N_addEntry := ⟨by decide +kernel, by decide +kernel, Or.inr (mem_ps (ps := [851, 136, 850, 81]) (by decide +kernel))⟩
theorem ok_N_firstOtherThan : okM t_N_firstOtherThan := ⟨by decide +kernel, by decide +kernel, Or.inr (mem_ps (ps := [859, 136, 858, 82]) (by decide +kernel))⟩
theorem ok_R_init : okM t_R_init := ⟨by decide +kernel, by decide +kernel, Or.inr (mem_ps (ps := [153, 130, 152]) (by decide +kernel))⟩
theorem ok_R_add : okM t_R_add := ⟨by decide +kernel, by decide +kernel, Or.inr (mem_ps (ps := [355, 130, 354, 0]) (by decide +kernel))⟩
theorem ok_R_readInto : okM t_R_readInto := ⟨by decide +kernel, by decide +kernel, Or.inr (mem_ps (ps := [364, 130, 363, 1]) (by decide +kernel))⟩
theorem ok_R_complain : okM t_R_complain := ⟨by decide +kernel, by decide +kernel, Or.inr (mem_ps (ps := [383, 130, 382, 5]) (by decide +kernel))⟩
theorem ok_R_skipBlanks : okM t_R_skipBlanks := ⟨by decide +kernel, by decide +kernel, Or.inr (mem_ps (ps := [375, 130, 374, 3]) (by decide +kernel))⟩
theorem ok_R_atFigure : okM t_R_atFigure := ⟨by decide +kernel, by decide +kernel, Or.inr (mem_ps (ps := [395, 130, 394, 8]) (by decide +kernel))⟩
theorem ok_R_readClause : okM t_R_readClause := ⟨by decide +kernel, by decide +kernel, Or.inr (mem_ps (ps := [379, 130, 378, 4]) (by decide +kernel))⟩
theorem ok_R_readEnd : okM t_R_readEnd := ⟨by decide +kernel, by decide +kernel, Or.inr (mem_ps (ps := [425, 130, 424, 14]) (by decide +kernel))⟩
theorem ok_R_readNumber : okM t_R_readNumber := ⟨by decide +kernel, by decide +kernel, Or.inr (mem_ps (ps := [391, 130, 390, 7]) (by decide +kernel))⟩
theorem ok_R_readSides : okM t_R_readSides := ⟨by decide +kernel, by decide +kernel, Or.inr (mem_ps (ps := [387, 130, 386, 6]) (by decide +kernel))⟩
theorem okg_2 : ∀ t ∈ mt_2, okM t := List.forall_mem_cons.mpr ⟨ok_N_init, List.forall_mem_cons.mpr ⟨ok_N_empty, List.forall_mem_cons.mpr ⟨ok_N_addFound, List.forall_mem_cons.mpr ⟨ok_N_agreesWith, List.forall_mem_cons.mpr ⟨ok_N_addEntry, List.forall_mem_cons.mpr ⟨ok_N_firstOtherThan, List.forall_mem_cons.mpr ⟨ok_R_init, List.forall_mem_cons.mpr ⟨ok_R_add, List.forall_mem_cons.mpr ⟨ok_R_readInto, List.forall_mem_cons.mpr ⟨ok_R_complain, List.forall_mem_cons.mpr ⟨ok_R_skipBlanks, List.forall_mem_cons.mpr ⟨ok_R_atFigure, List.forall_mem_cons.mpr ⟨ok_R_readClause, List.forall_mem_cons.mpr ⟨ok_R_readEnd, List.forall_mem_cons.mpr ⟨ok_R_readNumber, List.forall_mem_cons.mpr ⟨ok_R_readSides, fun t h => by cases h⟩⟩⟩⟩⟩⟩⟩⟩⟩⟩⟩⟩⟩⟩⟩⟩
theorem ok_R_readPerson : okM t_R_readPerson := ⟨by decide +kernel, by decide +kernel, Or.inr (mem_ps (ps := [403, 130, 402, 10]) (by decide +kernel))⟩
theorem ok_R_readWind : okM t_R_readWind := ⟨by decide +kernel, by decide +kernel, Or.inr (mem_ps (ps := [407, 130, 406, 11]) (by decide +kernel))⟩
theorem ok_R_readRock : okM t_R_readRock := ⟨by decide +kernel, by decide +kernel, Or.inr (mem_ps (ps := [411, 130, 410, 12]) (by decide +kernel))⟩
theorem ok_R_addRock : okM t_R_addRock := ⟨by decide +kernel, by decide +kernel, Or.inr (mem_ps (ps := [421, 130, 420, 13]) (by decide +kernel))⟩
theorem ok_S_init : okM t_S_init := ⟨by decide +kernel, by decide +kernel, Or.inr (mem_ps (ps := [267, 134, 266]) (by decide +kernel))⟩
theorem ok_S_put : okM t_S_put := ⟨by decide +kernel, by decide +kernel, Or.inr (mem_ps (ps := [626, 134, 625, 52]) (by decide +kernel))⟩
theorem ok_S_take : okM t_S_take := ⟨by decide +kernel, by decide +kernel, Or.inr (mem_ps (ps := [725, 134, 724, 66]) (by decide +kernel))⟩
theorem ok_C_init : okM t_C_init := ⟨by decide +kernel, by decide +kernel, Or.inr (mem_ps (ps := [145, 129, 144]) (by decide +kernel))⟩
theorem ok_C_feed : okM t_C_feed := ⟨by decide +kernel, by decide +kernel, Or.inr (mem_ps (ps := [350, 129, 348, 349]) (by decide +kernel))⟩
theorem ok_C_north : okM t_C_north := ⟨by decide +kernel, by decide +kernel, Or.inr (mem_ps (ps := [360, 129, 358, 359]) (by decide +kernel))⟩
theorem ok_C_fault : okM t_C_fault := ⟨by decide +kernel, by decide +kernel, Or.inr (mem_ps (ps := [460, 129, 458, 459]) (by decide +kernel))⟩
theorem ok_C_told : okM t_C_told := ⟨by decide +kernel, by decide +kernel, Or.inr (mem_ps (ps := [464, 129, 462, 463]) (by decide +kernel))⟩
theorem ok_C_cell : okM t_C_cell := ⟨by decide +kernel, by decide +kernel, Or.inr (mem_ps (ps := [572, 129, 570, 571]) (by decide +kernel))⟩
theorem ok_C_person : okM t_C_person := ⟨by decide +kernel, by decide +kernel, Or.inr (mem_ps (ps := [592, 129, 590, 591]) (by decide +kernel))⟩
theorem ok_C_lie : okM t_C_lie := ⟨by decide +kernel, by decide +kernel, Or.inr (mem_ps (ps := [608, 129, 606, 607]) (by decide +kernel))⟩
theorem ok_C_rise : okM t_C_rise := ⟨by decide +kernel, by decide +kernel, Or.inr (mem_ps (ps := [639, 129, 637, 638]) (by decide +kernel))⟩
theorem okg_3 : ∀ t ∈ mt_3, okM t := List.forall_mem_cons.mpr ⟨ok_R_readPerson, List.forall_mem_cons.mpr ⟨ok_R_readWind, List.forall_mem_cons.mpr ⟨ok_R_readRock, List.forall_mem_cons.mpr ⟨ok_R_addRock, List.forall_mem_cons.mpr ⟨ok_S_init, List.forall_mem_cons.mpr ⟨ok_S_put, List.forall_mem_cons.mpr ⟨ok_S_take, List.forall_mem_cons.mpr ⟨ok_C_init, List.forall_mem_cons.mpr ⟨ok_C_feed, List.forall_mem_cons.mpr ⟨ok_C_north, List.forall_mem_cons.mpr ⟨ok_C_fault, List.forall_mem_cons.mpr ⟨ok_C_told, List.forall_mem_cons.mpr ⟨ok_C_cell, List.forall_mem_cons.mpr ⟨ok_C_person, List.forall_mem_cons.mpr ⟨ok_C_lie, List.forall_mem_cons.mpr ⟨ok_C_rise, fun t h => by cases h⟩⟩⟩⟩⟩⟩⟩⟩⟩⟩⟩⟩⟩⟩⟩⟩
theorem ok_C_night : okM t_C_night := ⟨by decide +kernel, by decide +kernel, Or.inr (mem_ps (ps := [643, 129, 641, 642]) (by decide +kernel))⟩
theorem ok_C_thaw : okM t_C_thaw := ⟨by decide +kernel, by decide +kernel, Or.inr (mem_ps (ps := [656, 129, 654, 655]) (by decide +kernel))⟩
theorem ok_C_snow : okM t_C_snow := ⟨by decide +kernel, by decide +kernel, Or.inr (mem_ps (ps := [664, 129, 662, 663]) (by decide +kernel))⟩
theorem ok_C_hare : okM t_C_hare := ⟨by decide +kernel, by decide +kernel, Or.inr (mem_ps (ps := [672, 129, 670, 671]) (by decide +kernel))⟩
theorem ok_C_pin : okM t_C_pin := ⟨by decide +kernel, by decide +kernel, Or.inr (mem_ps (ps := [681, 129, 679, 680]) (by decide +kernel))⟩
theorem ok_C_wind : okM t_C_wind := ⟨by decide +kernel, by decide +kernel, Or.inr (mem_ps (ps := [694, 129, 692, 693]) (by decide +kernel))⟩
theorem ok_C_drift : okM t_C_drift := ⟨by decide +kernel, by decide +kernel, Or.inr (mem_ps (ps := [698, 129, 696, 697]) (by decide +kernel))⟩
theorem ok_C_undo : okM t_C_undo := ⟨by decide +kernel, by decide +kernel, Or.inr (mem_ps (ps := [721, 129, 719, 720]) (by decide +kernel))⟩
theorem ok_C_left : okM t_C_left := ⟨by decide +kernel, by decide +kernel, Or.inr (mem_ps (ps := [729, 129, 727, 728]) (by decide +kernel))⟩
theorem ok_C_willCount : okM t_C_willCount := ⟨by decide +kernel, by decide +kernel, Or.inr (mem_ps (ps := [741, 129, 739, 740]) (by decide +kernel))⟩
theorem ok_C_wrongFirst : okM t_C_wrongFirst := ⟨by decide +kernel, by decide +kernel, Or.inr (mem_ps (ps := [745, 129, 743, 744]) (by decide +kernel))⟩
theorem ok_C_canLie : okM t_C_canLie := ⟨by decide +kernel, by decide +kernel, Or.inr (mem_ps (ps := [749, 129, 747, 748]) (by decide +kernel))⟩
theorem ok_C_round : okM t_C_round := ⟨by decide +kernel, by decide +kernel, Or.inr (mem_ps (ps := [758, 129, 756, 757]) (by decide +kernel))⟩
theorem ok_C_touch : okM t_C_touch := ⟨by decide +kernel, by decide +kernel, Or.inr (mem_ps (ps := [784, 129, 782, 783]) (by decide +kernel))⟩
theorem ok_C_still : okM t_C_still := ⟨by decide +kernel, by decide +kernel, Or.inr (mem_ps (ps := [789, 129, 787, 788]) (by decide +kernel))⟩
theorem ok_C_find : okM t_C_find := ⟨by decide +kernel, by decide +kernel, Or.inr (mem_ps (ps := [795, 129, 793, 794]) (by decide +kernel))⟩
theorem okg_4 : ∀ t ∈ mt_4, okM t := List.forall_mem_cons.mpr ⟨ok_C_night, List.forall_mem_cons.mpr ⟨ok_C_thaw, List.forall_mem_cons.mpr ⟨ok_C_snow, List.forall_mem_cons.mpr ⟨ok_C_hare, List.forall_mem_cons.mpr ⟨ok_C_pin, List.forall_mem_cons.mpr ⟨ok_C_wind, List.forall_mem_cons.mpr ⟨ok_C_drift, List.forall_mem_cons.mpr ⟨ok_C_undo, List.forall_mem_cons.mpr ⟨ok_C_left, List.forall_mem_cons.mpr ⟨ok_C_willCount, List.forall_mem_cons.mpr ⟨ok_C_wrongFirst, List.forall_mem_cons.mpr ⟨ok_C_canLie, List.forall_mem_cons.mpr ⟨ok_C_round, List.forall_mem_cons.mpr ⟨ok_C_touch, List.forall_mem_cons.mpr ⟨ok_C_still, List.forall_mem_cons.mpr ⟨ok_C_find, fun t h => by cases h⟩⟩⟩⟩⟩⟩⟩⟩⟩⟩⟩⟩⟩⟩⟩⟩
theorem ok_C_fits : okM t_C_fits := ⟨by decide +kernel, by decide +kernel, Or.inr (mem_ps (ps := [804, 129, 802, 803]) (by decide +kernel))⟩
theorem ok_C_look : okM t_C_look := ⟨by decide +kernel, by decide +kernel, Or.inr (mem_ps (ps := [833, 129, 831, 832]) (by decide +kernel))⟩
theorem ok_C_write : okM t_C_write := ⟨by decide +kernel, by decide +kernel, Or.inr (mem_ps (ps := [847, 129, 845, 846]) (by decide +kernel))⟩
theorem ok_C_judge : okM t_C_judge := ⟨by decide +kernel, by decide +kernel, Or.inr (mem_ps (ps := [855, 129, 853, 854]) (by decide +kernel))⟩
theorem ok_C_tear : okM t_C_tear := ⟨by decide +kernel, by decide +kernel, Or.inr (mem_ps (ps := [863, 129, 861, 862]) (by decide +kernel))⟩
theorem ok_C_seed : okM t_C_seed := ⟨by decide +kernel, by decide +kernel, Or.inr (mem_ps (ps := [867, 129, 865, 866]) (by decide +kernel))⟩
theorem ok_C_keep : okM t_C_keep := ⟨by decide +kernel, by decide +kernel, Or.inr (mem_ps (ps := [871, 129, 869, 870]) (by decide +kernel))⟩
theorem ok_C_goBack : okM t_C_goBack := ⟨by decide +kernel, by decide +kernel, Or.inr (mem_ps (ps := [879, 129, 877, 878]) (by decide +kernel))⟩
theorem ok_C_has : okM t_C_has := ⟨by decide +kernel, by decide +kernel, Or.inr (mem_ps (ps := [567, 129, 566]) (by decide +kernel))⟩
theorem ok_C_leastOf : okM t_C_leastOf := ⟨by decide +kernel, by decide +kernel, Or.inr (mem_ps (ps := [517, 129, 516]) (by decide +kernel))⟩
theorem ok_C_hasNorth : okM t_C_hasNorth := ⟨by decide +kernel, by decide +kernel, Or.inr (mem_ps (ps := [651, 129, 650, 56]) (by decide +kernel))⟩
theorem ok_C_isCell : okM t_C_isCell := ⟨by decide +kernel, by decide +kernel, Or.inr (mem_ps (ps := [576, 129, 575, 43]) (by decide +kernel))⟩
theorem ok_C_isPerson : okM t_C_isPerson := ⟨by decide +kernel, by decide +kernel, Or.inr (mem_ps (ps := [596, 129, 595, 46]) (by decide +kernel))⟩
theorem ok_C_isImage : okM t_C_isImage := ⟨by decide +kernel, by decide +kernel, Or.inr (mem_ps (ps := [875, 129, 874, 83]) (by decide +kernel))⟩
theorem ok_C_everybody : okM t_C_everybody := ⟨by decide +kernel, by decide +kernel, Or.inr (mem_ps (ps := [762, 129, 761, 70]) (by decide +kernel))⟩
theorem ok_C_whoLies : okM t_C_whoLies := ⟨by decide +kernel, by decide +kernel, Or.inr (mem_ps (ps := [469, 129, 468, 22]) (by decide +kernel))⟩
theorem okg_5 : ∀ t ∈ mt_5, okM t := List.forall_mem_cons.mpr ⟨ok_C_fits, List.forall_mem_cons.mpr ⟨ok_C_look, List.forall_mem_cons.mpr ⟨ok_C_write, List.forall_mem_cons.mpr ⟨ok_C_judge, List.forall_mem_cons.mpr ⟨ok_C_tear, List.forall_mem_cons.mpr ⟨ok_C_seed, List.forall_mem_cons.mpr ⟨ok_C_keep, List.forall_mem_cons.mpr ⟨ok_C_goBack, List.forall_mem_cons.mpr ⟨ok_C_has, List.forall_mem_cons.mpr ⟨ok_C_leastOf, List.forall_mem_cons.mpr ⟨ok_C_hasNorth, List.forall_mem_cons.mpr ⟨ok_C_isCell, List.forall_mem_cons.mpr ⟨ok_C_isPerson, List.forall_mem_cons.mpr ⟨ok_C_isImage, List.forall_mem_cons.mpr ⟨ok_C_everybody, List.forall_mem_cons.mpr ⟨ok_C_whoLies, fun t h => by cases h⟩⟩⟩⟩⟩⟩⟩⟩⟩⟩⟩⟩⟩⟩⟩⟩
theorem ok_C_whoIsAt : okM t_C_whoIsAt := ⟨by decide +kernel, by decide +kernel, Or.inr (mem_ps (ps := [588, 129, 587, 45]) (by decide +kernel))⟩
theorem ok_C_shapeLeftBy : okM t_C_shapeLeftBy := ⟨by decide +kernel, by decide +kernel, Or.inr (mem_ps (ps := [600, 129, 599, 47]) (by decide +kernel))⟩
theorem ok_C_countNow : okM t_C_countNow := ⟨by decide +kernel, by decide +kernel, Or.inr (mem_ps (ps := [473, 129, 472, 23]) (by decide +kernel))⟩
theorem ok_C_truth : okM t_C_truth := ⟨by decide +kernel, by decide +kernel, Or.inr (mem_ps (ps := [506, 129, 505, 31]) (by decide +kernel))⟩
theorem ok_C_farOut : okM t_C_farOut := ⟨by decide +kernel, by decide +kernel, Or.inr (mem_ps (ps := [529, 129, 528, 36]) (by decide +kernel))⟩
theorem ok_C_stepsToNearest : okM t_C_stepsToNearest := ⟨by decide +kernel, by decide +kernel, Or.inr (mem_ps (ps := [533, 129, 532, 37]) (by decide +kernel))⟩
theorem ok_C_refusalOfNights : okM t_C_refusalOfNights := ⟨by decide +kernel, by decide +kernel, Or.inr (mem_ps (ps := [647, 129, 646, 55]) (by decide +kernel))⟩
theorem ok_C_layDown : okM t_C_layDown := ⟨by decide +kernel, by decide +kernel, Or.inr (mem_ps (ps := [631, 129, 630, 53]) (by decide +kernel))⟩
theorem ok_C_remember : okM t_C_remember := ⟨by decide +kernel, by decide +kernel, Or.inr (mem_ps (ps := [618, 129, 617, 50]) (by decide +kernel))⟩
theorem ok_C_placeOfDeed : okM t_C_placeOfDeed := ⟨by decide +kernel, by decide +kernel, Or.inr (mem_ps (ps := [622, 129, 621, 51]) (by decide +kernel))⟩
theorem ok_C_forgetDeeds : okM t_C_forgetDeeds := ⟨by decide +kernel, by decide +kernel, Or.inr (mem_ps (ps := [456, 129, 455, 21]) (by decide +kernel))⟩
theorem ok_C_draw : okM t_C_draw := ⟨by decide +kernel, by decide +kernel, Or.inr (mem_ps (ps := [706, 129, 705, 63]) (by decide +kernel))⟩
theorem ok_C_happenByDraw : okM t_C_happenByDraw := ⟨by decide +kernel, by decide +kernel, Or.inr (mem_ps (ps := [702, 129, 701, 62]) (by decide +kernel))⟩
theorem ok_C_lieByDraw : okM t_C_lieByDraw := ⟨by decide +kernel, by decide +kernel, Or.inr (mem_ps (ps := [713, 129, 712, 64]) (by decide +kernel))⟩
theorem ok_C_hareByDraw : okM t_C_hareByDraw := ⟨by decide +kernel, by decide +kernel, Or.inr (mem_ps (ps := [717, 129, 716, 65]) (by decide +kernel))⟩
theorem ok_C_canTry : okM t_C_canTry := ⟨by decide +kernel, by decide +kernel, Or.inr (mem_ps (ps := [733, 129, 732, 67]) (by decide +kernel))⟩
theorem okg_6 : ∀ t ∈ mt_6, okM t := List.forall_mem_cons.mpr ⟨ok_C_whoIsAt, List.forall_mem_cons.mpr ⟨ok_C_shapeLeftBy, List.forall_mem_cons.mpr ⟨ok_C_countNow, List.forall_mem_cons.mpr ⟨ok_C_truth, List.forall_mem_cons.mpr ⟨ok_C_farOut, List.forall_mem_cons.mpr ⟨ok_C_stepsToNearest, List.forall_mem_cons.mpr ⟨ok_C_refusalOfNights, List.forall_mem_cons.mpr ⟨ok_C_layDown, List.forall_mem_cons.mpr ⟨ok_C_remember, List.forall_mem_cons.mpr ⟨ok_C_placeOfDeed, List.forall_mem_cons.mpr ⟨ok_C_forgetDeeds, List.forall_mem_cons.mpr ⟨ok_C_draw, List.forall_mem_cons.mpr ⟨ok_C_happenByDraw, List.forall_mem_cons.mpr ⟨ok_C_lieByDraw, List.forall_mem_cons.mpr ⟨ok_C_hareByDraw, List.forall_mem_cons.mpr ⟨ok_C_canTry, fun t h => by cases h⟩⟩⟩⟩⟩⟩⟩⟩⟩⟩⟩⟩⟩⟩⟩⟩
