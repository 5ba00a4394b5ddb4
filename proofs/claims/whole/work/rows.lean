section
-- ===== PART A: goes FIRST, ahead of the names: the tables' words, and 'selects' of the private methods out of them =====
/-- a private method of a class that the tables say can be made, by its rows of tables_1 -/
def lw_okq (q : MethodName × Nat) : Prop := (q.1.cls ≠ "java/lang/invoke/MethodHandle" ∧ q.1.cls ≠ "java/lang/invoke/VarHandle") ∧ Cond.instantiable q.1.cls q.2 ∈ tables_1 ∧ Cond.privateMethod q.1 ∈ tables_1 ∧ Cond.instanceMethod q.1 ∈ tables_1
theorem lw_p0 : lw_okq (⟨"WingCensus$Reader", "add", "(I)I"⟩, 7) := ⟨⟨by decide +kernel, by decide +kernel⟩, List.mem_of_getElem? (i := 22) (by decide +kernel), List.mem_of_getElem? (i := 225) (by decide +kernel), List.mem_of_getElem? (i := 226) (by decide +kernel)⟩
theorem lw_p1 : lw_okq (⟨"WingCensus$Reader", "readInto", "(LWingCensus$Land;)V"⟩, 7) := ⟨⟨by decide +kernel, by decide +kernel⟩, List.mem_of_getElem? (i := 22) (by decide +kernel), List.mem_of_getElem? (i := 234) (by decide +kernel), List.mem_of_getElem? (i := 235) (by decide +kernel)⟩
theorem lw_p2 : lw_okq (⟨"WingCensus$Land", "clear", "()V"⟩, 10) := ⟨⟨by decide +kernel, by decide +kernel⟩, List.mem_of_getElem? (i := 54) (by decide +kernel), List.mem_of_getElem? (i := 238) (by decide +kernel), List.mem_of_getElem? (i := 239) (by decide +kernel)⟩
theorem lw_p3 : lw_okq (⟨"WingCensus$Reader", "skipBlanks", "()V"⟩, 7) := ⟨⟨by decide +kernel, by decide +kernel⟩, List.mem_of_getElem? (i := 22) (by decide +kernel), List.mem_of_getElem? (i := 245) (by decide +kernel), List.mem_of_getElem? (i := 246) (by decide +kernel)⟩
theorem lw_p4 : lw_okq (⟨"WingCensus$Reader", "readClause", "(LWingCensus$Land;)V"⟩, 7) := ⟨⟨by decide +kernel, by decide +kernel⟩, List.mem_of_getElem? (i := 22) (by decide +kernel), List.mem_of_getElem? (i := 249) (by decide +kernel), List.mem_of_getElem? (i := 250) (by decide +kernel)⟩
theorem lw_p5 : lw_okq (⟨"WingCensus$Reader", "complain", "(II)V"⟩, 7) := ⟨⟨by decide +kernel, by decide +kernel⟩, List.mem_of_getElem? (i := 22) (by decide +kernel), List.mem_of_getElem? (i := 253) (by decide +kernel), List.mem_of_getElem? (i := 254) (by decide +kernel)⟩
theorem lw_p6 : lw_okq (⟨"WingCensus$Reader", "readSides", "(LWingCensus$Land;)V"⟩, 7) := ⟨⟨by decide +kernel, by decide +kernel⟩, List.mem_of_getElem? (i := 22) (by decide +kernel), List.mem_of_getElem? (i := 257) (by decide +kernel), List.mem_of_getElem? (i := 258) (by decide +kernel)⟩
theorem lw_p7 : lw_okq (⟨"WingCensus$Reader", "readNumber", "(II)I"⟩, 7) := ⟨⟨by decide +kernel, by decide +kernel⟩, List.mem_of_getElem? (i := 22) (by decide +kernel), List.mem_of_getElem? (i := 261) (by decide +kernel), List.mem_of_getElem? (i := 262) (by decide +kernel)⟩
theorem lw_p8 : lw_okq (⟨"WingCensus$Reader", "atFigure", "()Z"⟩, 7) := ⟨⟨by decide +kernel, by decide +kernel⟩, List.mem_of_getElem? (i := 22) (by decide +kernel), List.mem_of_getElem? (i := 265) (by decide +kernel), List.mem_of_getElem? (i := 266) (by decide +kernel)⟩
theorem lw_p9 : lw_okq (⟨"WingCensus$Land", "measure", "(II)V"⟩, 10) := ⟨⟨by decide +kernel, by decide +kernel⟩, List.mem_of_getElem? (i := 54) (by decide +kernel), List.mem_of_getElem? (i := 269) (by decide +kernel), List.mem_of_getElem? (i := 270) (by decide +kernel)⟩
theorem lw_p10 : lw_okq (⟨"WingCensus$Reader", "readPerson", "(LWingCensus$Land;)V"⟩, 7) := ⟨⟨by decide +kernel, by decide +kernel⟩, List.mem_of_getElem? (i := 22) (by decide +kernel), List.mem_of_getElem? (i := 273) (by decide +kernel), List.mem_of_getElem? (i := 274) (by decide +kernel)⟩
theorem lw_p11 : lw_okq (⟨"WingCensus$Reader", "readWind", "(LWingCensus$Land;)V"⟩, 7) := ⟨⟨by decide +kernel, by decide +kernel⟩, List.mem_of_getElem? (i := 22) (by decide +kernel), List.mem_of_getElem? (i := 277) (by decide +kernel), List.mem_of_getElem? (i := 278) (by decide +kernel)⟩
theorem lw_p12 : lw_okq (⟨"WingCensus$Reader", "readRock", "(LWingCensus$Land;)V"⟩, 7) := ⟨⟨by decide +kernel, by decide +kernel⟩, List.mem_of_getElem? (i := 22) (by decide +kernel), List.mem_of_getElem? (i := 281) (by decide +kernel), List.mem_of_getElem? (i := 282) (by decide +kernel)⟩
theorem lw_p13 : lw_okq (⟨"WingCensus$Reader", "addRock", "(LWingCensus$Land;J)V"⟩, 7) := ⟨⟨by decide +kernel, by decide +kernel⟩, List.mem_of_getElem? (i := 22) (by decide +kernel), List.mem_of_getElem? (i := 291) (by decide +kernel), List.mem_of_getElem? (i := 292) (by decide +kernel)⟩
theorem lw_p14 : lw_okq (⟨"WingCensus$Reader", "readEnd", "()V"⟩, 7) := ⟨⟨by decide +kernel, by decide +kernel⟩, List.mem_of_getElem? (i := 22) (by decide +kernel), List.mem_of_getElem? (i := 295) (by decide +kernel), List.mem_of_getElem? (i := 296) (by decide +kernel)⟩
theorem lw_p15 : lw_okq (⟨"WingCensus$Land", "drawShapes", "()V"⟩, 10) := ⟨⟨by decide +kernel, by decide +kernel⟩, List.mem_of_getElem? (i := 54) (by decide +kernel), List.mem_of_getElem? (i := 299) (by decide +kernel), List.mem_of_getElem? (i := 300) (by decide +kernel)⟩
def lw_privs_1 : List (MethodName × Nat) := [(⟨"WingCensus$Reader", "add", "(I)I"⟩, 7), (⟨"WingCensus$Reader", "readInto", "(LWingCensus$Land;)V"⟩, 7), (⟨"WingCensus$Land", "clear", "()V"⟩, 10), (⟨"WingCensus$Reader", "skipBlanks", "()V"⟩, 7), (⟨"WingCensus$Reader", "readClause", "(LWingCensus$Land;)V"⟩, 7), (⟨"WingCensus$Reader", "complain", "(II)V"⟩, 7), (⟨"WingCensus$Reader", "readSides", "(LWingCensus$Land;)V"⟩, 7), (⟨"WingCensus$Reader", "readNumber", "(II)I"⟩, 7), (⟨"WingCensus$Reader", "atFigure", "()Z"⟩, 7), (⟨"WingCensus$Land", "measure", "(II)V"⟩, 10), (⟨"WingCensus$Reader", "readPerson", "(LWingCensus$Land;)V"⟩, 7), (⟨"WingCensus$Reader", "readWind", "(LWingCensus$Land;)V"⟩, 7), (⟨"WingCensus$Reader", "readRock", "(LWingCensus$Land;)V"⟩, 7), (⟨"WingCensus$Reader", "addRock", "(LWingCensus$Land;J)V"⟩, 7), (⟨"WingCensus$Reader", "readEnd", "()V"⟩, 7), (⟨"WingCensus$Land", "drawShapes", "()V"⟩, 10)]
theorem lw_r1 : ∀ q ∈ lw_privs_1, lw_okq q := List.forall_mem_cons.mpr ⟨lw_p0, List.forall_mem_cons.mpr ⟨lw_p1, List.forall_mem_cons.mpr ⟨lw_p2, List.forall_mem_cons.mpr ⟨lw_p3, List.forall_mem_cons.mpr ⟨lw_p4, List.forall_mem_cons.mpr ⟨lw_p5, List.forall_mem_cons.mpr ⟨lw_p6, List.forall_mem_cons.mpr ⟨lw_p7, List.forall_mem_cons.mpr ⟨lw_p8, List.forall_mem_cons.mpr ⟨lw_p9, List.forall_mem_cons.mpr ⟨lw_p10, List.forall_mem_cons.mpr ⟨lw_p11, List.forall_mem_cons.mpr ⟨lw_p12, List.forall_mem_cons.mpr ⟨lw_p13, List.forall_mem_cons.mpr ⟨lw_p14, List.forall_mem_cons.mpr ⟨lw_p15, fun _ h => absurd h List.not_mem_nil⟩⟩⟩⟩⟩⟩⟩⟩⟩⟩⟩⟩⟩⟩⟩⟩
theorem lw_p16 : lw_okq (⟨"WingCensus$Land", "cells", "()I"⟩, 10) := ⟨⟨by decide +kernel, by decide +kernel⟩, List.mem_of_getElem? (i := 54) (by decide +kernel), List.mem_of_getElem? (i := 303) (by decide +kernel), List.mem_of_getElem? (i := 304) (by decide +kernel)⟩
theorem lw_p17 : lw_okq (⟨"WingCensus$Land", "drawnShape", "(II)J"⟩, 10) := ⟨⟨by decide +kernel, by decide +kernel⟩, List.mem_of_getElem? (i := 54) (by decide +kernel), List.mem_of_getElem? (i := 307) (by decide +kernel), List.mem_of_getElem? (i := 308) (by decide +kernel)⟩
theorem lw_p18 : lw_okq (⟨"WingCensus$Land", "moved", "(JI)J"⟩, 10) := ⟨⟨by decide +kernel, by decide +kernel⟩, List.mem_of_getElem? (i := 54) (by decide +kernel), List.mem_of_getElem? (i := 313) (by decide +kernel), List.mem_of_getElem? (i := 314) (by decide +kernel)⟩
theorem lw_p19 : lw_okq (⟨"WingCensus$Field", "begin", "(I)V"⟩, 4) := ⟨⟨by decide +kernel, by decide +kernel⟩, List.mem_of_getElem? (i := 106) (by decide +kernel), List.mem_of_getElem? (i := 318) (by decide +kernel), List.mem_of_getElem? (i := 319) (by decide +kernel)⟩
theorem lw_p20 : lw_okq (⟨"WingCensus$Notebook", "empty", "()V"⟩, 5) := ⟨⟨by decide +kernel, by decide +kernel⟩, List.mem_of_getElem? (i := 152) (by decide +kernel), List.mem_of_getElem? (i := 322) (by decide +kernel), List.mem_of_getElem? (i := 323) (by decide +kernel)⟩
theorem lw_p21 : lw_okq (⟨"WingCensus", "forgetDeeds", "()V"⟩, 14) := ⟨⟨by decide +kernel, by decide +kernel⟩, List.mem_of_getElem? (i := 14) (by decide +kernel), List.mem_of_getElem? (i := 326) (by decide +kernel), List.mem_of_getElem? (i := 327) (by decide +kernel)⟩
theorem lw_p22 : lw_okq (⟨"WingCensus", "whoLies", "()I"⟩, 14) := ⟨⟨by decide +kernel, by decide +kernel⟩, List.mem_of_getElem? (i := 14) (by decide +kernel), List.mem_of_getElem? (i := 339) (by decide +kernel), List.mem_of_getElem? (i := 340) (by decide +kernel)⟩
theorem lw_p23 : lw_okq (⟨"WingCensus", "countNow", "()I"⟩, 14) := ⟨⟨by decide +kernel, by decide +kernel⟩, List.mem_of_getElem? (i := 14) (by decide +kernel), List.mem_of_getElem? (i := 343) (by decide +kernel), List.mem_of_getElem? (i := 344) (by decide +kernel)⟩
theorem lw_p24 : lw_okq (⟨"WingCensus$Field", "seen", "()J"⟩, 4) := ⟨⟨by decide +kernel, by decide +kernel⟩, List.mem_of_getElem? (i := 106) (by decide +kernel), List.mem_of_getElem? (i := 347) (by decide +kernel), List.mem_of_getElem? (i := 348) (by decide +kernel)⟩
theorem lw_p25 : lw_okq (⟨"WingCensus$Field", "dentedFrom", "(I)J"⟩, 4) := ⟨⟨by decide +kernel, by decide +kernel⟩, List.mem_of_getElem? (i := 106) (by decide +kernel), List.mem_of_getElem? (i := 351) (by decide +kernel), List.mem_of_getElem? (i := 352) (by decide +kernel)⟩
theorem lw_p26 : lw_okq (⟨"WingCensus$Land", "countOf", "(J)I"⟩, 10) := ⟨⟨by decide +kernel, by decide +kernel⟩, List.mem_of_getElem? (i := 54) (by decide +kernel), List.mem_of_getElem? (i := 355) (by decide +kernel), List.mem_of_getElem? (i := 356) (by decide +kernel)⟩
theorem lw_p27 : lw_okq (⟨"WingCensus$Land", "firstGroup", "(J)J"⟩, 10) := ⟨⟨by decide +kernel, by decide +kernel⟩, List.mem_of_getElem? (i := 54) (by decide +kernel), List.mem_of_getElem? (i := 359) (by decide +kernel), List.mem_of_getElem? (i := 360) (by decide +kernel)⟩
theorem lw_p28 : lw_okq (⟨"WingCensus$Land", "groupOf", "(JJ)J"⟩, 10) := ⟨⟨by decide +kernel, by decide +kernel⟩, List.mem_of_getElem? (i := 54) (by decide +kernel), List.mem_of_getElem? (i := 363) (by decide +kernel), List.mem_of_getElem? (i := 364) (by decide +kernel)⟩
theorem lw_p29 : lw_okq (⟨"WingCensus$Land", "grown", "(J)J"⟩, 10) := ⟨⟨by decide +kernel, by decide +kernel⟩, List.mem_of_getElem? (i := 54) (by decide +kernel), List.mem_of_getElem? (i := 367) (by decide +kernel), List.mem_of_getElem? (i := 368) (by decide +kernel)⟩
theorem lw_p30 : lw_okq (⟨"WingCensus$Land", "countedAs", "(I)I"⟩, 10) := ⟨⟨by decide +kernel, by decide +kernel⟩, List.mem_of_getElem? (i := 54) (by decide +kernel), List.mem_of_getElem? (i := 372) (by decide +kernel), List.mem_of_getElem? (i := 373) (by decide +kernel)⟩
theorem lw_p31 : lw_okq (⟨"WingCensus", "truth", "()I"⟩, 14) := ⟨⟨by decide +kernel, by decide +kernel⟩, List.mem_of_getElem? (i := 14) (by decide +kernel), List.mem_of_getElem? (i := 376) (by decide +kernel), List.mem_of_getElem? (i := 377) (by decide +kernel)⟩
def lw_privs_2 : List (MethodName × Nat) := [(⟨"WingCensus$Land", "cells", "()I"⟩, 10), (⟨"WingCensus$Land", "drawnShape", "(II)J"⟩, 10), (⟨"WingCensus$Land", "moved", "(JI)J"⟩, 10), (⟨"WingCensus$Field", "begin", "(I)V"⟩, 4), (⟨"WingCensus$Notebook", "empty", "()V"⟩, 5), (⟨"WingCensus", "forgetDeeds", "()V"⟩, 14), (⟨"WingCensus", "whoLies", "()I"⟩, 14), (⟨"WingCensus", "countNow", "()I"⟩, 14), (⟨"WingCensus$Field", "seen", "()J"⟩, 4), (⟨"WingCensus$Field", "dentedFrom", "(I)J"⟩, 4), (⟨"WingCensus$Land", "countOf", "(J)I"⟩, 10), (⟨"WingCensus$Land", "firstGroup", "(J)J"⟩, 10), (⟨"WingCensus$Land", "groupOf", "(JJ)J"⟩, 10), (⟨"WingCensus$Land", "grown", "(J)J"⟩, 10), (⟨"WingCensus$Land", "countedAs", "(I)I"⟩, 10), (⟨"WingCensus", "truth", "()I"⟩, 14)]
theorem lw_r2 : ∀ q ∈ lw_privs_2, lw_okq q := List.forall_mem_cons.mpr ⟨lw_p16, List.forall_mem_cons.mpr ⟨lw_p17, List.forall_mem_cons.mpr ⟨lw_p18, List.forall_mem_cons.mpr ⟨lw_p19, List.forall_mem_cons.mpr ⟨lw_p20, List.forall_mem_cons.mpr ⟨lw_p21, List.forall_mem_cons.mpr ⟨lw_p22, List.forall_mem_cons.mpr ⟨lw_p23, List.forall_mem_cons.mpr ⟨lw_p24, List.forall_mem_cons.mpr ⟨lw_p25, List.forall_mem_cons.mpr ⟨lw_p26, List.forall_mem_cons.mpr ⟨lw_p27, List.forall_mem_cons.mpr ⟨lw_p28, List.forall_mem_cons.mpr ⟨lw_p29, List.forall_mem_cons.mpr ⟨lw_p30, List.forall_mem_cons.mpr ⟨lw_p31, fun _ h => absurd h List.not_mem_nil⟩⟩⟩⟩⟩⟩⟩⟩⟩⟩⟩⟩⟩⟩⟩⟩
theorem lw_p32 : lw_okq (⟨"WingCensus$Land", "groupsIn", "(J)I"⟩, 10) := ⟨⟨by decide +kernel, by decide +kernel⟩, List.mem_of_getElem? (i := 54) (by decide +kernel), List.mem_of_getElem? (i := 380) (by decide +kernel), List.mem_of_getElem? (i := 381) (by decide +kernel)⟩
theorem lw_p33 : lw_okq (⟨"WingCensus$Land", "greatestIn", "(J)I"⟩, 10) := ⟨⟨by decide +kernel, by decide +kernel⟩, List.mem_of_getElem? (i := 54) (by decide +kernel), List.mem_of_getElem? (i := 384) (by decide +kernel), List.mem_of_getElem? (i := 385) (by decide +kernel)⟩
theorem lw_p34 : lw_okq (⟨"WingCensus$Land", "forgedIn", "(J)I"⟩, 10) := ⟨⟨by decide +kernel, by decide +kernel⟩, List.mem_of_getElem? (i := 54) (by decide +kernel), List.mem_of_getElem? (i := 391) (by decide +kernel), List.mem_of_getElem? (i := 392) (by decide +kernel)⟩
theorem lw_p35 : lw_okq (⟨"WingCensus$Land", "isShape", "(J)Z"⟩, 10) := ⟨⟨by decide +kernel, by decide +kernel⟩, List.mem_of_getElem? (i := 54) (by decide +kernel), List.mem_of_getElem? (i := 395) (by decide +kernel), List.mem_of_getElem? (i := 396) (by decide +kernel)⟩
theorem lw_p36 : lw_okq (⟨"WingCensus", "farOut", "()I"⟩, 14) := ⟨⟨by decide +kernel, by decide +kernel⟩, List.mem_of_getElem? (i := 14) (by decide +kernel), List.mem_of_getElem? (i := 399) (by decide +kernel), List.mem_of_getElem? (i := 400) (by decide +kernel)⟩
theorem lw_p37 : lw_okq (⟨"WingCensus", "stepsToNearest", "(I)I"⟩, 14) := ⟨⟨by decide +kernel, by decide +kernel⟩, List.mem_of_getElem? (i := 14) (by decide +kernel), List.mem_of_getElem? (i := 403) (by decide +kernel), List.mem_of_getElem? (i := 404) (by decide +kernel)⟩
theorem lw_p38 : lw_okq (⟨"WingCensus$Land", "steps", "(II)I"⟩, 10) := ⟨⟨by decide +kernel, by decide +kernel⟩, List.mem_of_getElem? (i := 54) (by decide +kernel), List.mem_of_getElem? (i := 407) (by decide +kernel), List.mem_of_getElem? (i := 408) (by decide +kernel)⟩
theorem lw_p39 : lw_okq (⟨"WingCensus", "bare", "()I"⟩, 14) := ⟨⟨by decide +kernel, by decide +kernel⟩, List.mem_of_getElem? (i := 14) (by decide +kernel), List.mem_of_getElem? (i := 417) (by decide +kernel), List.mem_of_getElem? (i := 418) (by decide +kernel)⟩
theorem lw_p40 : lw_okq (⟨"WingCensus$Field", "become", "(LWingCensus$Field;)V"⟩, 4) := ⟨⟨by decide +kernel, by decide +kernel⟩, List.mem_of_getElem? (i := 106) (by decide +kernel), List.mem_of_getElem? (i := 421) (by decide +kernel), List.mem_of_getElem? (i := 422) (by decide +kernel)⟩
theorem lw_p41 : lw_okq (⟨"WingCensus$Field", "dented", "()J"⟩, 4) := ⟨⟨by decide +kernel, by decide +kernel⟩, List.mem_of_getElem? (i := 106) (by decide +kernel), List.mem_of_getElem? (i := 428) (by decide +kernel), List.mem_of_getElem? (i := 429) (by decide +kernel)⟩
theorem lw_p42 : lw_okq (⟨"WingCensus$Field", "passNight", "(LWingCensus$Land;)V"⟩, 4) := ⟨⟨by decide +kernel, by decide +kernel⟩, List.mem_of_getElem? (i := 106) (by decide +kernel), List.mem_of_getElem? (i := 432) (by decide +kernel), List.mem_of_getElem? (i := 433) (by decide +kernel)⟩
theorem lw_p43 : lw_okq (⟨"WingCensus", "isCell", "(I)Z"⟩, 14) := ⟨⟨by decide +kernel, by decide +kernel⟩, List.mem_of_getElem? (i := 14) (by decide +kernel), List.mem_of_getElem? (i := 446) (by decide +kernel), List.mem_of_getElem? (i := 447) (by decide +kernel)⟩
theorem lw_p44 : lw_okq (⟨"WingCensus$Land", "isRock", "(I)Z"⟩, 10) := ⟨⟨by decide +kernel, by decide +kernel⟩, List.mem_of_getElem? (i := 54) (by decide +kernel), List.mem_of_getElem? (i := 452) (by decide +kernel), List.mem_of_getElem? (i := 453) (by decide +kernel)⟩
theorem lw_p45 : lw_okq (⟨"WingCensus", "whoIsAt", "(I)I"⟩, 14) := ⟨⟨by decide +kernel, by decide +kernel⟩, List.mem_of_getElem? (i := 14) (by decide +kernel), List.mem_of_getElem? (i := 458) (by decide +kernel), List.mem_of_getElem? (i := 459) (by decide +kernel)⟩
theorem lw_p46 : lw_okq (⟨"WingCensus", "isPerson", "(I)Z"⟩, 14) := ⟨⟨by decide +kernel, by decide +kernel⟩, List.mem_of_getElem? (i := 14) (by decide +kernel), List.mem_of_getElem? (i := 466) (by decide +kernel), List.mem_of_getElem? (i := 467) (by decide +kernel)⟩
theorem lw_p47 : lw_okq (⟨"WingCensus", "shapeLeftBy", "(I)J"⟩, 14) := ⟨⟨by decide +kernel, by decide +kernel⟩, List.mem_of_getElem? (i := 14) (by decide +kernel), List.mem_of_getElem? (i := 470) (by decide +kernel), List.mem_of_getElem? (i := 471) (by decide +kernel)⟩
def lw_privs_3 : List (MethodName × Nat) := [(⟨"WingCensus$Land", "groupsIn", "(J)I"⟩, 10), (⟨"WingCensus$Land", "greatestIn", "(J)I"⟩, 10), (⟨"WingCensus$Land", "forgedIn", "(J)I"⟩, 10), (⟨"WingCensus$Land", "isShape", "(J)Z"⟩, 10), (⟨"WingCensus", "farOut", "()I"⟩, 14), (⟨"WingCensus", "stepsToNearest", "(I)I"⟩, 14), (⟨"WingCensus$Land", "steps", "(II)I"⟩, 10), (⟨"WingCensus", "bare", "()I"⟩, 14), (⟨"WingCensus$Field", "become", "(LWingCensus$Field;)V"⟩, 4), (⟨"WingCensus$Field", "dented", "()J"⟩, 4), (⟨"WingCensus$Field", "passNight", "(LWingCensus$Land;)V"⟩, 4), (⟨"WingCensus", "isCell", "(I)Z"⟩, 14), (⟨"WingCensus$Land", "isRock", "(I)Z"⟩, 10), (⟨"WingCensus", "whoIsAt", "(I)I"⟩, 14), (⟨"WingCensus", "isPerson", "(I)Z"⟩, 14), (⟨"WingCensus", "shapeLeftBy", "(I)J"⟩, 14)]
theorem lw_r3 : ∀ q ∈ lw_privs_3, lw_okq q := List.forall_mem_cons.mpr ⟨lw_p32, List.forall_mem_cons.mpr ⟨lw_p33, List.forall_mem_cons.mpr ⟨lw_p34, List.forall_mem_cons.mpr ⟨lw_p35, List.forall_mem_cons.mpr ⟨lw_p36, List.forall_mem_cons.mpr ⟨lw_p37, List.forall_mem_cons.mpr ⟨lw_p38, List.forall_mem_cons.mpr ⟨lw_p39, List.forall_mem_cons.mpr ⟨lw_p40, List.forall_mem_cons.mpr ⟨lw_p41, List.forall_mem_cons.mpr ⟨lw_p42, List.forall_mem_cons.mpr ⟨lw_p43, List.forall_mem_cons.mpr ⟨lw_p44, List.forall_mem_cons.mpr ⟨lw_p45, List.forall_mem_cons.mpr ⟨lw_p46, List.forall_mem_cons.mpr ⟨lw_p47, fun _ h => absurd h List.not_mem_nil⟩⟩⟩⟩⟩⟩⟩⟩⟩⟩⟩⟩⟩⟩⟩⟩
theorem lw_p48 : lw_okq (⟨"WingCensus$Land", "shape", "(II)J"⟩, 10) := ⟨⟨by decide +kernel, by decide +kernel⟩, List.mem_of_getElem? (i := 54) (by decide +kernel), List.mem_of_getElem? (i := 474) (by decide +kernel), List.mem_of_getElem? (i := 475) (by decide +kernel)⟩
theorem lw_p49 : lw_okq (⟨"WingCensus", "roomFor", "(I)J"⟩, 14) := ⟨⟨by decide +kernel, by decide +kernel⟩, List.mem_of_getElem? (i := 14) (by decide +kernel), List.mem_of_getElem? (i := 482) (by decide +kernel), List.mem_of_getElem? (i := 483) (by decide +kernel)⟩
theorem lw_p50 : lw_okq (⟨"WingCensus", "remember", "()V"⟩, 14) := ⟨⟨by decide +kernel, by decide +kernel⟩, List.mem_of_getElem? (i := 14) (by decide +kernel), List.mem_of_getElem? (i := 488) (by decide +kernel), List.mem_of_getElem? (i := 489) (by decide +kernel)⟩
theorem lw_p51 : lw_okq (⟨"WingCensus", "placeOfDeed", "(I)I"⟩, 14) := ⟨⟨by decide +kernel, by decide +kernel⟩, List.mem_of_getElem? (i := 14) (by decide +kernel), List.mem_of_getElem? (i := 492) (by decide +kernel), List.mem_of_getElem? (i := 493) (by decide +kernel)⟩
theorem lw_p52 : lw_okq (⟨"WingCensus$Shelf", "put", "(ILWingCensus$Field;)V"⟩, 2) := ⟨⟨by decide +kernel, by decide +kernel⟩, List.mem_of_getElem? (i := 136) (by decide +kernel), List.mem_of_getElem? (i := 496) (by decide +kernel), List.mem_of_getElem? (i := 497) (by decide +kernel)⟩
theorem lw_p53 : lw_okq (⟨"WingCensus", "layDown", "(II)V"⟩, 14) := ⟨⟨by decide +kernel, by decide +kernel⟩, List.mem_of_getElem? (i := 14) (by decide +kernel), List.mem_of_getElem? (i := 501) (by decide +kernel), List.mem_of_getElem? (i := 502) (by decide +kernel)⟩
theorem lw_p54 : lw_okq (⟨"WingCensus$Field", "press", "(J)V"⟩, 4) := ⟨⟨by decide +kernel, by decide +kernel⟩, List.mem_of_getElem? (i := 106) (by decide +kernel), List.mem_of_getElem? (i := 505) (by decide +kernel), List.mem_of_getElem? (i := 506) (by decide +kernel)⟩
theorem lw_p55 : lw_okq (⟨"WingCensus", "refusalOfNights", "(I)I"⟩, 14) := ⟨⟨by decide +kernel, by decide +kernel⟩, List.mem_of_getElem? (i := 14) (by decide +kernel), List.mem_of_getElem? (i := 517) (by decide +kernel), List.mem_of_getElem? (i := 518) (by decide +kernel)⟩
theorem lw_p56 : lw_okq (⟨"WingCensus", "hasNorth", "()Z"⟩, 14) := ⟨⟨by decide +kernel, by decide +kernel⟩, List.mem_of_getElem? (i := 14) (by decide +kernel), List.mem_of_getElem? (i := 521) (by decide +kernel), List.mem_of_getElem? (i := 522) (by decide +kernel)⟩
theorem lw_p57 : lw_okq (⟨"WingCensus$Field", "melt", "()V"⟩, 4) := ⟨⟨by decide +kernel, by decide +kernel⟩, List.mem_of_getElem? (i := 106) (by decide +kernel), List.mem_of_getElem? (i := 530) (by decide +kernel), List.mem_of_getElem? (i := 531) (by decide +kernel)⟩
theorem lw_p58 : lw_okq (⟨"WingCensus$Field", "snowOver", "()V"⟩, 4) := ⟨⟨by decide +kernel, by decide +kernel⟩, List.mem_of_getElem? (i := 106) (by decide +kernel), List.mem_of_getElem? (i := 538) (by decide +kernel), List.mem_of_getElem? (i := 539) (by decide +kernel)⟩
theorem lw_p59 : lw_okq (⟨"WingCensus$Field", "cross", "(I)V"⟩, 4) := ⟨⟨by decide +kernel, by decide +kernel⟩, List.mem_of_getElem? (i := 106) (by decide +kernel), List.mem_of_getElem? (i := 546) (by decide +kernel), List.mem_of_getElem? (i := 547) (by decide +kernel)⟩
theorem lw_p60 : lw_okq (⟨"WingCensus$Land", "row", "(I)J"⟩, 10) := ⟨⟨by decide +kernel, by decide +kernel⟩, List.mem_of_getElem? (i := 54) (by decide +kernel), List.mem_of_getElem? (i := 555) (by decide +kernel), List.mem_of_getElem? (i := 556) (by decide +kernel)⟩
theorem lw_p61 : lw_okq (⟨"WingCensus$Field", "roll", "(J)V"⟩, 4) := ⟨⟨by decide +kernel, by decide +kernel⟩, List.mem_of_getElem? (i := 106) (by decide +kernel), List.mem_of_getElem? (i := 560) (by decide +kernel), List.mem_of_getElem? (i := 561) (by decide +kernel)⟩
theorem lw_p62 : lw_okq (⟨"WingCensus", "happenByDraw", "()V"⟩, 14) := ⟨⟨by decide +kernel, by decide +kernel⟩, List.mem_of_getElem? (i := 14) (by decide +kernel), List.mem_of_getElem? (i := 572) (by decide +kernel), List.mem_of_getElem? (i := 573) (by decide +kernel)⟩
theorem lw_p63 : lw_okq (⟨"WingCensus", "draw", "(I)I"⟩, 14) := ⟨⟨by decide +kernel, by decide +kernel⟩, List.mem_of_getElem? (i := 14) (by decide +kernel), List.mem_of_getElem? (i := 576) (by decide +kernel), List.mem_of_getElem? (i := 577) (by decide +kernel)⟩
def lw_privs_4 : List (MethodName × Nat) := [(⟨"WingCensus$Land", "shape", "(II)J"⟩, 10), (⟨"WingCensus", "roomFor", "(I)J"⟩, 14), (⟨"WingCensus", "remember", "()V"⟩, 14), (⟨"WingCensus", "placeOfDeed", "(I)I"⟩, 14), (⟨"WingCensus$Shelf", "put", "(ILWingCensus$Field;)V"⟩, 2), (⟨"WingCensus", "layDown", "(II)V"⟩, 14), (⟨"WingCensus$Field", "press", "(J)V"⟩, 4), (⟨"WingCensus", "refusalOfNights", "(I)I"⟩, 14), (⟨"WingCensus", "hasNorth", "()Z"⟩, 14), (⟨"WingCensus$Field", "melt", "()V"⟩, 4), (⟨"WingCensus$Field", "snowOver", "()V"⟩, 4), (⟨"WingCensus$Field", "cross", "(I)V"⟩, 4), (⟨"WingCensus$Land", "row", "(I)J"⟩, 10), (⟨"WingCensus$Field", "roll", "(J)V"⟩, 4), (⟨"WingCensus", "happenByDraw", "()V"⟩, 14), (⟨"WingCensus", "draw", "(I)I"⟩, 14)]
theorem lw_r4 : ∀ q ∈ lw_privs_4, lw_okq q := List.forall_mem_cons.mpr ⟨lw_p48, List.forall_mem_cons.mpr ⟨lw_p49, List.forall_mem_cons.mpr ⟨lw_p50, List.forall_mem_cons.mpr ⟨lw_p51, List.forall_mem_cons.mpr ⟨lw_p52, List.forall_mem_cons.mpr ⟨lw_p53, List.forall_mem_cons.mpr ⟨lw_p54, List.forall_mem_cons.mpr ⟨lw_p55, List.forall_mem_cons.mpr ⟨lw_p56, List.forall_mem_cons.mpr ⟨lw_p57, List.forall_mem_cons.mpr ⟨lw_p58, List.forall_mem_cons.mpr ⟨lw_p59, List.forall_mem_cons.mpr ⟨lw_p60, List.forall_mem_cons.mpr ⟨lw_p61, List.forall_mem_cons.mpr ⟨lw_p62, List.forall_mem_cons.mpr ⟨lw_p63, fun _ h => absurd h List.not_mem_nil⟩⟩⟩⟩⟩⟩⟩⟩⟩⟩⟩⟩⟩⟩⟩⟩
theorem lw_p64 : lw_okq (⟨"WingCensus", "lieByDraw", "()V"⟩, 14) := ⟨⟨by decide +kernel, by decide +kernel⟩, List.mem_of_getElem? (i := 14) (by decide +kernel), List.mem_of_getElem? (i := 583) (by decide +kernel), List.mem_of_getElem? (i := 584) (by decide +kernel)⟩
theorem lw_p65 : lw_okq (⟨"WingCensus", "hareByDraw", "()V"⟩, 14) := ⟨⟨by decide +kernel, by decide +kernel⟩, List.mem_of_getElem? (i := 14) (by decide +kernel), List.mem_of_getElem? (i := 587) (by decide +kernel), List.mem_of_getElem? (i := 588) (by decide +kernel)⟩
theorem lw_p66 : lw_okq (⟨"WingCensus$Shelf", "take", "(ILWingCensus$Field;)V"⟩, 2) := ⟨⟨by decide +kernel, by decide +kernel⟩, List.mem_of_getElem? (i := 136) (by decide +kernel), List.mem_of_getElem? (i := 595) (by decide +kernel), List.mem_of_getElem? (i := 596) (by decide +kernel)⟩
theorem lw_p67 : lw_okq (⟨"WingCensus", "canTry", "(I)Z"⟩, 14) := ⟨⟨by decide +kernel, by decide +kernel⟩, List.mem_of_getElem? (i := 14) (by decide +kernel), List.mem_of_getElem? (i := 603) (by decide +kernel), List.mem_of_getElem? (i := 604) (by decide +kernel)⟩
theorem lw_p68 : lw_okq (⟨"WingCensus", "tryNights", "(I)V"⟩, 14) := ⟨⟨by decide +kernel, by decide +kernel⟩, List.mem_of_getElem? (i := 14) (by decide +kernel), List.mem_of_getElem? (i := 607) (by decide +kernel), List.mem_of_getElem? (i := 608) (by decide +kernel)⟩
theorem lw_p69 : lw_okq (⟨"WingCensus", "bestRoomFor", "(II)I"⟩, 14) := ⟨⟨by decide +kernel, by decide +kernel⟩, List.mem_of_getElem? (i := 14) (by decide +kernel), List.mem_of_getElem? (i := 624) (by decide +kernel), List.mem_of_getElem? (i := 625) (by decide +kernel)⟩
theorem lw_p70 : lw_okq (⟨"WingCensus", "everybody", "()I"⟩, 14) := ⟨⟨by decide +kernel, by decide +kernel⟩, List.mem_of_getElem? (i := 14) (by decide +kernel), List.mem_of_getElem? (i := 632) (by decide +kernel), List.mem_of_getElem? (i := 633) (by decide +kernel)⟩
theorem lw_p71 : lw_okq (⟨"WingCensus", "shortestRound", "(III)J"⟩, 14) := ⟨⟨by decide +kernel, by decide +kernel⟩, List.mem_of_getElem? (i := 14) (by decide +kernel), List.mem_of_getElem? (i := 642) (by decide +kernel), List.mem_of_getElem? (i := 643) (by decide +kernel)⟩
theorem lw_p72 : lw_okq (⟨"WingCensus$Notebook", "addFound", "(IZ)I"⟩, 5) := ⟨⟨by decide +kernel, by decide +kernel⟩, List.mem_of_getElem? (i := 152) (by decide +kernel), List.mem_of_getElem? (i := 669) (by decide +kernel), List.mem_of_getElem? (i := 670) (by decide +kernel)⟩
theorem lw_p73 : lw_okq (⟨"WingCensus", "howManyFit", "()I"⟩, 14) := ⟨⟨by decide +kernel, by decide +kernel⟩, List.mem_of_getElem? (i := 14) (by decide +kernel), List.mem_of_getElem? (i := 678) (by decide +kernel), List.mem_of_getElem? (i := 679) (by decide +kernel)⟩
theorem lw_p74 : lw_okq (⟨"WingCensus", "howManyOfKindFit", "(I)I"⟩, 14) := ⟨⟨by decide +kernel, by decide +kernel⟩, List.mem_of_getElem? (i := 14) (by decide +kernel), List.mem_of_getElem? (i := 682) (by decide +kernel), List.mem_of_getElem? (i := 683) (by decide +kernel)⟩
theorem lw_p75 : lw_okq (⟨"WingCensus", "fitsFound", "(II)Z"⟩, 14) := ⟨⟨by decide +kernel, by decide +kernel⟩, List.mem_of_getElem? (i := 14) (by decide +kernel), List.mem_of_getElem? (i := 686) (by decide +kernel), List.mem_of_getElem? (i := 687) (by decide +kernel)⟩
theorem lw_p76 : lw_okq (⟨"WingCensus$Notebook", "agreesWith", "(J)Z"⟩, 5) := ⟨⟨by decide +kernel, by decide +kernel⟩, List.mem_of_getElem? (i := 152) (by decide +kernel), List.mem_of_getElem? (i := 690) (by decide +kernel), List.mem_of_getElem? (i := 691) (by decide +kernel)⟩
theorem lw_p77 : lw_okq (⟨"WingCensus", "leastFit", "()I"⟩, 14) := ⟨⟨by decide +kernel, by decide +kernel⟩, List.mem_of_getElem? (i := 14) (by decide +kernel), List.mem_of_getElem? (i := 695) (by decide +kernel), List.mem_of_getElem? (i := 696) (by decide +kernel)⟩
theorem lw_p78 : lw_okq (⟨"WingCensus", "kindsThatFit", "()I"⟩, 14) := ⟨⟨by decide +kernel, by decide +kernel⟩, List.mem_of_getElem? (i := 14) (by decide +kernel), List.mem_of_getElem? (i := 699) (by decide +kernel), List.mem_of_getElem? (i := 700) (by decide +kernel)⟩
theorem lw_p79 : lw_okq (⟨"WingCensus", "tallyFits", "()V"⟩, 14) := ⟨⟨by decide +kernel, by decide +kernel⟩, List.mem_of_getElem? (i := 14) (by decide +kernel), List.mem_of_getElem? (i := 707) (by decide +kernel), List.mem_of_getElem? (i := 708) (by decide +kernel)⟩
def lw_privs_5 : List (MethodName × Nat) := [(⟨"WingCensus", "lieByDraw", "()V"⟩, 14), (⟨"WingCensus", "hareByDraw", "()V"⟩, 14), (⟨"WingCensus$Shelf", "take", "(ILWingCensus$Field;)V"⟩, 2), (⟨"WingCensus", "canTry", "(I)Z"⟩, 14), (⟨"WingCensus", "tryNights", "(I)V"⟩, 14), (⟨"WingCensus", "bestRoomFor", "(II)I"⟩, 14), (⟨"WingCensus", "everybody", "()I"⟩, 14), (⟨"WingCensus", "shortestRound", "(III)J"⟩, 14), (⟨"WingCensus$Notebook", "addFound", "(IZ)I"⟩, 5), (⟨"WingCensus", "howManyFit", "()I"⟩, 14), (⟨"WingCensus", "howManyOfKindFit", "(I)I"⟩, 14), (⟨"WingCensus", "fitsFound", "(II)Z"⟩, 14), (⟨"WingCensus$Notebook", "agreesWith", "(J)Z"⟩, 5), (⟨"WingCensus", "leastFit", "()I"⟩, 14), (⟨"WingCensus", "kindsThatFit", "()I"⟩, 14), (⟨"WingCensus", "tallyFits", "()V"⟩, 14)]
theorem lw_r5 : ∀ q ∈ lw_privs_5, lw_okq q := List.forall_mem_cons.mpr ⟨lw_p64, List.forall_mem_cons.mpr ⟨lw_p65, List.forall_mem_cons.mpr ⟨lw_p66, List.forall_mem_cons.mpr ⟨lw_p67, List.forall_mem_cons.mpr ⟨lw_p68, List.forall_mem_cons.mpr ⟨lw_p69, List.forall_mem_cons.mpr ⟨lw_p70, List.forall_mem_cons.mpr ⟨lw_p71, List.forall_mem_cons.mpr ⟨lw_p72, List.forall_mem_cons.mpr ⟨lw_p73, List.forall_mem_cons.mpr ⟨lw_p74, List.forall_mem_cons.mpr ⟨lw_p75, List.forall_mem_cons.mpr ⟨lw_p76, List.forall_mem_cons.mpr ⟨lw_p77, List.forall_mem_cons.mpr ⟨lw_p78, List.forall_mem_cons.mpr ⟨lw_p79, fun _ h => absurd h List.not_mem_nil⟩⟩⟩⟩⟩⟩⟩⟩⟩⟩⟩⟩⟩⟩⟩⟩
theorem lw_p80 : lw_okq (⟨"WingCensus", "tallyCells", "(J)V"⟩, 14) := ⟨⟨by decide +kernel, by decide +kernel⟩, List.mem_of_getElem? (i := 14) (by decide +kernel), List.mem_of_getElem? (i := 712) (by decide +kernel), List.mem_of_getElem? (i := 713) (by decide +kernel)⟩
theorem lw_p81 : lw_okq (⟨"WingCensus$Notebook", "addEntry", "(I)I"⟩, 5) := ⟨⟨by decide +kernel, by decide +kernel⟩, List.mem_of_getElem? (i := 152) (by decide +kernel), List.mem_of_getElem? (i := 721) (by decide +kernel), List.mem_of_getElem? (i := 722) (by decide +kernel)⟩
theorem lw_p82 : lw_okq (⟨"WingCensus$Notebook", "firstOtherThan", "(I)I"⟩, 5) := ⟨⟨by decide +kernel, by decide +kernel⟩, List.mem_of_getElem? (i := 152) (by decide +kernel), List.mem_of_getElem? (i := 729) (by decide +kernel), List.mem_of_getElem? (i := 730) (by decide +kernel)⟩
theorem lw_p83 : lw_okq (⟨"WingCensus", "isImage", "(I)Z"⟩, 14) := ⟨⟨by decide +kernel, by decide +kernel⟩, List.mem_of_getElem? (i := 14) (by decide +kernel), List.mem_of_getElem? (i := 745) (by decide +kernel), List.mem_of_getElem? (i := 746) (by decide +kernel)⟩
theorem lw_p84 : lw_okq (⟨"WingCensusModel", "begins", "()V"⟩, 24) := ⟨⟨by decide +kernel, by decide +kernel⟩, List.mem_of_getElem? (i := 753) (by decide +kernel), List.mem_of_getElem? (i := 759) (by decide +kernel), List.mem_of_getElem? (i := 760) (by decide +kernel)⟩
theorem lw_p85 : lw_okq (⟨"WingCensusModel", "step", "()V"⟩, 24) := ⟨⟨by decide +kernel, by decide +kernel⟩, List.mem_of_getElem? (i := 753) (by decide +kernel), List.mem_of_getElem? (i := 852) (by decide +kernel), List.mem_of_getElem? (i := 853) (by decide +kernel)⟩
theorem lw_p86 : lw_okq (⟨"WingCensusModel", "here", "()I"⟩, 24) := ⟨⟨by decide +kernel, by decide +kernel⟩, List.mem_of_getElem? (i := 753) (by decide +kernel), List.mem_of_getElem? (i := 856) (by decide +kernel), List.mem_of_getElem? (i := 857) (by decide +kernel)⟩
theorem lw_p87 : lw_okq (⟨"WingCensusModel", "readsClause", "()Z"⟩, 24) := ⟨⟨by decide +kernel, by decide +kernel⟩, List.mem_of_getElem? (i := 753) (by decide +kernel), List.mem_of_getElem? (i := 862) (by decide +kernel), List.mem_of_getElem? (i := 863) (by decide +kernel)⟩
theorem lw_p88 : lw_okq (⟨"WingCensusModel", "fails", "(I)Z"⟩, 24) := ⟨⟨by decide +kernel, by decide +kernel⟩, List.mem_of_getElem? (i := 753) (by decide +kernel), List.mem_of_getElem? (i := 866) (by decide +kernel), List.mem_of_getElem? (i := 867) (by decide +kernel)⟩
theorem lw_p89 : lw_okq (⟨"WingCensusModel", "number", "(III)Z"⟩, 24) := ⟨⟨by decide +kernel, by decide +kernel⟩, List.mem_of_getElem? (i := 753) (by decide +kernel), List.mem_of_getElem? (i := 870) (by decide +kernel), List.mem_of_getElem? (i := 871) (by decide +kernel)⟩
theorem lw_p90 : lw_okq (⟨"WingCensusModel", "ends", "()Z"⟩, 24) := ⟨⟨by decide +kernel, by decide +kernel⟩, List.mem_of_getElem? (i := 753) (by decide +kernel), List.mem_of_getElem? (i := 874) (by decide +kernel), List.mem_of_getElem? (i := 875) (by decide +kernel)⟩
theorem lw_p91 : lw_okq (⟨"WingCensusModel", "readsPerson", "()Z"⟩, 24) := ⟨⟨by decide +kernel, by decide +kernel⟩, List.mem_of_getElem? (i := 753) (by decide +kernel), List.mem_of_getElem? (i := 878) (by decide +kernel), List.mem_of_getElem? (i := 879) (by decide +kernel)⟩
theorem lw_p92 : lw_okq (⟨"WingCensusModel", "readsWind", "()Z"⟩, 24) := ⟨⟨by decide +kernel, by decide +kernel⟩, List.mem_of_getElem? (i := 753) (by decide +kernel), List.mem_of_getElem? (i := 882) (by decide +kernel), List.mem_of_getElem? (i := 883) (by decide +kernel)⟩
theorem lw_p93 : lw_okq (⟨"WingCensusModel", "readsRock", "()Z"⟩, 24) := ⟨⟨by decide +kernel, by decide +kernel⟩, List.mem_of_getElem? (i := 753) (by decide +kernel), List.mem_of_getElem? (i := 886) (by decide +kernel), List.mem_of_getElem? (i := 887) (by decide +kernel)⟩
theorem lw_p94 : lw_okq (⟨"WingCensusModel", "whoLies", "()I"⟩, 24) := ⟨⟨by decide +kernel, by decide +kernel⟩, List.mem_of_getElem? (i := 753) (by decide +kernel), List.mem_of_getElem? (i := 901) (by decide +kernel), List.mem_of_getElem? (i := 902) (by decide +kernel)⟩
theorem lw_p95 : lw_okq (⟨"WingCensusModel", "isLying", "(I)Z"⟩, 24) := ⟨⟨by decide +kernel, by decide +kernel⟩, List.mem_of_getElem? (i := 753) (by decide +kernel), List.mem_of_getElem? (i := 905) (by decide +kernel), List.mem_of_getElem? (i := 906) (by decide +kernel)⟩
def lw_privs_6 : List (MethodName × Nat) := [(⟨"WingCensus", "tallyCells", "(J)V"⟩, 14), (⟨"WingCensus$Notebook", "addEntry", "(I)I"⟩, 5), (⟨"WingCensus$Notebook", "firstOtherThan", "(I)I"⟩, 5), (⟨"WingCensus", "isImage", "(I)Z"⟩, 14), (⟨"WingCensusModel", "begins", "()V"⟩, 24), (⟨"WingCensusModel", "step", "()V"⟩, 24), (⟨"WingCensusModel", "here", "()I"⟩, 24), (⟨"WingCensusModel", "readsClause", "()Z"⟩, 24), (⟨"WingCensusModel", "fails", "(I)Z"⟩, 24), (⟨"WingCensusModel", "number", "(III)Z"⟩, 24), (⟨"WingCensusModel", "ends", "()Z"⟩, 24), (⟨"WingCensusModel", "readsPerson", "()Z"⟩, 24), (⟨"WingCensusModel", "readsWind", "()Z"⟩, 24), (⟨"WingCensusModel", "readsRock", "()Z"⟩, 24), (⟨"WingCensusModel", "whoLies", "()I"⟩, 24), (⟨"WingCensusModel", "isLying", "(I)Z"⟩, 24)]
theorem lw_r6 : ∀ q ∈ lw_privs_6, lw_okq q := List.forall_mem_cons.mpr ⟨lw_p80, List.forall_mem_cons.mpr ⟨lw_p81, List.forall_mem_cons.mpr ⟨lw_p82, List.forall_mem_cons.mpr ⟨lw_p83, List.forall_mem_cons.mpr ⟨lw_p84, List.forall_mem_cons.mpr ⟨lw_p85, List.forall_mem_cons.mpr ⟨lw_p86, List.forall_mem_cons.mpr ⟨lw_p87, List.forall_mem_cons.mpr ⟨lw_p88, List.forall_mem_cons.mpr ⟨lw_p89, List.forall_mem_cons.mpr ⟨lw_p90, List.forall_mem_cons.mpr ⟨lw_p91, List.forall_mem_cons.mpr ⟨lw_p92, List.forall_mem_cons.mpr ⟨lw_p93, List.forall_mem_cons.mpr ⟨lw_p94, List.forall_mem_cons.mpr ⟨lw_p95, fun _ h => absurd h List.not_mem_nil⟩⟩⟩⟩⟩⟩⟩⟩⟩⟩⟩⟩⟩⟩⟩⟩
theorem lw_p96 : lw_okq (⟨"WingCensusModel", "countOn", "([I)I"⟩, 24) := ⟨⟨by decide +kernel, by decide +kernel⟩, List.mem_of_getElem? (i := 753) (by decide +kernel), List.mem_of_getElem? (i := 909) (by decide +kernel), List.mem_of_getElem? (i := 910) (by decide +kernel)⟩
theorem lw_p97 : lw_okq (⟨"WingCensusModel", "dented", "([II)J"⟩, 24) := ⟨⟨by decide +kernel, by decide +kernel⟩, List.mem_of_getElem? (i := 753) (by decide +kernel), List.mem_of_getElem? (i := 913) (by decide +kernel), List.mem_of_getElem? (i := 914) (by decide +kernel)⟩
theorem lw_p98 : lw_okq (⟨"WingCensusModel", "cells", "()I"⟩, 24) := ⟨⟨by decide +kernel, by decide +kernel⟩, List.mem_of_getElem? (i := 753) (by decide +kernel), List.mem_of_getElem? (i := 917) (by decide +kernel), List.mem_of_getElem? (i := 918) (by decide +kernel)⟩
theorem lw_p99 : lw_okq (⟨"WingCensusModel", "group", "(JI)J"⟩, 24) := ⟨⟨by decide +kernel, by decide +kernel⟩, List.mem_of_getElem? (i := 753) (by decide +kernel), List.mem_of_getElem? (i := 927) (by decide +kernel), List.mem_of_getElem? (i := 928) (by decide +kernel)⟩
theorem lw_p100 : lw_okq (⟨"WingCensusModel", "beside", "(II)I"⟩, 24) := ⟨⟨by decide +kernel, by decide +kernel⟩, List.mem_of_getElem? (i := 753) (by decide +kernel), List.mem_of_getElem? (i := 931) (by decide +kernel), List.mem_of_getElem? (i := 932) (by decide +kernel)⟩
theorem lw_p101 : lw_okq (⟨"WingCensusModel", "truly", "()I"⟩, 24) := ⟨⟨by decide +kernel, by decide +kernel⟩, List.mem_of_getElem? (i := 753) (by decide +kernel), List.mem_of_getElem? (i := 942) (by decide +kernel), List.mem_of_getElem? (i := 943) (by decide +kernel)⟩
theorem lw_p102 : lw_okq (⟨"WingCensusModel", "groups", "(I)I"⟩, 24) := ⟨⟨by decide +kernel, by decide +kernel⟩, List.mem_of_getElem? (i := 753) (by decide +kernel), List.mem_of_getElem? (i := 946) (by decide +kernel), List.mem_of_getElem? (i := 947) (by decide +kernel)⟩
theorem lw_p103 : lw_okq (⟨"WingCensusModel", "isShape", "(J)Z"⟩, 24) := ⟨⟨by decide +kernel, by decide +kernel⟩, List.mem_of_getElem? (i := 753) (by decide +kernel), List.mem_of_getElem? (i := 953) (by decide +kernel), List.mem_of_getElem? (i := 954) (by decide +kernel)⟩
theorem lw_p104 : lw_okq (⟨"WingCensusModel", "shape", "(II)J"⟩, 24) := ⟨⟨by decide +kernel, by decide +kernel⟩, List.mem_of_getElem? (i := 753) (by decide +kernel), List.mem_of_getElem? (i := 957) (by decide +kernel), List.mem_of_getElem? (i := 958) (by decide +kernel)⟩
theorem lw_p105 : lw_okq (⟨"WingCensusModel", "farOut", "()I"⟩, 24) := ⟨⟨by decide +kernel, by decide +kernel⟩, List.mem_of_getElem? (i := 753) (by decide +kernel), List.mem_of_getElem? (i := 961) (by decide +kernel), List.mem_of_getElem? (i := 962) (by decide +kernel)⟩
theorem lw_p106 : lw_okq (⟨"WingCensusModel", "steps", "(II)I"⟩, 24) := ⟨⟨by decide +kernel, by decide +kernel⟩, List.mem_of_getElem? (i := 753) (by decide +kernel), List.mem_of_getElem? (i := 966) (by decide +kernel), List.mem_of_getElem? (i := 967) (by decide +kernel)⟩
theorem lw_p107 : lw_okq (⟨"WingCensusModel", "bare", "()I"⟩, 24) := ⟨⟨by decide +kernel, by decide +kernel⟩, List.mem_of_getElem? (i := 753) (by decide +kernel), List.mem_of_getElem? (i := 973) (by decide +kernel), List.mem_of_getElem? (i := 974) (by decide +kernel)⟩
theorem lw_p108 : lw_okq (⟨"WingCensusModel", "layAside", "()V"⟩, 24) := ⟨⟨by decide +kernel, by decide +kernel⟩, List.mem_of_getElem? (i := 753) (by decide +kernel), List.mem_of_getElem? (i := 977) (by decide +kernel), List.mem_of_getElem? (i := 978) (by decide +kernel)⟩
theorem lw_p109 : lw_okq (⟨"WingCensusModel", "nightGoes", "([I)V"⟩, 24) := ⟨⟨by decide +kernel, by decide +kernel⟩, List.mem_of_getElem? (i := 753) (by decide +kernel), List.mem_of_getElem? (i := 981) (by decide +kernel), List.mem_of_getElem? (i := 982) (by decide +kernel)⟩
theorem lw_p110 : lw_okq (⟨"WingCensusModel", "rocks", "()J"⟩, 24) := ⟨⟨by decide +kernel, by decide +kernel⟩, List.mem_of_getElem? (i := 753) (by decide +kernel), List.mem_of_getElem? (i := 985) (by decide +kernel), List.mem_of_getElem? (i := 986) (by decide +kernel)⟩
theorem lw_p111 : lw_okq (⟨"WingCensusModel", "isCell", "(I)Z"⟩, 24) := ⟨⟨by decide +kernel, by decide +kernel⟩, List.mem_of_getElem? (i := 753) (by decide +kernel), List.mem_of_getElem? (i := 993) (by decide +kernel), List.mem_of_getElem? (i := 994) (by decide +kernel)⟩
def lw_privs_7 : List (MethodName × Nat) := [(⟨"WingCensusModel", "countOn", "([I)I"⟩, 24), (⟨"WingCensusModel", "dented", "([II)J"⟩, 24), (⟨"WingCensusModel", "cells", "()I"⟩, 24), (⟨"WingCensusModel", "group", "(JI)J"⟩, 24), (⟨"WingCensusModel", "beside", "(II)I"⟩, 24), (⟨"WingCensusModel", "truly", "()I"⟩, 24), (⟨"WingCensusModel", "groups", "(I)I"⟩, 24), (⟨"WingCensusModel", "isShape", "(J)Z"⟩, 24), (⟨"WingCensusModel", "shape", "(II)J"⟩, 24), (⟨"WingCensusModel", "farOut", "()I"⟩, 24), (⟨"WingCensusModel", "steps", "(II)I"⟩, 24), (⟨"WingCensusModel", "bare", "()I"⟩, 24), (⟨"WingCensusModel", "layAside", "()V"⟩, 24), (⟨"WingCensusModel", "nightGoes", "([I)V"⟩, 24), (⟨"WingCensusModel", "rocks", "()J"⟩, 24), (⟨"WingCensusModel", "isCell", "(I)Z"⟩, 24)]
theorem lw_r7 : ∀ q ∈ lw_privs_7, lw_okq q := List.forall_mem_cons.mpr ⟨lw_p96, List.forall_mem_cons.mpr ⟨lw_p97, List.forall_mem_cons.mpr ⟨lw_p98, List.forall_mem_cons.mpr ⟨lw_p99, List.forall_mem_cons.mpr ⟨lw_p100, List.forall_mem_cons.mpr ⟨lw_p101, List.forall_mem_cons.mpr ⟨lw_p102, List.forall_mem_cons.mpr ⟨lw_p103, List.forall_mem_cons.mpr ⟨lw_p104, List.forall_mem_cons.mpr ⟨lw_p105, List.forall_mem_cons.mpr ⟨lw_p106, List.forall_mem_cons.mpr ⟨lw_p107, List.forall_mem_cons.mpr ⟨lw_p108, List.forall_mem_cons.mpr ⟨lw_p109, List.forall_mem_cons.mpr ⟨lw_p110, List.forall_mem_cons.mpr ⟨lw_p111, fun _ h => absurd h List.not_mem_nil⟩⟩⟩⟩⟩⟩⟩⟩⟩⟩⟩⟩⟩⟩⟩⟩
theorem lw_p112 : lw_okq (⟨"WingCensusModel", "isRock", "(I)Z"⟩, 24) := ⟨⟨by decide +kernel, by decide +kernel⟩, List.mem_of_getElem? (i := 753) (by decide +kernel), List.mem_of_getElem? (i := 998) (by decide +kernel), List.mem_of_getElem? (i := 999) (by decide +kernel)⟩
theorem lw_p113 : lw_okq (⟨"WingCensusModel", "whoIsAt", "(I)I"⟩, 24) := ⟨⟨by decide +kernel, by decide +kernel⟩, List.mem_of_getElem? (i := 753) (by decide +kernel), List.mem_of_getElem? (i := 1002) (by decide +kernel), List.mem_of_getElem? (i := 1003) (by decide +kernel)⟩
theorem lw_p114 : lw_okq (⟨"WingCensusModel", "isPerson", "(I)Z"⟩, 24) := ⟨⟨by decide +kernel, by decide +kernel⟩, List.mem_of_getElem? (i := 753) (by decide +kernel), List.mem_of_getElem? (i := 1010) (by decide +kernel), List.mem_of_getElem? (i := 1011) (by decide +kernel)⟩
theorem lw_p115 : lw_okq (⟨"WingCensusModel", "shapeOf", "(I)J"⟩, 24) := ⟨⟨by decide +kernel, by decide +kernel⟩, List.mem_of_getElem? (i := 753) (by decide +kernel), List.mem_of_getElem? (i := 1014) (by decide +kernel), List.mem_of_getElem? (i := 1015) (by decide +kernel)⟩
theorem lw_p116 : lw_okq (⟨"WingCensusModel", "mayLie", "([III)Z"⟩, 24) := ⟨⟨by decide +kernel, by decide +kernel⟩, List.mem_of_getElem? (i := 753) (by decide +kernel), List.mem_of_getElem? (i := 1022) (by decide +kernel), List.mem_of_getElem? (i := 1023) (by decide +kernel)⟩
theorem lw_p117 : lw_okq (⟨"WingCensusModel", "remember", "()V"⟩, 24) := ⟨⟨by decide +kernel, by decide +kernel⟩, List.mem_of_getElem? (i := 753) (by decide +kernel), List.mem_of_getElem? (i := 1027) (by decide +kernel), List.mem_of_getElem? (i := 1028) (by decide +kernel)⟩
theorem lw_p118 : lw_okq (⟨"WingCensusModel", "lies", "([III)V"⟩, 24) := ⟨⟨by decide +kernel, by decide +kernel⟩, List.mem_of_getElem? (i := 753) (by decide +kernel), List.mem_of_getElem? (i := 1031) (by decide +kernel), List.mem_of_getElem? (i := 1032) (by decide +kernel)⟩
theorem lw_p119 : lw_okq (⟨"WingCensusModel", "dents", "([IJI)V"⟩, 24) := ⟨⟨by decide +kernel, by decide +kernel⟩, List.mem_of_getElem? (i := 753) (by decide +kernel), List.mem_of_getElem? (i := 1035) (by decide +kernel), List.mem_of_getElem? (i := 1036) (by decide +kernel)⟩
theorem lw_p120 : lw_okq (⟨"WingCensusModel", "refuses", "(I)I"⟩, 24) := ⟨⟨by decide +kernel, by decide +kernel⟩, List.mem_of_getElem? (i := 753) (by decide +kernel), List.mem_of_getElem? (i := 1047) (by decide +kernel), List.mem_of_getElem? (i := 1048) (by decide +kernel)⟩
theorem lw_p121 : lw_okq (⟨"WingCensusModel", "snows", "()V"⟩, 24) := ⟨⟨by decide +kernel, by decide +kernel⟩, List.mem_of_getElem? (i := 753) (by decide +kernel), List.mem_of_getElem? (i := 1060) (by decide +kernel), List.mem_of_getElem? (i := 1061) (by decide +kernel)⟩
theorem lw_p122 : lw_okq (⟨"WingCensusModel", "runs", "(I)V"⟩, 24) := ⟨⟨by decide +kernel, by decide +kernel⟩, List.mem_of_getElem? (i := 753) (by decide +kernel), List.mem_of_getElem? (i := 1068) (by decide +kernel), List.mem_of_getElem? (i := 1069) (by decide +kernel)⟩
theorem lw_p123 : lw_okq (⟨"WingCensusModel", "draws", "()V"⟩, 24) := ⟨⟨by decide +kernel, by decide +kernel⟩, List.mem_of_getElem? (i := 753) (by decide +kernel), List.mem_of_getElem? (i := 1085) (by decide +kernel), List.mem_of_getElem? (i := 1086) (by decide +kernel)⟩
theorem lw_p124 : lw_okq (⟨"WingCensusModel", "draw", "(I)I"⟩, 24) := ⟨⟨by decide +kernel, by decide +kernel⟩, List.mem_of_getElem? (i := 753) (by decide +kernel), List.mem_of_getElem? (i := 1089) (by decide +kernel), List.mem_of_getElem? (i := 1090) (by decide +kernel)⟩
theorem lw_p125 : lw_okq (⟨"WingCensusModel", "nextOrder", "(I)Z"⟩, 24) := ⟨⟨by decide +kernel, by decide +kernel⟩, List.mem_of_getElem? (i := 753) (by decide +kernel), List.mem_of_getElem? (i := 1127) (by decide +kernel), List.mem_of_getElem? (i := 1128) (by decide +kernel)⟩
theorem lw_p126 : lw_okq (⟨"WingCensusModel", "isBy", "(JJ)Z"⟩, 24) := ⟨⟨by decide +kernel, by decide +kernel⟩, List.mem_of_getElem? (i := 753) (by decide +kernel), List.mem_of_getElem? (i := 1135) (by decide +kernel), List.mem_of_getElem? (i := 1136) (by decide +kernel)⟩
theorem lw_p127 : lw_okq (⟨"WingCensusModel", "isSo", "(II)Z"⟩, 24) := ⟨⟨by decide +kernel, by decide +kernel⟩, List.mem_of_getElem? (i := 753) (by decide +kernel), List.mem_of_getElem? (i := 1155) (by decide +kernel), List.mem_of_getElem? (i := 1156) (by decide +kernel)⟩
def lw_privs_8 : List (MethodName × Nat) := [(⟨"WingCensusModel", "isRock", "(I)Z"⟩, 24), (⟨"WingCensusModel", "whoIsAt", "(I)I"⟩, 24), (⟨"WingCensusModel", "isPerson", "(I)Z"⟩, 24), (⟨"WingCensusModel", "shapeOf", "(I)J"⟩, 24), (⟨"WingCensusModel", "mayLie", "([III)Z"⟩, 24), (⟨"WingCensusModel", "remember", "()V"⟩, 24), (⟨"WingCensusModel", "lies", "([III)V"⟩, 24), (⟨"WingCensusModel", "dents", "([IJI)V"⟩, 24), (⟨"WingCensusModel", "refuses", "(I)I"⟩, 24), (⟨"WingCensusModel", "snows", "()V"⟩, 24), (⟨"WingCensusModel", "runs", "(I)V"⟩, 24), (⟨"WingCensusModel", "draws", "()V"⟩, 24), (⟨"WingCensusModel", "draw", "(I)I"⟩, 24), (⟨"WingCensusModel", "nextOrder", "(I)Z"⟩, 24), (⟨"WingCensusModel", "isBy", "(JJ)Z"⟩, 24), (⟨"WingCensusModel", "isSo", "(II)Z"⟩, 24)]
theorem lw_r8 : ∀ q ∈ lw_privs_8, lw_okq q := List.forall_mem_cons.mpr ⟨lw_p112, List.forall_mem_cons.mpr ⟨lw_p113, List.forall_mem_cons.mpr ⟨lw_p114, List.forall_mem_cons.mpr ⟨lw_p115, List.forall_mem_cons.mpr ⟨lw_p116, List.forall_mem_cons.mpr ⟨lw_p117, List.forall_mem_cons.mpr ⟨lw_p118, List.forall_mem_cons.mpr ⟨lw_p119, List.forall_mem_cons.mpr ⟨lw_p120, List.forall_mem_cons.mpr ⟨lw_p121, List.forall_mem_cons.mpr ⟨lw_p122, List.forall_mem_cons.mpr ⟨lw_p123, List.forall_mem_cons.mpr ⟨lw_p124, List.forall_mem_cons.mpr ⟨lw_p125, List.forall_mem_cons.mpr ⟨lw_p126, List.forall_mem_cons.mpr ⟨lw_p127, fun _ h => absurd h List.not_mem_nil⟩⟩⟩⟩⟩⟩⟩⟩⟩⟩⟩⟩⟩⟩⟩⟩
def lw_privs : List (MethodName × Nat) := lw_privs_1 ++ (lw_privs_2 ++ (lw_privs_3 ++ (lw_privs_4 ++ (lw_privs_5 ++ (lw_privs_6 ++ (lw_privs_7 ++ (lw_privs_8)))))))
def lw_tbl : List Cond := k2_sels lw_privs ++ tables_1
theorem lw_privs_ok : ∀ q ∈ lw_privs, lw_okq q := by
  show ∀ q ∈ lw_privs_1 ++ (lw_privs_2 ++ (lw_privs_3 ++ (lw_privs_4 ++ (lw_privs_5 ++ (lw_privs_6 ++ (lw_privs_7 ++ (lw_privs_8))))))), lw_okq q
  exact List.forall_mem_append.mpr ⟨lw_r1, List.forall_mem_append.mpr ⟨lw_r2, List.forall_mem_append.mpr ⟨lw_r3, List.forall_mem_append.mpr ⟨lw_r4, List.forall_mem_append.mpr ⟨lw_r5, List.forall_mem_append.mpr ⟨lw_r6, List.forall_mem_append.mpr ⟨lw_r7, lw_r8⟩⟩⟩⟩⟩⟩⟩
end
section
/-! names of the program: its own, by program out of the claim -/
def RX0 : String := "WingCensus$Field"
def RX1 : String := "WingCensus$Land"
def RX2 : String := "WingCensus$Notebook"
def RX3 : String := "WingCensus$Reader"
def RX4 : String := "WingCensus$Shelf"
def RX5 : String := "WingCensus"
def RX6 : String := "WingCensusModel"
def RJ6 : String := "java/lang/Integer"
def RJ13 : String := "java/lang/Long"
def RJ9 : String := "java/lang/Math"
def RJ10 : String := "java/lang/System"
def RJ7 : String := "java/util/Arrays"
def RL : String := "WingCensusLaw"
def TX0 : u_T := fun k => match k with
  | 0 => ("WingCensus$Field", "dents", "[I", true)
  | 1 => ("WingCensus$Field", "at", "[I", true)
  | 2 => ("WingCensus$Field", "wind", "I", false)
  | _ => ("WingCensus$Field", "nights", "I", false)
def tyX0 : Nat → FieldType := fun k => match k with
  | 0 => .array .int
  | 1 => .array .int
  | 2 => .int
  | _ => .int
theorem nmX0 : ∀ a, a < 4 → ∀ b, b < 4 → a ≠ b → (TX0 a).2.1 ≠ (TX0 b).2.1 := by decide +kernel
theorem tyX0_ok : ∀ k, k < 4 → parseFieldDescriptor (TX0 k).2.2.1 = some (tyX0 k) := by decide +kernel
theorem inX0 : ∀ w ∈ u_ws RX0 TX0 4, w ∈ lw_tbl := by decide +kernel
theorem itX0 : Cond.instantiable RX0 4 ∈ lw_tbl := by decide +kernel
theorem iniX0 : Cond.initialized RX0 ∈ lw_tbl := by decide +kernel
def TX1 : u_T := fun k => match k with
  | 0 => ("WingCensus$Land", "across", "I", false)
  | 1 => ("WingCensus$Land", "down", "I", false)
  | 2 => ("WingCensus$Land", "people", "I", false)
  | 3 => ("WingCensus$Land", "toldWind", "I", false)
  | 4 => ("WingCensus$Land", "all", "J", false)
  | 5 => ("WingCensus$Land", "leftEdge", "J", false)
  | 6 => ("WingCensus$Land", "rightEdge", "J", false)
  | 7 => ("WingCensus$Land", "rocks", "J", false)
  | 8 => ("WingCensus$Land", "kinds", "[I", true)
  | _ => ("WingCensus$Land", "shapes", "[J", true)
def tyX1 : Nat → FieldType := fun k => match k with
  | 0 => .int
  | 1 => .int
  | 2 => .int
  | 3 => .int
  | 4 => .long
  | 5 => .long
  | 6 => .long
  | 7 => .long
  | 8 => .array .int
  | _ => .array .long
theorem nmX1 : ∀ a, a < 10 → ∀ b, b < 10 → a ≠ b → (TX1 a).2.1 ≠ (TX1 b).2.1 := by decide +kernel
theorem tyX1_ok : ∀ k, k < 10 → parseFieldDescriptor (TX1 k).2.2.1 = some (tyX1 k) := by decide +kernel
theorem inX1 : ∀ w ∈ u_ws RX1 TX1 10, w ∈ lw_tbl := by decide +kernel
theorem itX1 : Cond.instantiable RX1 10 ∈ lw_tbl := by decide +kernel
theorem iniX1 : Cond.initialized RX1 ∈ lw_tbl := by decide +kernel
def TX2 : u_T := fun k => match k with
  | 0 => ("WingCensus$Notebook", "foundCells", "[I", true)
  | 1 => ("WingCensus$Notebook", "foundDented", "[Z", true)
  | 2 => ("WingCensus$Notebook", "entries", "[I", true)
  | 3 => ("WingCensus$Notebook", "found", "I", false)
  | _ => ("WingCensus$Notebook", "written", "I", false)
def tyX2 : Nat → FieldType := fun k => match k with
  | 0 => .array .int
  | 1 => .array .boolean
  | 2 => .array .int
  | 3 => .int
  | _ => .int
theorem nmX2 : ∀ a, a < 5 → ∀ b, b < 5 → a ≠ b → (TX2 a).2.1 ≠ (TX2 b).2.1 := by decide +kernel
theorem tyX2_ok : ∀ k, k < 5 → parseFieldDescriptor (TX2 k).2.2.1 = some (tyX2 k) := by decide +kernel
theorem inX2 : ∀ w ∈ u_ws RX2 TX2 5, w ∈ lw_tbl := by decide +kernel
theorem itX2 : Cond.instantiable RX2 5 ∈ lw_tbl := by decide +kernel
theorem iniX2 : Cond.initialized RX2 ∈ lw_tbl := by decide +kernel
def TX3 : u_T := fun k => match k with
  | 0 => ("WingCensus$Reader", "letters", "[I", true)
  | 1 => ("WingCensus$Reader", "length", "I", false)
  | 2 => ("WingCensus$Reader", "faultNumber", "I", false)
  | 3 => ("WingCensus$Reader", "faultPlace", "I", false)
  | 4 => ("WingCensus$Reader", "place", "I", false)
  | 5 => ("WingCensus$Reader", "numberPlace", "I", false)
  | _ => ("WingCensus$Reader", "windIsTold", "Z", false)
def tyX3 : Nat → FieldType := fun k => match k with
  | 0 => .array .int
  | 1 => .int
  | 2 => .int
  | 3 => .int
  | 4 => .int
  | 5 => .int
  | _ => .boolean
theorem nmX3 : ∀ a, a < 7 → ∀ b, b < 7 → a ≠ b → (TX3 a).2.1 ≠ (TX3 b).2.1 := by decide +kernel
theorem tyX3_ok : ∀ k, k < 7 → parseFieldDescriptor (TX3 k).2.2.1 = some (tyX3 k) := by decide +kernel
theorem inX3 : ∀ w ∈ u_ws RX3 TX3 7, w ∈ lw_tbl := by decide +kernel
theorem itX3 : Cond.instantiable RX3 7 ∈ lw_tbl := by decide +kernel
theorem iniX3 : Cond.initialized RX3 ∈ lw_tbl := by decide +kernel
def TX4 : u_T := fun k => match k with
  | 0 => ("WingCensus$Shelf", "places", "I", true)
  | _ => ("WingCensus$Shelf", "rows", "[I", true)
def tyX4 : Nat → FieldType := fun k => match k with
  | 0 => .int
  | _ => .array .int
theorem nmX4 : ∀ a, a < 2 → ∀ b, b < 2 → a ≠ b → (TX4 a).2.1 ≠ (TX4 b).2.1 := by decide +kernel
theorem tyX4_ok : ∀ k, k < 2 → parseFieldDescriptor (TX4 k).2.2.1 = some (tyX4 k) := by decide +kernel
theorem inX4 : ∀ w ∈ u_ws RX4 TX4 2, w ∈ lw_tbl := by decide +kernel
theorem itX4 : Cond.instantiable RX4 2 ∈ lw_tbl := by decide +kernel
theorem iniX4 : Cond.initialized RX4 ∈ lw_tbl := by decide +kernel
def TX5 : u_T := fun k => match k with
  | 0 => ("WingCensus", "text", "LWingCensus$Reader;", true)
  | 1 => ("WingCensus", "land", "LWingCensus$Land;", false)
  | 2 => ("WingCensus", "draft", "LWingCensus$Land;", false)
  | 3 => ("WingCensus", "now", "LWingCensus$Field;", true)
  | 4 => ("WingCensus", "tried", "LWingCensus$Field;", true)
  | 5 => ("WingCensus", "deeds", "LWingCensus$Shelf;", true)
  | 6 => ("WingCensus", "firstDeed", "I", false)
  | 7 => ("WingCensus", "deedCount", "I", false)
  | 8 => ("WingCensus", "images", "LWingCensus$Shelf;", true)
  | 9 => ("WingCensus", "imageSeeds", "[I", true)
  | 10 => ("WingCensus", "imageKept", "[Z", true)
  | 11 => ("WingCensus", "notes", "LWingCensus$Notebook;", true)
  | 12 => ("WingCensus", "tally", "[I", true)
  | _ => ("WingCensus", "theSeed", "I", false)
def tyX5 : Nat → FieldType := fun k => match k with
  | 0 => .object "WingCensus$Reader"
  | 1 => .object "WingCensus$Land"
  | 2 => .object "WingCensus$Land"
  | 3 => .object "WingCensus$Field"
  | 4 => .object "WingCensus$Field"
  | 5 => .object "WingCensus$Shelf"
  | 6 => .int
  | 7 => .int
  | 8 => .object "WingCensus$Shelf"
  | 9 => .array .int
  | 10 => .array .boolean
  | 11 => .object "WingCensus$Notebook"
  | 12 => .array .int
  | _ => .int
theorem nmX5 : ∀ a, a < 14 → ∀ b, b < 14 → a ≠ b → (TX5 a).2.1 ≠ (TX5 b).2.1 := by decide +kernel
theorem tyX5_ok : ∀ k, k < 14 → parseFieldDescriptor (TX5 k).2.2.1 = some (tyX5 k) := by decide +kernel
theorem inX5 : ∀ w ∈ u_ws RX5 TX5 14, w ∈ lw_tbl := by decide +kernel
theorem itX5 : Cond.instantiable RX5 14 ∈ lw_tbl := by decide +kernel
theorem iniX5 : Cond.initialized RX5 ∈ lw_tbl := by decide +kernel
def TX6 : u_T := fun k => match k with
  | 0 => ("WingCensusModel", "north", "[I", true)
  | 1 => ("WingCensusModel", "read", "[I", true)
  | 2 => ("WingCensusModel", "now", "[I", true)
  | 3 => ("WingCensusModel", "aside", "[I", true)
  | 4 => ("WingCensusModel", "ahead", "[I", true)
  | 5 => ("WingCensusModel", "past", "[I", true)
  | 6 => ("WingCensusModel", "undos", "I", false)
  | 7 => ("WingCensusModel", "images", "[I", true)
  | 8 => ("WingCensusModel", "kept", "[Z", true)
  | 9 => ("WingCensusModel", "seed", "J", false)
  | 10 => ("WingCensusModel", "text", "[I", true)
  | 11 => ("WingCensusModel", "size", "I", false)
  | 12 => ("WingCensusModel", "fault", "I", false)
  | 13 => ("WingCensusModel", "found", "[I", true)
  | 14 => ("WingCensusModel", "foundMany", "I", false)
  | 15 => ("WingCensusModel", "book", "[I", true)
  | 16 => ("WingCensusModel", "bookMany", "I", false)
  | 17 => ("WingCensusModel", "at", "I", false)
  | 18 => ("WingCensusModel", "begin", "I", false)
  | 19 => ("WingCensusModel", "sign", "I", false)
  | 20 => ("WingCensusModel", "figures", "I", false)
  | 21 => ("WingCensusModel", "value", "I", false)
  | 22 => ("WingCensusModel", "wrong", "I", false)
  | _ => ("WingCensusModel", "row", "[I", true)
def tyX6 : Nat → FieldType := fun k => match k with
  | 0 => .array .int
  | 1 => .array .int
  | 2 => .array .int
  | 3 => .array .int
  | 4 => .array .int
  | 5 => .array .int
  | 6 => .int
  | 7 => .array .int
  | 8 => .array .boolean
  | 9 => .long
  | 10 => .array .int
  | 11 => .int
  | 12 => .int
  | 13 => .array .int
  | 14 => .int
  | 15 => .array .int
  | 16 => .int
  | 17 => .int
  | 18 => .int
  | 19 => .int
  | 20 => .int
  | 21 => .int
  | 22 => .int
  | _ => .array .int
theorem nmX6 : ∀ a, a < 24 → ∀ b, b < 24 → a ≠ b → (TX6 a).2.1 ≠ (TX6 b).2.1 := by decide +kernel
theorem tyX6_ok : ∀ k, k < 24 → parseFieldDescriptor (TX6 k).2.2.1 = some (tyX6 k) := by decide +kernel
theorem inX6 : ∀ w ∈ u_ws RX6 TX6 24, w ∈ lw_tbl := by decide +kernel
theorem itX6 : Cond.instantiable RX6 24 ∈ lw_tbl := by decide +kernel
theorem iniX6 : Cond.initialized RX6 ∈ lw_tbl := by decide +kernel
abbrev classes : List vw_C := [(RX0, TX0, 4), (RX1, TX1, 10), (RX2, TX2, 5), (RX3, TX3, 7), (RX4, TX4, 2), (RX5, TX5, 14), (RX6, TX6, 24)]
def fty (ci k : Nat) : FieldType := match ci with
  | 0 => tyX0 k
  | 1 => tyX1 k
  | 2 => tyX2 k
  | 3 => tyX3 k
  | 4 => tyX4 k
  | 5 => tyX5 k
  | _ => tyX6 k
def nfs (ci : Nat) : Nat := match ci with
  | 0 => 4
  | 1 => 10
  | 2 => 5
  | 3 => 7
  | 4 => 2
  | 5 => 14
  | _ => 24
def dflt (ci : Nat) : List Value := match ci with
  | 0 => [.null, .null, .int 0, .int 0]
  | 1 => [.int 0, .int 0, .int 0, .int 0, .long 0, .long 0, .long 0, .long 0, .null, .null]
  | 2 => [.null, .null, .null, .int 0, .int 0]
  | 3 => [.null, .int 0, .int 0, .int 0, .int 0, .int 0, .int 0]
  | 4 => [.int 0, .null]
  | 5 => [.null, .null, .null, .null, .null, .null, .int 0, .int 0, .null, .null, .null, .null, .null, .int 0]
  | _ => [.null, .null, .null, .null, .null, .null, .int 0, .null, .null, .long 0, .null, .int 0, .int 0, .null, .int 0, .null, .int 0, .int 0, .int 0, .int 0, .int 0, .int 0, .int 0, .null]
def own (o : Nat) : String := match o with
  | 0 => RX0
  | 1 => RX1
  | 2 => RX2
  | 3 => RX3
  | 4 => RX4
  | 5 => RX5
  | 6 => RX6
  | 7 => RL
  | 8 => RJ6
  | 9 => RJ13
  | 10 => RJ9
  | _ => RJ7
def y_F_init : MethodName := ⟨RX0, "<init>", "()V"⟩
abbrev m_F_init : Nat := 0
def y_F_begin : MethodName := ⟨RX0, "begin", "(I)V"⟩
abbrev m_F_begin : Nat := 1
def y_F_become : MethodName := ⟨RX0, "become", "(LWingCensus$Field;)V"⟩
abbrev m_F_become : Nat := 2
def y_F_dented : MethodName := ⟨RX0, "dented", "()J"⟩
abbrev m_F_dented : Nat := 3
def y_F_seen : MethodName := ⟨RX0, "seen", "()J"⟩
abbrev m_F_seen : Nat := 4
def y_F_dentedFrom : MethodName := ⟨RX0, "dentedFrom", "(I)J"⟩
abbrev m_F_dentedFrom : Nat := 5
def y_F_press : MethodName := ⟨RX0, "press", "(J)V"⟩
abbrev m_F_press : Nat := 6
def y_F_passNight : MethodName := ⟨RX0, "passNight", "(LWingCensus$Land;)V"⟩
abbrev m_F_passNight : Nat := 7
def y_F_melt : MethodName := ⟨RX0, "melt", "()V"⟩
abbrev m_F_melt : Nat := 8
def y_F_snowOver : MethodName := ⟨RX0, "snowOver", "()V"⟩
abbrev m_F_snowOver : Nat := 9
def y_F_cross : MethodName := ⟨RX0, "cross", "(I)V"⟩
abbrev m_F_cross : Nat := 10
def y_F_roll : MethodName := ⟨RX0, "roll", "(J)V"⟩
abbrev m_F_roll : Nat := 11
def y_L_init : MethodName := ⟨RX1, "<init>", "()V"⟩
abbrev m_L_init : Nat := 12
def y_L_clear : MethodName := ⟨RX1, "clear", "()V"⟩
abbrev m_L_clear : Nat := 13
def y_L_measure : MethodName := ⟨RX1, "measure", "(II)V"⟩
abbrev m_L_measure : Nat := 14
def y_L_cells : MethodName := ⟨RX1, "cells", "()I"⟩
abbrev m_L_cells : Nat := 15
def y_L_isRock : MethodName := ⟨RX1, "isRock", "(I)Z"⟩
abbrev m_L_isRock : Nat := 16
def y_L_row : MethodName := ⟨RX1, "row", "(I)J"⟩
abbrev m_L_row : Nat := 17
def y_L_moved : MethodName := ⟨RX1, "moved", "(JI)J"⟩
abbrev m_L_moved : Nat := 18
def y_L_grown : MethodName := ⟨RX1, "grown", "(J)J"⟩
abbrev m_L_grown : Nat := 19
def y_L_steps : MethodName := ⟨RX1, "steps", "(II)I"⟩
abbrev m_L_steps : Nat := 20
def y_L_shape : MethodName := ⟨RX1, "shape", "(II)J"⟩
abbrev m_L_shape : Nat := 21
def y_L_drawShapes : MethodName := ⟨RX1, "drawShapes", "()V"⟩
abbrev m_L_drawShapes : Nat := 22
def y_L_drawnShape : MethodName := ⟨RX1, "drawnShape", "(II)J"⟩
abbrev m_L_drawnShape : Nat := 23
def y_L_groupOf : MethodName := ⟨RX1, "groupOf", "(JJ)J"⟩
abbrev m_L_groupOf : Nat := 24
def y_L_firstGroup : MethodName := ⟨RX1, "firstGroup", "(J)J"⟩
abbrev m_L_firstGroup : Nat := 25
def y_L_groupsIn : MethodName := ⟨RX1, "groupsIn", "(J)I"⟩
abbrev m_L_groupsIn : Nat := 26
def y_L_countOf : MethodName := ⟨RX1, "countOf", "(J)I"⟩
abbrev m_L_countOf : Nat := 27
def y_L_countedAs : MethodName := ⟨RX1, "countedAs", "(I)I"⟩
abbrev m_L_countedAs : Nat := 28
def y_L_greatestIn : MethodName := ⟨RX1, "greatestIn", "(J)I"⟩
abbrev m_L_greatestIn : Nat := 29
def y_L_forgedIn : MethodName := ⟨RX1, "forgedIn", "(J)I"⟩
abbrev m_L_forgedIn : Nat := 30
def y_L_isShape : MethodName := ⟨RX1, "isShape", "(J)Z"⟩
abbrev m_L_isShape : Nat := 31
def y_N_init : MethodName := ⟨RX2, "<init>", "()V"⟩
abbrev m_N_init : Nat := 32
def y_N_empty : MethodName := ⟨RX2, "empty", "()V"⟩
abbrev m_N_empty : Nat := 33
def y_N_addFound : MethodName := ⟨RX2, "addFound", "(IZ)I"⟩
abbrev m_N_addFound : Nat := 34
def y_N_agreesWith : MethodName := ⟨RX2, "agreesWith", "(J)Z"⟩
abbrev m_N_agreesWith : Nat := 35
def y_N_addEntry : MethodName := ⟨RX2, "addEntry", "(I)I"⟩
abbrev m_N_addEntry : Nat := 36
def y_N_firstOtherThan : MethodName := ⟨RX2, "firstOtherThan", "(I)I"⟩
abbrev m_N_firstOtherThan : Nat := 37
def y_R_init : MethodName := ⟨RX3, "<init>", "()V"⟩
abbrev m_R_init : Nat := 38
def y_R_add : MethodName := ⟨RX3, "add", "(I)I"⟩
abbrev m_R_add : Nat := 39
def y_R_readInto : MethodName := ⟨RX3, "readInto", "(LWingCensus$Land;)V"⟩
abbrev m_R_readInto : Nat := 40
def y_R_complain : MethodName := ⟨RX3, "complain", "(II)V"⟩
abbrev m_R_complain : Nat := 41
def y_R_skipBlanks : MethodName := ⟨RX3, "skipBlanks", "()V"⟩
abbrev m_R_skipBlanks : Nat := 42
def y_R_atFigure : MethodName := ⟨RX3, "atFigure", "()Z"⟩
abbrev m_R_atFigure : Nat := 43
def y_R_readClause : MethodName := ⟨RX3, "readClause", "(LWingCensus$Land;)V"⟩
abbrev m_R_readClause : Nat := 44
def y_R_readEnd : MethodName := ⟨RX3, "readEnd", "()V"⟩
abbrev m_R_readEnd : Nat := 45
def y_R_readNumber : MethodName := ⟨RX3, "readNumber", "(II)I"⟩
abbrev m_R_readNumber : Nat := 46
def y_R_readSides : MethodName := ⟨RX3, "readSides", "(LWingCensus$Land;)V"⟩
abbrev m_R_readSides : Nat := 47
def y_R_readPerson : MethodName := ⟨RX3, "readPerson", "(LWingCensus$Land;)V"⟩
abbrev m_R_readPerson : Nat := 48
def y_R_readWind : MethodName := ⟨RX3, "readWind", "(LWingCensus$Land;)V"⟩
abbrev m_R_readWind : Nat := 49
def y_R_readRock : MethodName := ⟨RX3, "readRock", "(LWingCensus$Land;)V"⟩
abbrev m_R_readRock : Nat := 50
def y_R_addRock : MethodName := ⟨RX3, "addRock", "(LWingCensus$Land;J)V"⟩
abbrev m_R_addRock : Nat := 51
def y_S_init : MethodName := ⟨RX4, "<init>", "(I)V"⟩
abbrev m_S_init : Nat := 52
def y_S_put : MethodName := ⟨RX4, "put", "(ILWingCensus$Field;)V"⟩
abbrev m_S_put : Nat := 53
def y_S_take : MethodName := ⟨RX4, "take", "(ILWingCensus$Field;)V"⟩
abbrev m_S_take : Nat := 54
def y_C_init : MethodName := ⟨RX5, "<init>", "()V"⟩
abbrev m_C_init : Nat := 55
def y_C_feed : MethodName := ⟨RX5, "feed", "(I)I"⟩
abbrev m_C_feed : Nat := 56
def y_C_north : MethodName := ⟨RX5, "north", "()I"⟩
abbrev m_C_north : Nat := 57
def y_C_fault : MethodName := ⟨RX5, "fault", "()I"⟩
abbrev m_C_fault : Nat := 58
def y_C_told : MethodName := ⟨RX5, "told", "(I)I"⟩
abbrev m_C_told : Nat := 59
def y_C_cell : MethodName := ⟨RX5, "cell", "(II)I"⟩
abbrev m_C_cell : Nat := 60
def y_C_person : MethodName := ⟨RX5, "person", "(II)I"⟩
abbrev m_C_person : Nat := 61
def y_C_lie : MethodName := ⟨RX5, "lie", "(II)I"⟩
abbrev m_C_lie : Nat := 62
def y_C_rise : MethodName := ⟨RX5, "rise", "(I)I"⟩
abbrev m_C_rise : Nat := 63
def y_C_night : MethodName := ⟨RX5, "night", "(I)I"⟩
abbrev m_C_night : Nat := 64
def y_C_thaw : MethodName := ⟨RX5, "thaw", "()I"⟩
abbrev m_C_thaw : Nat := 65
def y_C_snow : MethodName := ⟨RX5, "snow", "()I"⟩
abbrev m_C_snow : Nat := 66
def y_C_hare : MethodName := ⟨RX5, "hare", "(I)I"⟩
abbrev m_C_hare : Nat := 67
def y_C_pin : MethodName := ⟨RX5, "pin", "(I)I"⟩
abbrev m_C_pin : Nat := 68
def y_C_wind : MethodName := ⟨RX5, "wind", "(I)I"⟩
abbrev m_C_wind : Nat := 69
def y_C_drift : MethodName := ⟨RX5, "drift", "(I)I"⟩
abbrev m_C_drift : Nat := 70
def y_C_undo : MethodName := ⟨RX5, "undo", "(I)I"⟩
abbrev m_C_undo : Nat := 71
def y_C_left : MethodName := ⟨RX5, "left", "(II)I"⟩
abbrev m_C_left : Nat := 72
def y_C_willCount : MethodName := ⟨RX5, "willCount", "(I)I"⟩
abbrev m_C_willCount : Nat := 73
def y_C_wrongFirst : MethodName := ⟨RX5, "wrongFirst", "()I"⟩
abbrev m_C_wrongFirst : Nat := 74
def y_C_canLie : MethodName := ⟨RX5, "canLie", "(II)I"⟩
abbrev m_C_canLie : Nat := 75
def y_C_round : MethodName := ⟨RX5, "round", "(III)I"⟩
abbrev m_C_round : Nat := 76
def y_C_touch : MethodName := ⟨RX5, "touch", "(I)I"⟩
abbrev m_C_touch : Nat := 77
def y_C_still : MethodName := ⟨RX5, "still", "(II)I"⟩
abbrev m_C_still : Nat := 78
def y_C_find : MethodName := ⟨RX5, "find", "(IZ)I"⟩
abbrev m_C_find : Nat := 79
def y_C_fits : MethodName := ⟨RX5, "fits", "(I)I"⟩
abbrev m_C_fits : Nat := 80
def y_C_look : MethodName := ⟨RX5, "look", "()I"⟩
abbrev m_C_look : Nat := 81
def y_C_write : MethodName := ⟨RX5, "write", "(I)I"⟩
abbrev m_C_write : Nat := 82
def y_C_judge : MethodName := ⟨RX5, "judge", "()I"⟩
abbrev m_C_judge : Nat := 83
def y_C_tear : MethodName := ⟨RX5, "tear", "()I"⟩
abbrev m_C_tear : Nat := 84
def y_C_seed : MethodName := ⟨RX5, "seed", "(I)I"⟩
abbrev m_C_seed : Nat := 85
def y_C_keep : MethodName := ⟨RX5, "keep", "(I)I"⟩
abbrev m_C_keep : Nat := 86
def y_C_goBack : MethodName := ⟨RX5, "goBack", "(I)I"⟩
abbrev m_C_goBack : Nat := 87
def y_C_has : MethodName := ⟨RX5, "has", "(JI)Z"⟩
abbrev m_C_has : Nat := 88
def y_C_leastOf : MethodName := ⟨RX5, "leastOf", "(J)I"⟩
abbrev m_C_leastOf : Nat := 89
def y_C_hasNorth : MethodName := ⟨RX5, "hasNorth", "()Z"⟩
abbrev m_C_hasNorth : Nat := 90
def y_C_isCell : MethodName := ⟨RX5, "isCell", "(I)Z"⟩
abbrev m_C_isCell : Nat := 91
def y_C_isPerson : MethodName := ⟨RX5, "isPerson", "(I)Z"⟩
abbrev m_C_isPerson : Nat := 92
def y_C_isImage : MethodName := ⟨RX5, "isImage", "(I)Z"⟩
abbrev m_C_isImage : Nat := 93
def y_C_everybody : MethodName := ⟨RX5, "everybody", "()I"⟩
abbrev m_C_everybody : Nat := 94
def y_C_whoLies : MethodName := ⟨RX5, "whoLies", "()I"⟩
abbrev m_C_whoLies : Nat := 95
def y_C_whoIsAt : MethodName := ⟨RX5, "whoIsAt", "(I)I"⟩
abbrev m_C_whoIsAt : Nat := 96
def y_C_shapeLeftBy : MethodName := ⟨RX5, "shapeLeftBy", "(I)J"⟩
abbrev m_C_shapeLeftBy : Nat := 97
def y_C_countNow : MethodName := ⟨RX5, "countNow", "()I"⟩
abbrev m_C_countNow : Nat := 98
def y_C_truth : MethodName := ⟨RX5, "truth", "()I"⟩
abbrev m_C_truth : Nat := 99
def y_C_farOut : MethodName := ⟨RX5, "farOut", "()I"⟩
abbrev m_C_farOut : Nat := 100
def y_C_stepsToNearest : MethodName := ⟨RX5, "stepsToNearest", "(I)I"⟩
abbrev m_C_stepsToNearest : Nat := 101
def y_C_refusalOfNights : MethodName := ⟨RX5, "refusalOfNights", "(I)I"⟩
abbrev m_C_refusalOfNights : Nat := 102
def y_C_layDown : MethodName := ⟨RX5, "layDown", "(II)V"⟩
abbrev m_C_layDown : Nat := 103
def y_C_remember : MethodName := ⟨RX5, "remember", "()V"⟩
abbrev m_C_remember : Nat := 104
def y_C_placeOfDeed : MethodName := ⟨RX5, "placeOfDeed", "(I)I"⟩
abbrev m_C_placeOfDeed : Nat := 105
def y_C_forgetDeeds : MethodName := ⟨RX5, "forgetDeeds", "()V"⟩
abbrev m_C_forgetDeeds : Nat := 106
def y_C_draw : MethodName := ⟨RX5, "draw", "(I)I"⟩
abbrev m_C_draw : Nat := 107
def y_C_happenByDraw : MethodName := ⟨RX5, "happenByDraw", "()V"⟩
abbrev m_C_happenByDraw : Nat := 108
def y_C_lieByDraw : MethodName := ⟨RX5, "lieByDraw", "()V"⟩
abbrev m_C_lieByDraw : Nat := 109
def y_C_hareByDraw : MethodName := ⟨RX5, "hareByDraw", "()V"⟩
abbrev m_C_hareByDraw : Nat := 110
def y_C_canTry : MethodName := ⟨RX5, "canTry", "(I)Z"⟩
abbrev m_C_canTry : Nat := 111
def y_C_tryNights : MethodName := ⟨RX5, "tryNights", "(I)V"⟩
abbrev m_C_tryNights : Nat := 112
def y_C_bare : MethodName := ⟨RX5, "bare", "()I"⟩
abbrev m_C_bare : Nat := 113
def y_C_roomFor : MethodName := ⟨RX5, "roomFor", "(I)J"⟩
abbrev m_C_roomFor : Nat := 114
def y_C_bestRoomFor : MethodName := ⟨RX5, "bestRoomFor", "(II)I"⟩
abbrev m_C_bestRoomFor : Nat := 115
def y_C_shortestRound : MethodName := ⟨RX5, "shortestRound", "(III)J"⟩
abbrev m_C_shortestRound : Nat := 116
def y_C_tenToThe : MethodName := ⟨RX5, "tenToThe", "(I)J"⟩
abbrev m_C_tenToThe : Nat := 117
def y_C_fitsFound : MethodName := ⟨RX5, "fitsFound", "(II)Z"⟩
abbrev m_C_fitsFound : Nat := 118
def y_C_howManyFit : MethodName := ⟨RX5, "howManyFit", "()I"⟩
abbrev m_C_howManyFit : Nat := 119
def y_C_howManyOfKindFit : MethodName := ⟨RX5, "howManyOfKindFit", "(I)I"⟩
abbrev m_C_howManyOfKindFit : Nat := 120
def y_C_tallyFits : MethodName := ⟨RX5, "tallyFits", "()V"⟩
abbrev m_C_tallyFits : Nat := 121
def y_C_tallyCells : MethodName := ⟨RX5, "tallyCells", "(J)V"⟩
abbrev m_C_tallyCells : Nat := 122
def y_C_leastFit : MethodName := ⟨RX5, "leastFit", "()I"⟩
abbrev m_C_leastFit : Nat := 123
def y_C_kindsThatFit : MethodName := ⟨RX5, "kindsThatFit", "()I"⟩
abbrev m_C_kindsThatFit : Nat := 124
def y_M_init : MethodName := ⟨RX6, "<init>", "()V"⟩
abbrev m_M_init : Nat := 125
def y_M_in : MethodName := ⟨RX6, "in", "(JJJ)Z"⟩
abbrev m_M_in : Nat := 126
def y_M_has : MethodName := ⟨RX6, "has", "(II)Z"⟩
abbrev m_M_has : Nat := 127
def y_M_holds : MethodName := ⟨RX6, "holds", "(JI)Z"⟩
abbrev m_M_holds : Nat := 128
def y_M_bits : MethodName := ⟨RX6, "bits", "(J)I"⟩
abbrev m_M_bits : Nat := 129
def y_M_lesser : MethodName := ⟨RX6, "lesser", "(II)I"⟩
abbrev m_M_lesser : Nat := 130
def y_M_greater : MethodName := ⟨RX6, "greater", "(II)I"⟩
abbrev m_M_greater : Nat := 131
def y_M_copies : MethodName := ⟨RX6, "copies", "([II[III)V"⟩
abbrev m_M_copies : Nat := 132
def y_M_begins : MethodName := ⟨RX6, "begins", "()V"⟩
abbrev m_M_begins : Nat := 133
def y_M_feed : MethodName := ⟨RX6, "feed", "(I)I"⟩
abbrev m_M_feed : Nat := 134
def y_M_here : MethodName := ⟨RX6, "here", "()I"⟩
abbrev m_M_here : Nat := 135
def y_M_step : MethodName := ⟨RX6, "step", "()V"⟩
abbrev m_M_step : Nat := 136
def y_M_fails : MethodName := ⟨RX6, "fails", "(I)Z"⟩
abbrev m_M_fails : Nat := 137
def y_M_number : MethodName := ⟨RX6, "number", "(III)Z"⟩
abbrev m_M_number : Nat := 138
def y_M_ends : MethodName := ⟨RX6, "ends", "()Z"⟩
abbrev m_M_ends : Nat := 139
def y_M_readsPerson : MethodName := ⟨RX6, "readsPerson", "()Z"⟩
abbrev m_M_readsPerson : Nat := 140
def y_M_readsWind : MethodName := ⟨RX6, "readsWind", "()Z"⟩
abbrev m_M_readsWind : Nat := 141
def y_M_readsRock : MethodName := ⟨RX6, "readsRock", "()Z"⟩
abbrev m_M_readsRock : Nat := 142
def y_M_readsClause : MethodName := ⟨RX6, "readsClause", "()Z"⟩
abbrev m_M_readsClause : Nat := 143
def y_M_north : MethodName := ⟨RX6, "north", "()I"⟩
abbrev m_M_north : Nat := 144
def y_M_fault : MethodName := ⟨RX6, "fault", "()I"⟩
abbrev m_M_fault : Nat := 145
def y_M_cells : MethodName := ⟨RX6, "cells", "()I"⟩
abbrev m_M_cells : Nat := 146
def y_M_isCell : MethodName := ⟨RX6, "isCell", "(I)Z"⟩
abbrev m_M_isCell : Nat := 147
def y_M_isPerson : MethodName := ⟨RX6, "isPerson", "(I)Z"⟩
abbrev m_M_isPerson : Nat := 148
def y_M_rocks : MethodName := ⟨RX6, "rocks", "()J"⟩
abbrev m_M_rocks : Nat := 149
def y_M_isRock : MethodName := ⟨RX6, "isRock", "(I)Z"⟩
abbrev m_M_isRock : Nat := 150
def y_M_beside : MethodName := ⟨RX6, "beside", "(II)I"⟩
abbrev m_M_beside : Nat := 151
def y_M_shape : MethodName := ⟨RX6, "shape", "(II)J"⟩
abbrev m_M_shape : Nat := 152
def y_M_dented : MethodName := ⟨RX6, "dented", "([II)J"⟩
abbrev m_M_dented : Nat := 153
def y_M_mayLie : MethodName := ⟨RX6, "mayLie", "([III)Z"⟩
abbrev m_M_mayLie : Nat := 154
def y_M_dents : MethodName := ⟨RX6, "dents", "([IJI)V"⟩
abbrev m_M_dents : Nat := 155
def y_M_group : MethodName := ⟨RX6, "group", "(JI)J"⟩
abbrev m_M_group : Nat := 156
def y_M_lowest : MethodName := ⟨RX6, "lowest", "(J)I"⟩
abbrev m_M_lowest : Nat := 157
def y_M_counted : MethodName := ⟨RX6, "counted", "(I)I"⟩
abbrev m_M_counted : Nat := 158
def y_M_countOn : MethodName := ⟨RX6, "countOn", "([I)I"⟩
abbrev m_M_countOn : Nat := 159
def y_M_groups : MethodName := ⟨RX6, "groups", "(I)I"⟩
abbrev m_M_groups : Nat := 160
def y_M_isShape : MethodName := ⟨RX6, "isShape", "(J)Z"⟩
abbrev m_M_isShape : Nat := 161
def y_M_isLying : MethodName := ⟨RX6, "isLying", "(I)Z"⟩
abbrev m_M_isLying : Nat := 162
def y_M_whoLies : MethodName := ⟨RX6, "whoLies", "()I"⟩
abbrev m_M_whoLies : Nat := 163
def y_M_truly : MethodName := ⟨RX6, "truly", "()I"⟩
abbrev m_M_truly : Nat := 164
def y_M_steps : MethodName := ⟨RX6, "steps", "(II)I"⟩
abbrev m_M_steps : Nat := 165
def y_M_farOut : MethodName := ⟨RX6, "farOut", "()I"⟩
abbrev m_M_farOut : Nat := 166
def y_M_layAside : MethodName := ⟨RX6, "layAside", "()V"⟩
abbrev m_M_layAside : Nat := 167
def y_M_bare : MethodName := ⟨RX6, "bare", "()I"⟩
abbrev m_M_bare : Nat := 168
def y_M_told : MethodName := ⟨RX6, "told", "(I)I"⟩
abbrev m_M_told : Nat := 169
def y_M_whoIsAt : MethodName := ⟨RX6, "whoIsAt", "(I)I"⟩
abbrev m_M_whoIsAt : Nat := 170
def y_M_cell : MethodName := ⟨RX6, "cell", "(II)I"⟩
abbrev m_M_cell : Nat := 171
def y_M_shapeOf : MethodName := ⟨RX6, "shapeOf", "(I)J"⟩
abbrev m_M_shapeOf : Nat := 172
def y_M_person : MethodName := ⟨RX6, "person", "(II)I"⟩
abbrev m_M_person : Nat := 173
def y_M_remember : MethodName := ⟨RX6, "remember", "()V"⟩
abbrev m_M_remember : Nat := 174
def y_M_lies : MethodName := ⟨RX6, "lies", "([III)V"⟩
abbrev m_M_lies : Nat := 175
def y_M_lie : MethodName := ⟨RX6, "lie", "(II)I"⟩
abbrev m_M_lie : Nat := 176
def y_M_rise : MethodName := ⟨RX6, "rise", "(I)I"⟩
abbrev m_M_rise : Nat := 177
def y_M_nightGoes : MethodName := ⟨RX6, "nightGoes", "([I)V"⟩
abbrev m_M_nightGoes : Nat := 178
def y_M_refuses : MethodName := ⟨RX6, "refuses", "(I)I"⟩
abbrev m_M_refuses : Nat := 179
def y_M_night : MethodName := ⟨RX6, "night", "(I)I"⟩
abbrev m_M_night : Nat := 180
def y_M_thaw : MethodName := ⟨RX6, "thaw", "()I"⟩
abbrev m_M_thaw : Nat := 181
def y_M_snows : MethodName := ⟨RX6, "snows", "()V"⟩
abbrev m_M_snows : Nat := 182
def y_M_snow : MethodName := ⟨RX6, "snow", "()I"⟩
abbrev m_M_snow : Nat := 183
def y_M_runs : MethodName := ⟨RX6, "runs", "(I)V"⟩
abbrev m_M_runs : Nat := 184
def y_M_hare : MethodName := ⟨RX6, "hare", "(I)I"⟩
abbrev m_M_hare : Nat := 185
def y_M_pin : MethodName := ⟨RX6, "pin", "(I)I"⟩
abbrev m_M_pin : Nat := 186
def y_M_wind : MethodName := ⟨RX6, "wind", "(I)I"⟩
abbrev m_M_wind : Nat := 187
def y_M_draw : MethodName := ⟨RX6, "draw", "(I)I"⟩
abbrev m_M_draw : Nat := 188
def y_M_draws : MethodName := ⟨RX6, "draws", "()V"⟩
abbrev m_M_draws : Nat := 189
def y_M_drift : MethodName := ⟨RX6, "drift", "(I)I"⟩
abbrev m_M_drift : Nat := 190
def y_M_undo : MethodName := ⟨RX6, "undo", "(I)I"⟩
abbrev m_M_undo : Nat := 191
def y_M_left : MethodName := ⟨RX6, "left", "(II)I"⟩
abbrev m_M_left : Nat := 192
def y_M_willCount : MethodName := ⟨RX6, "willCount", "(I)I"⟩
abbrev m_M_willCount : Nat := 193
def y_M_wrongFirst : MethodName := ⟨RX6, "wrongFirst", "()I"⟩
abbrev m_M_wrongFirst : Nat := 194
def y_M_canLie : MethodName := ⟨RX6, "canLie", "(II)I"⟩
abbrev m_M_canLie : Nat := 195
def y_M_nextOrder : MethodName := ⟨RX6, "nextOrder", "(I)Z"⟩
abbrev m_M_nextOrder : Nat := 196
def y_M_round : MethodName := ⟨RX6, "round", "(III)I"⟩
abbrev m_M_round : Nat := 197
def y_M_isBy : MethodName := ⟨RX6, "isBy", "(JJ)Z"⟩
abbrev m_M_isBy : Nat := 198
def y_M_touch : MethodName := ⟨RX6, "touch", "(I)I"⟩
abbrev m_M_touch : Nat := 199
def y_M_still : MethodName := ⟨RX6, "still", "(II)I"⟩
abbrev m_M_still : Nat := 200
def y_M_find : MethodName := ⟨RX6, "find", "(IZ)I"⟩
abbrev m_M_find : Nat := 201
def y_M_isSo : MethodName := ⟨RX6, "isSo", "(II)Z"⟩
abbrev m_M_isSo : Nat := 202
def y_M_fits : MethodName := ⟨RX6, "fits", "(I)I"⟩
abbrev m_M_fits : Nat := 203
def y_M_look : MethodName := ⟨RX6, "look", "()I"⟩
abbrev m_M_look : Nat := 204
def y_M_write : MethodName := ⟨RX6, "write", "(I)I"⟩
abbrev m_M_write : Nat := 205
def y_M_judge : MethodName := ⟨RX6, "judge", "()I"⟩
abbrev m_M_judge : Nat := 206
def y_M_tear : MethodName := ⟨RX6, "tear", "()I"⟩
abbrev m_M_tear : Nat := 207
def y_M_seed : MethodName := ⟨RX6, "seed", "(I)I"⟩
abbrev m_M_seed : Nat := 208
def y_M_keep : MethodName := ⟨RX6, "keep", "(I)I"⟩
abbrev m_M_keep : Nat := 209
def y_M_goBack : MethodName := ⟨RX6, "goBack", "(I)I"⟩
abbrev m_M_goBack : Nat := 210
def y_JI_bitCount : MethodName := ⟨RJ6, "bitCount", "(I)I"⟩
abbrev m_JI_bitCount : Nat := 211
def y_JL_bitCount : MethodName := ⟨RJ13, "bitCount", "(J)I"⟩
abbrev m_JL_bitCount : Nat := 212
def y_JA_fillL : MethodName := ⟨RJ7, "fill", "([JJ)V"⟩
abbrev m_JA_fillL : Nat := 213
def y_JA_fill : MethodName := ⟨RJ7, "fill", "([II)V"⟩
abbrev m_JA_fill : Nat := 214
def y_W_law : MethodName := ⟨RL, "law", "([I)Z"⟩
abbrev m_W_law : Nat := 215
end
section
/-! an instruction with its next pc and what it links -/
abbrev Ent : Type := Instr × Nat × Nat × Nat × Value
end
section
/-! the code of each method: pc, instruction, next pc, and what it links -/
def k_F_init : List (Nat × Ent) := [
  (0, .aload_n 0, 1, 0, 0, .null),
  (1, .invokespecial 3, 4, 999, 0, .null),
  (4, .aload_n 0, 5, 0, 0, .null),
  (5, .bipush 49, 7, 0, 0, .int 49),
  (7, .newarray .int, 9, 0, 0, .null),
  (9, .putfield 9, 12, 0, 0, .null),
  (12, .aload_n 0, 13, 0, 0, .null),
  (13, .bipush 7, 15, 0, 0, .int 7),
  (15, .newarray .int, 17, 0, 0, .null),
  (17, .putfield 15, 20, 0, 1, .null),
  (20, .aload_n 0, 21, 0, 0, .null),
  (21, .getfield 15, 24, 0, 1, .null),
  (24, .iconst (-1), 25, 0, 0, .int (-1)),
  (25, .invokestatic 18, 28, 214, 2, .retAddr 499),
  (28, .return_, 29, 0, 0, .null)]
def k_F_begin : List (Nat × Ent) := [
  (0, .aload_n 0, 1, 0, 0, .null),
  (1, .getfield 9, 4, 0, 0, .null),
  (4, .iconst 0, 5, 0, 0, .int 0),
  (5, .invokestatic 18, 8, 214, 2, .retAddr 499),
  (8, .aload_n 0, 9, 0, 0, .null),
  (9, .getfield 15, 12, 0, 1, .null),
  (12, .iconst (-1), 13, 0, 0, .int (-1)),
  (13, .invokestatic 18, 16, 214, 2, .retAddr 499),
  (16, .aload_n 0, 17, 0, 0, .null),
  (17, .iload_n 1, 18, 1, 0, .null),
  (18, .putfield 24, 21, 0, 2, .null),
  (21, .aload_n 0, 22, 0, 0, .null),
  (22, .iconst 0, 23, 0, 0, .int 0),
  (23, .putfield 28, 26, 0, 3, .null),
  (26, .return_, 27, 0, 0, .null)]
def k_F_become : List (Nat × Ent) := [
  (0, .aload_n 1, 1, 1, 0, .null),
  (1, .getfield 9, 4, 0, 0, .null),
  (4, .iconst 0, 5, 0, 0, .int 0),
  (5, .aload_n 0, 6, 0, 0, .null),
  (6, .getfield 9, 9, 0, 0, .null),
  (9, .iconst 0, 10, 0, 0, .int 0),
  (10, .bipush 49, 12, 0, 0, .int 49),
  (12, .invokestatic 31, 15, 998, 0, .null),
  (15, .aload_n 1, 16, 1, 0, .null),
  (16, .getfield 15, 19, 0, 1, .null),
  (19, .iconst 0, 20, 0, 0, .int 0),
  (20, .aload_n 0, 21, 0, 0, .null),
  (21, .getfield 15, 24, 0, 1, .null),
  (24, .iconst 0, 25, 0, 0, .int 0),
  (25, .bipush 7, 27, 0, 0, .int 7),
  (27, .invokestatic 31, 30, 998, 0, .null),
  (30, .aload_n 0, 31, 0, 0, .null),
  (31, .aload_n 1, 32, 1, 0, .null),
  (32, .getfield 24, 35, 0, 2, .null),
  (35, .putfield 24, 38, 0, 2, .null),
  (38, .aload_n 0, 39, 0, 0, .null),
  (39, .aload_n 1, 40, 1, 0, .null),
  (40, .getfield 28, 43, 0, 3, .null),
  (43, .putfield 28, 46, 0, 3, .null),
  (46, .return_, 47, 0, 0, .null)]
def k_F_dented : List (Nat × Ent) := [
  (0, .aload_n 0, 1, 0, 0, .null),
  (1, .iconst 1, 2, 0, 0, .int 1),
  (2, .invokevirtual 37, 5, 5, 2, .retAddr 500),
  (5, .lreturn, 6, 0, 0, .null)]
def k_F_seen : List (Nat × Ent) := [
  (0, .aload_n 0, 1, 0, 0, .null),
  (1, .iconst 3, 2, 0, 0, .int 3),
  (2, .invokevirtual 37, 5, 5, 2, .retAddr 500),
  (5, .lreturn, 6, 0, 0, .null)]
def k_F_dentedFrom : List (Nat × Ent) := [
  (0, .lconst 0, 1, 0, 0, .long 0),
  (1, .lstore_n 2, 2, 2, 0, .null),
  (2, .iconst 0, 3, 0, 0, .int 0),
  (3, .istore 4, 5, 4, 0, .null),
  (5, .iload 4, 7, 4, 0, .null),
  (7, .bipush 49, 9, 0, 0, .int 49),
  (9, .if_icmp .ge 27, 12, 36, 0, .null),
  (12, .aload_n 0, 13, 0, 0, .null),
  (13, .getfield 9, 16, 0, 0, .null),
  (16, .iload 4, 18, 4, 0, .null),
  (18, .iaload, 19, 0, 0, .null),
  (19, .iload_n 1, 20, 1, 0, .null),
  (20, .if_icmp .lt 10, 23, 30, 0, .null),
  (23, .lload_n 2, 24, 2, 0, .null),
  (24, .lconst 1, 25, 0, 0, .long 1),
  (25, .iload 4, 27, 4, 0, .null),
  (27, .lshl, 28, 0, 0, .null),
  (28, .lor, 29, 0, 0, .null),
  (29, .lstore_n 2, 30, 2, 0, .null),
  (30, .iinc 4 1, 33, 4, 0, .int 1),
  (33, .goto (-28), 36, 5, 0, .null),
  (36, .lload_n 2, 37, 2, 0, .null),
  (37, .lreturn, 38, 0, 0, .null)]
def k_F_press : List (Nat × Ent) := [
  (0, .iconst 0, 1, 0, 0, .int 0),
  (1, .istore_n 3, 2, 3, 0, .null),
  (2, .iload_n 3, 3, 3, 0, .null),
  (3, .bipush 49, 5, 0, 0, .int 49),
  (5, .if_icmp .ge 25, 8, 30, 0, .null),
  (8, .lload_n 1, 9, 1, 0, .null),
  (9, .iload_n 3, 10, 3, 0, .null),
  (10, .invokestatic 41, 13, 88, 2, .retAddr 305),
  (13, .ifCond .eq 11, 16, 24, 0, .null),
  (16, .aload_n 0, 17, 0, 0, .null),
  (17, .getfield 9, 20, 0, 0, .null),
  (20, .iload_n 3, 21, 3, 0, .null),
  (21, .bipush 9, 23, 0, 0, .int 9),
  (23, .iastore, 24, 0, 0, .null),
  (24, .iinc 3 1, 27, 3, 0, .int 1),
  (27, .goto (-25), 30, 2, 0, .null),
  (30, .return_, 31, 0, 0, .null)]
def k_F_passNight : List (Nat × Ent) := [
  (0, .aload_n 1, 1, 1, 0, .null),
  (1, .getfield 45, 4, 1, 7, .null),
  (4, .aload_n 0, 5, 0, 0, .null),
  (5, .invokevirtual 51, 8, 3, 1, .retAddr 100),
  (8, .lor, 9, 0, 0, .null),
  (9, .lstore_n 2, 10, 2, 0, .null),
  (10, .aload_n 0, 11, 0, 0, .null),
  (11, .getfield 24, 14, 0, 2, .null),
  (14, .ifCond .ne 10, 17, 24, 0, .null),
  (17, .aload_n 1, 18, 1, 0, .null),
  (18, .getfield 55, 21, 1, 4, .null),
  (21, .goto 12, 24, 33, 0, .null),
  (24, .aload_n 1, 25, 1, 0, .null),
  (25, .lload_n 2, 26, 2, 0, .null),
  (26, .aload_n 0, 27, 0, 0, .null),
  (27, .getfield 24, 30, 0, 2, .null),
  (30, .invokevirtual 58, 33, 18, 3, .retAddr 401),
  (33, .lstore 4, 35, 4, 0, .null),
  (35, .iconst 0, 36, 0, 0, .int 0),
  (36, .istore 6, 38, 6, 0, .null),
  (38, .iload 6, 40, 6, 0, .null),
  (40, .bipush 49, 42, 0, 0, .int 49),
  (42, .if_icmp .ge 47, 45, 89, 0, .null),
  (45, .lload 4, 47, 4, 0, .null),
  (47, .iload 6, 49, 6, 0, .null),
  (49, .invokestatic 41, 52, 88, 2, .retAddr 305),
  (52, .ifCond .eq 7, 55, 59, 0, .null),
  (55, .iconst 1, 56, 0, 0, .int 1),
  (56, .goto 4, 59, 60, 0, .null),
  (59, .iconst 2, 60, 0, 0, .int 2),
  (60, .istore 7, 62, 7, 0, .null),
  (62, .aload_n 0, 63, 0, 0, .null),
  (63, .getfield 9, 66, 0, 0, .null),
  (66, .iload 6, 68, 6, 0, .null),
  (68, .iconst 0, 69, 0, 0, .int 0),
  (69, .aload_n 0, 70, 0, 0, .null),
  (70, .getfield 9, 73, 0, 0, .null),
  (73, .iload 6, 75, 6, 0, .null),
  (75, .iaload, 76, 0, 0, .null),
  (76, .iload 7, 78, 7, 0, .null),
  (78, .isub, 79, 0, 0, .null),
  (79, .invokestatic 62, 82, 990, 0, .null),
  (82, .iastore, 83, 0, 0, .null),
  (83, .iinc 6 1, 86, 6, 0, .int 1),
  (86, .goto (-48), 89, 38, 0, .null),
  (89, .aload_n 0, 90, 0, 0, .null),
  (90, .dup, 91, 0, 0, .null),
  (91, .getfield 28, 94, 0, 3, .null),
  (94, .iconst 1, 95, 0, 0, .int 1),
  (95, .iadd, 96, 0, 0, .null),
  (96, .putfield 28, 99, 0, 3, .null),
  (99, .return_, 100, 0, 0, .null)]
def k_F_melt : List (Nat × Ent) := [
  (0, .iconst 0, 1, 0, 0, .int 0),
  (1, .istore_n 1, 2, 1, 0, .null),
  (2, .iload_n 1, 3, 1, 0, .null),
  (3, .bipush 49, 5, 0, 0, .int 49),
  (5, .if_icmp .ge 27, 8, 32, 0, .null),
  (8, .aload_n 0, 9, 0, 0, .null),
  (9, .getfield 9, 12, 0, 0, .null),
  (12, .iload_n 1, 13, 1, 0, .null),
  (13, .iconst 0, 14, 0, 0, .int 0),
  (14, .aload_n 0, 15, 0, 0, .null),
  (15, .getfield 9, 18, 0, 0, .null),
  (18, .iload_n 1, 19, 1, 0, .null),
  (19, .iaload, 20, 0, 0, .null),
  (20, .iconst 3, 21, 0, 0, .int 3),
  (21, .isub, 22, 0, 0, .null),
  (22, .invokestatic 62, 25, 990, 0, .null),
  (25, .iastore, 26, 0, 0, .null),
  (26, .iinc 1 1, 29, 1, 0, .int 1),
  (29, .goto (-27), 32, 2, 0, .null),
  (32, .return_, 33, 0, 0, .null)]
def k_F_snowOver : List (Nat × Ent) := [
  (0, .iconst 0, 1, 0, 0, .int 0),
  (1, .istore_n 1, 2, 1, 0, .null),
  (2, .iload_n 1, 3, 1, 0, .null),
  (3, .bipush 49, 5, 0, 0, .int 49),
  (5, .if_icmp .ge 37, 8, 42, 0, .null),
  (8, .aload_n 0, 9, 0, 0, .null),
  (9, .getfield 9, 12, 0, 0, .null),
  (12, .iload_n 1, 13, 1, 0, .null),
  (13, .aload_n 0, 14, 0, 0, .null),
  (14, .getfield 9, 17, 0, 0, .null),
  (17, .iload_n 1, 18, 1, 0, .null),
  (18, .iaload, 19, 0, 0, .null),
  (19, .iconst 4, 20, 0, 0, .int 4),
  (20, .if_icmp .gt 7, 23, 27, 0, .null),
  (23, .iconst 0, 24, 0, 0, .int 0),
  (24, .goto 11, 27, 35, 0, .null),
  (27, .aload_n 0, 28, 0, 0, .null),
  (28, .getfield 9, 31, 0, 0, .null),
  (31, .iload_n 1, 32, 1, 0, .null),
  (32, .iaload, 33, 0, 0, .null),
  (33, .iconst 1, 34, 0, 0, .int 1),
  (34, .isub, 35, 0, 0, .null),
  (35, .iastore, 36, 0, 0, .null),
  (36, .iinc 1 1, 39, 1, 0, .int 1),
  (39, .goto (-37), 42, 2, 0, .null),
  (42, .return_, 43, 0, 0, .null)]
def k_F_cross : List (Nat × Ent) := [
  (0, .iload_n 1, 1, 1, 0, .null),
  (1, .ifCond .lt 28, 4, 29, 0, .null),
  (4, .iload_n 1, 5, 1, 0, .null),
  (5, .bipush 49, 7, 0, 0, .int 49),
  (7, .if_icmp .ge 22, 10, 29, 0, .null),
  (10, .aload_n 0, 11, 0, 0, .null),
  (11, .getfield 9, 14, 0, 0, .null),
  (14, .iload_n 1, 15, 1, 0, .null),
  (15, .bipush 9, 17, 0, 0, .int 9),
  (17, .aload_n 0, 18, 0, 0, .null),
  (18, .getfield 9, 21, 0, 0, .null),
  (21, .iload_n 1, 22, 1, 0, .null),
  (22, .iaload, 23, 0, 0, .null),
  (23, .iconst 2, 24, 0, 0, .int 2),
  (24, .iadd, 25, 0, 0, .null),
  (25, .invokestatic 68, 28, 991, 0, .null),
  (28, .iastore, 29, 0, 0, .null),
  (29, .return_, 30, 0, 0, .null)]
def k_F_roll : List (Nat × Ent) := [
  (0, .iconst 0, 1, 0, 0, .int 0),
  (1, .istore_n 3, 2, 3, 0, .null),
  (2, .iload_n 3, 3, 3, 0, .null),
  (3, .bipush 49, 5, 0, 0, .int 49),
  (5, .if_icmp .ge 33, 8, 38, 0, .null),
  (8, .lload_n 1, 9, 1, 0, .null),
  (9, .iload_n 3, 10, 3, 0, .null),
  (10, .invokestatic 41, 13, 88, 2, .retAddr 305),
  (13, .ifCond .eq 19, 16, 32, 0, .null),
  (16, .aload_n 0, 17, 0, 0, .null),
  (17, .getfield 9, 20, 0, 0, .null),
  (20, .iload_n 3, 21, 3, 0, .null),
  (21, .iconst 5, 22, 0, 0, .int 5),
  (22, .aload_n 0, 23, 0, 0, .null),
  (23, .getfield 9, 26, 0, 0, .null),
  (26, .iload_n 3, 27, 3, 0, .null),
  (27, .iaload, 28, 0, 0, .null),
  (28, .invokestatic 62, 31, 990, 0, .null),
  (31, .iastore, 32, 0, 0, .null),
  (32, .iinc 3 1, 35, 3, 0, .int 1),
  (35, .goto (-33), 38, 2, 0, .null),
  (38, .return_, 39, 0, 0, .null)]
def k_L_init : List (Nat × Ent) := [
  (0, .aload_n 0, 1, 0, 0, .null),
  (1, .invokespecial 3, 4, 999, 0, .null),
  (4, .aload_n 0, 5, 0, 0, .null),
  (5, .bipush 7, 7, 0, 0, .int 7),
  (7, .newarray .int, 9, 0, 0, .null),
  (9, .putfield 9, 12, 1, 8, .null),
  (12, .aload_n 0, 13, 0, 0, .null),
  (13, .sipush 245, 16, 0, 0, .int 245),
  (16, .newarray .long, 18, 1, 0, .null),
  (18, .putfield 15, 21, 1, 9, .null),
  (21, .return_, 22, 0, 0, .null)]
def k_L_clear : List (Nat × Ent) := [
  (0, .aload_n 0, 1, 0, 0, .null),
  (1, .iconst 0, 2, 0, 0, .int 0),
  (2, .putfield 19, 5, 1, 0, .null),
  (5, .aload_n 0, 6, 0, 0, .null),
  (6, .iconst 0, 7, 0, 0, .int 0),
  (7, .putfield 23, 10, 1, 1, .null),
  (10, .aload_n 0, 11, 0, 0, .null),
  (11, .iconst 0, 12, 0, 0, .int 0),
  (12, .putfield 26, 15, 1, 2, .null),
  (15, .aload_n 0, 16, 0, 0, .null),
  (16, .iconst 0, 17, 0, 0, .int 0),
  (17, .putfield 29, 20, 1, 3, .null),
  (20, .aload_n 0, 21, 0, 0, .null),
  (21, .lconst 0, 22, 0, 0, .long 0),
  (22, .putfield 32, 25, 1, 4, .null),
  (25, .aload_n 0, 26, 0, 0, .null),
  (26, .lconst 0, 27, 0, 0, .long 0),
  (27, .putfield 36, 30, 1, 5, .null),
  (30, .aload_n 0, 31, 0, 0, .null),
  (31, .lconst 0, 32, 0, 0, .long 0),
  (32, .putfield 39, 35, 1, 6, .null),
  (35, .aload_n 0, 36, 0, 0, .null),
  (36, .lconst 0, 37, 0, 0, .long 0),
  (37, .putfield 42, 40, 1, 7, .null),
  (40, .aload_n 0, 41, 0, 0, .null),
  (41, .getfield 15, 44, 1, 9, .null),
  (44, .lconst 0, 45, 0, 0, .long 0),
  (45, .invokestatic 45, 48, 213, 2, .retAddr 599),
  (48, .return_, 49, 0, 0, .null)]
def k_L_measure : List (Nat × Ent) := [
  (0, .aload_n 0, 1, 0, 0, .null),
  (1, .iload_n 1, 2, 1, 0, .null),
  (2, .putfield 19, 5, 1, 0, .null),
  (5, .aload_n 0, 6, 0, 0, .null),
  (6, .iload_n 2, 7, 2, 0, .null),
  (7, .putfield 23, 10, 1, 1, .null),
  (10, .aload_n 0, 11, 0, 0, .null),
  (11, .lconst 1, 12, 0, 0, .long 1),
  (12, .iload_n 1, 13, 1, 0, .null),
  (13, .iload_n 2, 14, 2, 0, .null),
  (14, .imul, 15, 0, 0, .null),
  (15, .lshl, 16, 0, 0, .null),
  (16, .lconst 1, 17, 0, 0, .long 1),
  (17, .lsub, 18, 0, 0, .null),
  (18, .putfield 32, 21, 1, 4, .null),
  (21, .iconst 0, 22, 0, 0, .int 0),
  (22, .istore_n 3, 23, 3, 0, .null),
  (23, .iload_n 3, 24, 3, 0, .null),
  (24, .iload_n 2, 25, 2, 0, .null),
  (25, .if_icmp .ge 41, 28, 66, 0, .null),
  (28, .aload_n 0, 29, 0, 0, .null),
  (29, .dup, 30, 0, 0, .null),
  (30, .getfield 36, 33, 1, 5, .null),
  (33, .lconst 1, 34, 0, 0, .long 1),
  (34, .iload_n 1, 35, 1, 0, .null),
  (35, .iload_n 3, 36, 3, 0, .null),
  (36, .imul, 37, 0, 0, .null),
  (37, .lshl, 38, 0, 0, .null),
  (38, .lor, 39, 0, 0, .null),
  (39, .putfield 36, 42, 1, 5, .null),
  (42, .aload_n 0, 43, 0, 0, .null),
  (43, .dup, 44, 0, 0, .null),
  (44, .getfield 39, 47, 1, 6, .null),
  (47, .lconst 1, 48, 0, 0, .long 1),
  (48, .iload_n 1, 49, 1, 0, .null),
  (49, .iload_n 3, 50, 3, 0, .null),
  (50, .imul, 51, 0, 0, .null),
  (51, .iload_n 1, 52, 1, 0, .null),
  (52, .iadd, 53, 0, 0, .null),
  (53, .iconst 1, 54, 0, 0, .int 1),
  (54, .isub, 55, 0, 0, .null),
  (55, .lshl, 56, 0, 0, .null),
  (56, .lor, 57, 0, 0, .null),
  (57, .putfield 39, 60, 1, 6, .null),
  (60, .iinc 3 1, 63, 3, 0, .int 1),
  (63, .goto (-40), 66, 23, 0, .null),
  (66, .return_, 67, 0, 0, .null)]
def k_L_cells : List (Nat × Ent) := [
  (0, .aload_n 0, 1, 0, 0, .null),
  (1, .getfield 19, 4, 1, 0, .null),
  (4, .aload_n 0, 5, 0, 0, .null),
  (5, .getfield 23, 8, 1, 1, .null),
  (8, .imul, 9, 0, 0, .null),
  (9, .ireturn, 10, 0, 0, .null)]
def k_L_isRock : List (Nat × Ent) := [
  (0, .aload_n 0, 1, 0, 0, .null),
  (1, .getfield 42, 4, 1, 7, .null),
  (4, .iload_n 1, 5, 1, 0, .null),
  (5, .invokestatic 51, 8, 88, 2, .retAddr 305),
  (8, .ireturn, 9, 0, 1, .null)]
def k_L_row : List (Nat × Ent) := [
  (0, .lconst 1, 1, 0, 0, .long 1),
  (1, .aload_n 0, 2, 0, 0, .null),
  (2, .getfield 19, 5, 1, 0, .null),
  (5, .lshl, 6, 0, 0, .null),
  (6, .lconst 1, 7, 0, 0, .long 1),
  (7, .lsub, 8, 0, 0, .null),
  (8, .aload_n 0, 9, 0, 0, .null),
  (9, .getfield 19, 12, 1, 0, .null),
  (12, .iload_n 1, 13, 1, 0, .null),
  (13, .imul, 14, 0, 0, .null),
  (14, .lshl, 15, 0, 0, .null),
  (15, .lreturn, 16, 0, 0, .null)]
def k_L_moved : List (Nat × Ent) := [
  (0, .iload_n 3, 1, 3, 0, .null),
  (1, .tableswitch 76 1 4 #[31, 44, 56, 69], 32, 0, 0, .null),
  (32, .lload_n 1, 33, 1, 0, .null),
  (33, .aload_n 0, 34, 0, 0, .null),
  (34, .getfield 39, 37, 1, 6, .null),
  (37, .ldc2_w 55, 40, 0, 0, .long (-1)),
  (40, .lxor, 41, 0, 0, .null),
  (41, .land, 42, 0, 0, .null),
  (42, .iconst 1, 43, 0, 0, .int 1),
  (43, .lshl, 44, 0, 0, .null),
  (44, .lreturn, 45, 0, 0, .null),
  (45, .lload_n 1, 46, 1, 0, .null),
  (46, .aload_n 0, 47, 0, 0, .null),
  (47, .getfield 19, 50, 1, 0, .null),
  (50, .lshl, 51, 0, 0, .null),
  (51, .aload_n 0, 52, 0, 0, .null),
  (52, .getfield 32, 55, 1, 4, .null),
  (55, .land, 56, 0, 0, .null),
  (56, .lreturn, 57, 0, 0, .null),
  (57, .lload_n 1, 58, 1, 0, .null),
  (58, .aload_n 0, 59, 0, 0, .null),
  (59, .getfield 36, 62, 1, 5, .null),
  (62, .ldc2_w 55, 65, 0, 0, .long (-1)),
  (65, .lxor, 66, 0, 0, .null),
  (66, .land, 67, 0, 0, .null),
  (67, .iconst 1, 68, 0, 0, .int 1),
  (68, .lushr, 69, 0, 0, .null),
  (69, .lreturn, 70, 0, 0, .null),
  (70, .lload_n 1, 71, 1, 0, .null),
  (71, .aload_n 0, 72, 0, 0, .null),
  (72, .getfield 19, 75, 1, 0, .null),
  (75, .lushr, 76, 0, 0, .null),
  (76, .lreturn, 77, 0, 0, .null),
  (77, .lconst 0, 78, 0, 0, .long 0),
  (78, .lreturn, 79, 0, 0, .null)]
def k_L_grown : List (Nat × Ent) := [
  (0, .lload_n 1, 1, 1, 0, .null),
  (1, .aload_n 0, 2, 0, 0, .null),
  (2, .lload_n 1, 3, 1, 0, .null),
  (3, .iconst 1, 4, 0, 0, .int 1),
  (4, .invokevirtual 57, 7, 18, 3, .retAddr 401),
  (7, .lor, 8, 0, 0, .null),
  (8, .aload_n 0, 9, 0, 0, .null),
  (9, .lload_n 1, 10, 1, 0, .null),
  (10, .iconst 2, 11, 0, 0, .int 2),
  (11, .invokevirtual 57, 14, 18, 3, .retAddr 401),
  (14, .lor, 15, 0, 0, .null),
  (15, .aload_n 0, 16, 0, 0, .null),
  (16, .lload_n 1, 17, 1, 0, .null),
  (17, .iconst 3, 18, 0, 0, .int 3),
  (18, .invokevirtual 57, 21, 18, 3, .retAddr 401),
  (21, .lor, 22, 0, 0, .null),
  (22, .aload_n 0, 23, 0, 0, .null),
  (23, .lload_n 1, 24, 1, 0, .null),
  (24, .iconst 4, 25, 0, 0, .int 4),
  (25, .invokevirtual 57, 28, 18, 3, .retAddr 401),
  (28, .lor, 29, 0, 0, .null),
  (29, .lreturn, 30, 0, 0, .null)]
def k_L_steps : List (Nat × Ent) := [
  (0, .aload_n 0, 1, 0, 0, .null),
  (1, .getfield 19, 4, 1, 0, .null),
  (4, .iconst 1, 5, 0, 0, .int 1),
  (5, .if_icmp .ge 5, 8, 10, 0, .null),
  (8, .iconst 0, 9, 0, 0, .int 0),
  (9, .ireturn, 10, 0, 0, .null),
  (10, .iload_n 1, 11, 1, 0, .null),
  (11, .aload_n 0, 12, 0, 0, .null),
  (12, .getfield 19, 15, 1, 0, .null),
  (15, .irem, 16, 0, 0, .null),
  (16, .iload_n 2, 17, 2, 0, .null),
  (17, .aload_n 0, 18, 0, 0, .null),
  (18, .getfield 19, 21, 1, 0, .null),
  (21, .irem, 22, 0, 0, .null),
  (22, .isub, 23, 0, 0, .null),
  (23, .invokestatic 61, 26, 992, 0, .null),
  (26, .iload_n 1, 27, 1, 0, .null),
  (27, .aload_n 0, 28, 0, 0, .null),
  (28, .getfield 19, 31, 1, 0, .null),
  (31, .idiv, 32, 0, 0, .null),
  (32, .iload_n 2, 33, 2, 0, .null),
  (33, .aload_n 0, 34, 0, 0, .null),
  (34, .getfield 19, 37, 1, 0, .null),
  (37, .idiv, 38, 0, 0, .null),
  (38, .isub, 39, 0, 0, .null),
  (39, .invokestatic 61, 42, 992, 0, .null),
  (42, .iadd, 43, 0, 0, .null),
  (43, .ireturn, 44, 0, 0, .null)]
def k_L_shape : List (Nat × Ent) := [
  (0, .iload_n 1, 1, 1, 0, .null),
  (1, .ifCond .lt 18, 4, 19, 0, .null),
  (4, .iload_n 1, 5, 1, 0, .null),
  (5, .iconst 5, 6, 0, 0, .int 5),
  (6, .if_icmp .ge 13, 9, 19, 0, .null),
  (9, .iload_n 2, 10, 2, 0, .null),
  (10, .ifCond .lt 9, 13, 19, 0, .null),
  (13, .iload_n 2, 14, 2, 0, .null),
  (14, .bipush 49, 16, 0, 0, .int 49),
  (16, .if_icmp .lt 5, 19, 21, 0, .null),
  (19, .lconst 0, 20, 0, 0, .long 0),
  (20, .lreturn, 21, 0, 0, .null),
  (21, .aload_n 0, 22, 0, 0, .null),
  (22, .getfield 15, 25, 1, 9, .null),
  (25, .iload_n 1, 26, 1, 0, .null),
  (26, .bipush 49, 28, 0, 0, .int 49),
  (28, .imul, 29, 0, 0, .null),
  (29, .iload_n 2, 30, 2, 0, .null),
  (30, .iadd, 31, 0, 0, .null),
  (31, .laload, 32, 0, 0, .null),
  (32, .lreturn, 33, 0, 0, .null)]
def k_L_drawShapes : List (Nat × Ent) := [
  (0, .iconst 0, 1, 0, 0, .int 0),
  (1, .istore_n 1, 2, 1, 0, .null),
  (2, .iload_n 1, 3, 1, 0, .null),
  (3, .iconst 5, 4, 0, 0, .int 5),
  (4, .if_icmp .ge 48, 7, 52, 0, .null),
  (7, .iconst 0, 8, 0, 0, .int 0),
  (8, .istore_n 2, 9, 2, 0, .null),
  (9, .iload_n 2, 10, 2, 0, .null),
  (10, .aload_n 0, 11, 0, 0, .null),
  (11, .invokevirtual 67, 14, 15, 1, .retAddr 101),
  (14, .if_icmp .ge 32, 17, 46, 0, .null),
  (17, .iload_n 2, 18, 2, 0, .null),
  (18, .bipush 49, 20, 0, 0, .int 49),
  (20, .if_icmp .ge 26, 23, 46, 0, .null),
  (23, .aload_n 0, 24, 0, 0, .null),
  (24, .getfield 15, 27, 1, 9, .null),
  (27, .iload_n 1, 28, 1, 0, .null),
  (28, .bipush 49, 30, 0, 0, .int 49),
  (30, .imul, 31, 0, 0, .null),
  (31, .iload_n 2, 32, 2, 0, .null),
  (32, .iadd, 33, 0, 0, .null),
  (33, .aload_n 0, 34, 0, 0, .null),
  (34, .iload_n 1, 35, 1, 0, .null),
  (35, .iload_n 2, 36, 2, 0, .null),
  (36, .invokevirtual 71, 39, 23, 3, .retAddr 1001),
  (39, .lastore, 40, 0, 0, .null),
  (40, .iinc 2 1, 43, 2, 0, .int 1),
  (43, .goto (-34), 46, 9, 0, .null),
  (46, .iinc 1 1, 49, 1, 0, .int 1),
  (49, .goto (-47), 52, 2, 0, .null),
  (52, .return_, 53, 0, 0, .null)]
def k_L_drawnShape : List (Nat × Ent) := [
  (0, .lconst 1, 1, 0, 0, .long 1),
  (1, .iload_n 2, 2, 2, 0, .null),
  (2, .lshl, 3, 0, 0, .null),
  (3, .lstore_n 3, 4, 3, 0, .null),
  (4, .lload_n 3, 5, 3, 0, .null),
  (5, .lstore 5, 7, 5, 0, .null),
  (7, .iconst 1, 8, 0, 0, .int 1),
  (8, .istore 7, 10, 7, 0, .null),
  (10, .iload 7, 12, 7, 0, .null),
  (12, .iconst 5, 13, 0, 0, .int 5),
  (13, .if_icmp .ge 47, 16, 60, 0, .null),
  (16, .getstatic 75, 19, 0, 0, .ref 1001),
  (19, .iload_n 1, 20, 1, 0, .null),
  (20, .iaload, 21, 0, 0, .null),
  (21, .iload 7, 23, 7, 0, .null),
  (23, .ishr, 24, 0, 0, .null),
  (24, .iconst 1, 25, 0, 0, .int 1),
  (25, .iand, 26, 0, 0, .null),
  (26, .ifCond .eq 28, 29, 54, 0, .null),
  (29, .aload_n 0, 30, 0, 0, .null),
  (30, .lload_n 3, 31, 3, 0, .null),
  (31, .iload 7, 33, 7, 0, .null),
  (33, .invokevirtual 57, 36, 18, 3, .retAddr 401),
  (36, .lstore 8, 38, 8, 0, .null),
  (38, .lload 8, 40, 8, 0, .null),
  (40, .lconst 0, 41, 0, 0, .long 0),
  (41, .lcmp, 42, 0, 0, .null),
  (42, .ifCond .ne 5, 45, 47, 0, .null),
  (45, .lconst 0, 46, 0, 0, .long 0),
  (46, .lreturn, 47, 0, 0, .null),
  (47, .lload 5, 49, 5, 0, .null),
  (49, .lload 8, 51, 8, 0, .null),
  (51, .lor, 52, 0, 0, .null),
  (52, .lstore 5, 54, 5, 0, .null),
  (54, .iinc 7 1, 57, 7, 0, .int 1),
  (57, .goto (-47), 60, 10, 0, .null),
  (60, .lload 5, 62, 5, 0, .null),
  (62, .aload_n 0, 63, 0, 0, .null),
  (63, .getfield 42, 66, 1, 7, .null),
  (66, .land, 67, 0, 0, .null),
  (67, .lconst 0, 68, 0, 0, .long 0),
  (68, .lcmp, 69, 0, 0, .null),
  (69, .ifCond .ne 8, 72, 77, 0, .null),
  (72, .lload 5, 74, 5, 0, .null),
  (74, .goto 4, 77, 78, 0, .null),
  (77, .lconst 0, 78, 0, 0, .long 0),
  (78, .lreturn, 79, 0, 0, .null)]
def k_L_groupOf : List (Nat × Ent) := [
  (0, .lload_n 1, 1, 1, 0, .null),
  (1, .lload_n 3, 2, 3, 0, .null),
  (2, .land, 3, 0, 0, .null),
  (3, .lstore 5, 5, 5, 0, .null),
  (5, .iconst 0, 6, 0, 0, .int 0),
  (6, .istore 7, 8, 7, 0, .null),
  (8, .iload 7, 10, 7, 0, .null),
  (10, .bipush 49, 12, 0, 0, .int 49),
  (12, .if_icmp .ge 34, 15, 46, 0, .null),
  (15, .aload_n 0, 16, 0, 0, .null),
  (16, .lload 5, 18, 5, 0, .null),
  (18, .invokevirtual 78, 21, 19, 2, .retAddr 301),
  (21, .lload_n 3, 22, 3, 0, .null),
  (22, .land, 23, 0, 0, .null),
  (23, .lstore 8, 25, 8, 0, .null),
  (25, .lload 8, 27, 8, 0, .null),
  (27, .lload 5, 29, 5, 0, .null),
  (29, .lcmp, 30, 0, 0, .null),
  (30, .ifCond .ne 6, 33, 36, 0, .null),
  (33, .lload 5, 35, 5, 0, .null),
  (35, .lreturn, 36, 0, 0, .null),
  (36, .lload 8, 38, 8, 0, .null),
  (38, .lstore 5, 40, 5, 0, .null),
  (40, .iinc 7 1, 43, 7, 0, .int 1),
  (43, .goto (-35), 46, 8, 0, .null),
  (46, .lload 5, 48, 5, 0, .null),
  (48, .lreturn, 49, 0, 0, .null)]
def k_L_firstGroup : List (Nat × Ent) := [
  (0, .aload_n 0, 1, 0, 0, .null),
  (1, .lload_n 1, 2, 1, 0, .null),
  (2, .lload_n 1, 3, 1, 0, .null),
  (3, .lneg, 4, 0, 0, .null),
  (4, .land, 5, 0, 0, .null),
  (5, .lload_n 1, 6, 1, 0, .null),
  (6, .invokevirtual 82, 9, 24, 3, .retAddr 1001),
  (9, .lreturn, 10, 0, 0, .null)]
def k_L_groupsIn : List (Nat × Ent) := [
  (0, .lload_n 1, 1, 1, 0, .null),
  (1, .lstore_n 3, 2, 3, 0, .null),
  (2, .iconst 0, 3, 0, 0, .int 0),
  (3, .istore 5, 5, 5, 0, .null),
  (5, .iload 5, 7, 5, 0, .null),
  (7, .bipush 49, 9, 0, 0, .int 49),
  (9, .if_icmp .ge 27, 12, 36, 0, .null),
  (12, .lload_n 3, 13, 3, 0, .null),
  (13, .lconst 0, 14, 0, 0, .long 0),
  (14, .lcmp, 15, 0, 0, .null),
  (15, .ifCond .eq 21, 18, 36, 0, .null),
  (18, .lload_n 3, 19, 3, 0, .null),
  (19, .aload_n 0, 20, 0, 0, .null),
  (20, .lload_n 3, 21, 3, 0, .null),
  (21, .invokevirtual 86, 24, 25, 2, .retAddr 301),
  (24, .ldc2_w 55, 27, 0, 0, .long (-1)),
  (27, .lxor, 28, 0, 0, .null),
  (28, .land, 29, 0, 0, .null),
  (29, .lstore_n 3, 30, 3, 0, .null),
  (30, .iinc 5 1, 33, 5, 0, .int 1),
  (33, .goto (-28), 36, 5, 0, .null),
  (36, .iload 5, 38, 5, 0, .null),
  (38, .ireturn, 39, 0, 0, .null)]
def k_L_countOf : List (Nat × Ent) := [
  (0, .lload_n 1, 1, 1, 0, .null),
  (1, .lstore_n 3, 2, 3, 0, .null),
  (2, .iconst 0, 3, 0, 0, .int 0),
  (3, .istore 5, 5, 5, 0, .null),
  (5, .iconst 0, 6, 0, 0, .int 0),
  (6, .istore 6, 8, 6, 0, .null),
  (8, .iload 6, 10, 6, 0, .null),
  (10, .bipush 49, 12, 0, 0, .int 49),
  (12, .if_icmp .ge 45, 15, 57, 0, .null),
  (15, .lload_n 3, 16, 3, 0, .null),
  (16, .lconst 0, 17, 0, 0, .long 0),
  (17, .lcmp, 18, 0, 0, .null),
  (18, .ifCond .eq 39, 21, 57, 0, .null),
  (21, .aload_n 0, 22, 0, 0, .null),
  (22, .lload_n 3, 23, 3, 0, .null),
  (23, .invokevirtual 86, 26, 25, 2, .retAddr 301),
  (26, .lstore 7, 28, 7, 0, .null),
  (28, .iload 5, 30, 5, 0, .null),
  (30, .aload_n 0, 31, 0, 0, .null),
  (31, .lload 7, 33, 7, 0, .null),
  (33, .invokestatic 89, 36, 212, 1, .retAddr 299),
  (36, .invokevirtual 95, 39, 28, 2, .retAddr 201),
  (39, .iadd, 40, 0, 0, .null),
  (40, .istore 5, 42, 5, 0, .null),
  (42, .lload_n 3, 43, 3, 0, .null),
  (43, .lload 7, 45, 7, 0, .null),
  (45, .ldc2_w 55, 48, 0, 0, .long (-1)),
  (48, .lxor, 49, 0, 0, .null),
  (49, .land, 50, 0, 0, .null),
  (50, .lstore_n 3, 51, 3, 0, .null),
  (51, .iinc 6 1, 54, 6, 0, .int 1),
  (54, .goto (-46), 57, 8, 0, .null),
  (57, .iload 5, 59, 5, 0, .null),
  (59, .ireturn, 60, 0, 0, .null)]
def k_L_countedAs : List (Nat × Ent) := [
  (0, .iload_n 1, 1, 1, 0, .null),
  (1, .iconst 2, 2, 0, 0, .int 2),
  (2, .if_icmp .gt 5, 5, 7, 0, .null),
  (5, .iload_n 1, 6, 1, 0, .null),
  (6, .ireturn, 7, 0, 0, .null),
  (7, .iload_n 1, 8, 1, 0, .null),
  (8, .iconst 4, 9, 0, 0, .int 4),
  (9, .if_icmp .gt 7, 12, 16, 0, .null),
  (12, .iconst 1, 13, 0, 0, .int 1),
  (13, .goto 8, 16, 21, 0, .null),
  (16, .iload_n 1, 17, 1, 0, .null),
  (17, .iconst 3, 18, 0, 0, .int 3),
  (18, .idiv, 19, 0, 0, .null),
  (19, .iconst 1, 20, 0, 0, .int 1),
  (20, .iadd, 21, 0, 0, .null),
  (21, .ireturn, 22, 0, 0, .null)]
def k_L_greatestIn : List (Nat × Ent) := [
  (0, .lload_n 1, 1, 1, 0, .null),
  (1, .lstore_n 3, 2, 3, 0, .null),
  (2, .iconst (-1), 3, 0, 0, .int (-1)),
  (3, .istore 5, 5, 5, 0, .null),
  (5, .iconst 0, 6, 0, 0, .int 0),
  (6, .istore 6, 8, 6, 0, .null),
  (8, .iconst 0, 9, 0, 0, .int 0),
  (9, .istore 7, 11, 7, 0, .null),
  (11, .iload 7, 13, 7, 0, .null),
  (13, .bipush 49, 15, 0, 0, .int 49),
  (15, .if_icmp .ge 55, 18, 70, 0, .null),
  (18, .lload_n 3, 19, 3, 0, .null),
  (19, .lconst 0, 20, 0, 0, .long 0),
  (20, .lcmp, 21, 0, 0, .null),
  (21, .ifCond .eq 49, 24, 70, 0, .null),
  (24, .aload_n 0, 25, 0, 0, .null),
  (25, .lload_n 3, 26, 3, 0, .null),
  (26, .invokevirtual 86, 29, 25, 2, .retAddr 301),
  (29, .lstore 8, 31, 8, 0, .null),
  (31, .lload 8, 33, 8, 0, .null),
  (33, .invokestatic 89, 36, 212, 1, .retAddr 299),
  (36, .iload 6, 38, 6, 0, .null),
  (38, .if_icmp .le 17, 41, 55, 0, .null),
  (41, .lload 8, 43, 8, 0, .null),
  (43, .invokestatic 98, 46, 89, 1, .retAddr 205),
  (46, .istore 5, 48, 5, 0, .null),
  (48, .lload 8, 50, 8, 0, .null),
  (50, .invokestatic 89, 53, 212, 1, .retAddr 299),
  (53, .istore 6, 55, 6, 0, .null),
  (55, .lload_n 3, 56, 3, 0, .null),
  (56, .lload 8, 58, 8, 0, .null),
  (58, .ldc2_w 55, 61, 0, 0, .long (-1)),
  (61, .lxor, 62, 0, 0, .null),
  (62, .land, 63, 0, 0, .null),
  (63, .lstore_n 3, 64, 3, 0, .null),
  (64, .iinc 7 1, 67, 7, 0, .int 1),
  (67, .goto (-56), 70, 11, 0, .null),
  (70, .iload 5, 72, 5, 0, .null),
  (72, .ireturn, 73, 0, 0, .null)]
def k_L_forgedIn : List (Nat × Ent) := [
  (0, .lload_n 1, 1, 1, 0, .null),
  (1, .lstore_n 3, 2, 3, 0, .null),
  (2, .iconst 0, 3, 0, 0, .int 0),
  (3, .istore 5, 5, 5, 0, .null),
  (5, .iconst 0, 6, 0, 0, .int 0),
  (6, .istore 6, 8, 6, 0, .null),
  (8, .iload 6, 10, 6, 0, .null),
  (10, .bipush 49, 12, 0, 0, .int 49),
  (12, .if_icmp .ge 43, 15, 55, 0, .null),
  (15, .lload_n 3, 16, 3, 0, .null),
  (16, .lconst 0, 17, 0, 0, .long 0),
  (17, .lcmp, 18, 0, 0, .null),
  (18, .ifCond .eq 37, 21, 55, 0, .null),
  (21, .aload_n 0, 22, 0, 0, .null),
  (22, .lload_n 3, 23, 3, 0, .null),
  (23, .invokevirtual 86, 26, 25, 2, .retAddr 301),
  (26, .lstore 7, 28, 7, 0, .null),
  (28, .aload_n 0, 29, 0, 0, .null),
  (29, .lload 7, 31, 7, 0, .null),
  (31, .invokevirtual 101, 34, 31, 2, .retAddr 401),
  (34, .ifCond .ne 6, 37, 40, 0, .null),
  (37, .iinc 5 1, 40, 5, 0, .int 1),
  (40, .lload_n 3, 41, 3, 0, .null),
  (41, .lload 7, 43, 7, 0, .null),
  (43, .ldc2_w 55, 46, 0, 0, .long (-1)),
  (46, .lxor, 47, 0, 0, .null),
  (47, .land, 48, 0, 0, .null),
  (48, .lstore_n 3, 49, 3, 0, .null),
  (49, .iinc 6 1, 52, 6, 0, .int 1),
  (52, .goto (-44), 55, 8, 0, .null),
  (55, .iload 5, 57, 5, 0, .null),
  (57, .ireturn, 58, 0, 0, .null)]
def k_L_isShape : List (Nat × Ent) := [
  (0, .iconst 0, 1, 0, 0, .int 0),
  (1, .istore_n 3, 2, 3, 0, .null),
  (2, .iload_n 3, 3, 3, 0, .null),
  (3, .aload_n 0, 4, 0, 0, .null),
  (4, .getfield 15, 7, 1, 9, .null),
  (7, .arraylength, 8, 0, 0, .null),
  (8, .if_icmp .ge 22, 11, 30, 0, .null),
  (11, .aload_n 0, 12, 0, 0, .null),
  (12, .getfield 15, 15, 1, 9, .null),
  (15, .iload_n 3, 16, 3, 0, .null),
  (16, .laload, 17, 0, 0, .null),
  (17, .lload_n 1, 18, 1, 0, .null),
  (18, .lcmp, 19, 0, 0, .null),
  (19, .ifCond .ne 5, 22, 24, 0, .null),
  (22, .iconst 1, 23, 0, 0, .int 1),
  (23, .ireturn, 24, 0, 1, .null),
  (24, .iinc 3 1, 27, 3, 0, .int 1),
  (27, .goto (-25), 30, 2, 0, .null),
  (30, .iconst 0, 31, 0, 0, .int 0),
  (31, .ireturn, 32, 0, 1, .null)]
def k_N_init : List (Nat × Ent) := [
  (0, .aload_n 0, 1, 0, 0, .null),
  (1, .invokespecial 3, 4, 999, 0, .null),
  (4, .aload_n 0, 5, 0, 0, .null),
  (5, .bipush 6, 7, 0, 0, .int 6),
  (7, .newarray .int, 9, 0, 0, .null),
  (9, .putfield 9, 12, 2, 0, .null),
  (12, .aload_n 0, 13, 0, 0, .null),
  (13, .bipush 6, 15, 0, 0, .int 6),
  (15, .newarray .boolean, 17, 2, 0, .null),
  (17, .putfield 15, 20, 2, 1, .null),
  (20, .aload_n 0, 21, 0, 0, .null),
  (21, .bipush 20, 23, 0, 0, .int 20),
  (23, .newarray .int, 25, 0, 0, .null),
  (25, .putfield 19, 28, 2, 2, .null),
  (28, .return_, 29, 0, 0, .null)]
def k_N_empty : List (Nat × Ent) := [
  (0, .aload_n 0, 1, 0, 0, .null),
  (1, .iconst 0, 2, 0, 0, .int 0),
  (2, .putfield 22, 5, 2, 3, .null),
  (5, .aload_n 0, 6, 0, 0, .null),
  (6, .iconst 0, 7, 0, 0, .int 0),
  (7, .putfield 26, 10, 2, 4, .null),
  (10, .return_, 11, 0, 0, .null)]
def k_N_addFound : List (Nat × Ent) := [
  (0, .aload_n 0, 1, 0, 0, .null),
  (1, .getfield 22, 4, 2, 3, .null),
  (4, .bipush 6, 6, 0, 0, .int 6),
  (6, .if_icmp .lt 6, 9, 12, 0, .null),
  (9, .ldc 29, 11, 0, 0, .int (-1000000004)),
  (11, .ireturn, 12, 0, 0, .null),
  (12, .aload_n 0, 13, 0, 0, .null),
  (13, .getfield 9, 16, 2, 0, .null),
  (16, .aload_n 0, 17, 0, 0, .null),
  (17, .getfield 22, 20, 2, 3, .null),
  (20, .iload_n 1, 21, 1, 0, .null),
  (21, .iastore, 22, 0, 0, .null),
  (22, .aload_n 0, 23, 0, 0, .null),
  (23, .getfield 15, 26, 2, 1, .null),
  (26, .aload_n 0, 27, 0, 0, .null),
  (27, .getfield 22, 30, 2, 3, .null),
  (30, .iload_n 2, 31, 2, 0, .null),
  (31, .bastore, 32, 0, 0, .null),
  (32, .aload_n 0, 33, 0, 0, .null),
  (33, .dup, 34, 0, 0, .null),
  (34, .getfield 22, 37, 2, 3, .null),
  (37, .iconst 1, 38, 0, 0, .int 1),
  (38, .iadd, 39, 0, 0, .null),
  (39, .putfield 22, 42, 2, 3, .null),
  (42, .aload_n 0, 43, 0, 0, .null),
  (43, .getfield 22, 46, 2, 3, .null),
  (46, .ireturn, 47, 0, 0, .null)]
def k_N_agreesWith : List (Nat × Ent) := [
  (0, .iconst 0, 1, 0, 0, .int 0),
  (1, .istore_n 3, 2, 3, 0, .null),
  (2, .iload_n 3, 3, 3, 0, .null),
  (3, .aload_n 0, 4, 0, 0, .null),
  (4, .getfield 22, 7, 2, 3, .null),
  (7, .if_icmp .ge 30, 10, 37, 0, .null),
  (10, .lload_n 1, 11, 1, 0, .null),
  (11, .aload_n 0, 12, 0, 0, .null),
  (12, .getfield 9, 15, 2, 0, .null),
  (15, .iload_n 3, 16, 3, 0, .null),
  (16, .iaload, 17, 0, 0, .null),
  (17, .invokestatic 30, 20, 88, 2, .retAddr 305),
  (20, .aload_n 0, 21, 0, 0, .null),
  (21, .getfield 15, 24, 2, 1, .null),
  (24, .iload_n 3, 25, 3, 0, .null),
  (25, .baload, 26, 0, 0, .null),
  (26, .if_icmp .eq 5, 29, 31, 0, .null),
  (29, .iconst 0, 30, 0, 0, .int 0),
  (30, .ireturn, 31, 0, 1, .null),
  (31, .iinc 3 1, 34, 3, 0, .int 1),
  (34, .goto (-32), 37, 2, 0, .null),
  (37, .iconst 1, 38, 0, 0, .int 1),
  (38, .ireturn, 39, 0, 1, .null)]
def k_N_addEntry : List (Nat × Ent) := [
  (0, .aload_n 0, 1, 0, 0, .null),
  (1, .getfield 26, 4, 2, 4, .null),
  (4, .bipush 20, 6, 0, 0, .int 20),
  (6, .if_icmp .lt 6, 9, 12, 0, .null),
  (9, .ldc 29, 11, 0, 0, .int (-1000000004)),
  (11, .ireturn, 12, 0, 0, .null),
  (12, .aload_n 0, 13, 0, 0, .null),
  (13, .getfield 19, 16, 2, 2, .null),
  (16, .aload_n 0, 17, 0, 0, .null),
  (17, .getfield 26, 20, 2, 4, .null),
  (20, .iload_n 1, 21, 1, 0, .null),
  (21, .iastore, 22, 0, 0, .null),
  (22, .aload_n 0, 23, 0, 0, .null),
  (23, .dup, 24, 0, 0, .null),
  (24, .getfield 26, 27, 2, 4, .null),
  (27, .iconst 1, 28, 0, 0, .int 1),
  (28, .iadd, 29, 0, 0, .null),
  (29, .putfield 26, 32, 2, 4, .null),
  (32, .aload_n 0, 33, 0, 0, .null),
  (33, .getfield 26, 36, 2, 4, .null),
  (36, .ireturn, 37, 0, 0, .null)]
def k_N_firstOtherThan : List (Nat × Ent) := [
  (0, .iconst 0, 1, 0, 0, .int 0),
  (1, .istore_n 2, 2, 2, 0, .null),
  (2, .iload_n 2, 3, 2, 0, .null),
  (3, .aload_n 0, 4, 0, 0, .null),
  (4, .getfield 26, 7, 2, 4, .null),
  (7, .if_icmp .ge 21, 10, 28, 0, .null),
  (10, .aload_n 0, 11, 0, 0, .null),
  (11, .getfield 19, 14, 2, 2, .null),
  (14, .iload_n 2, 15, 2, 0, .null),
  (15, .iaload, 16, 0, 0, .null),
  (16, .iload_n 1, 17, 1, 0, .null),
  (17, .if_icmp .eq 5, 20, 22, 0, .null),
  (20, .iload_n 2, 21, 2, 0, .null),
  (21, .ireturn, 22, 0, 0, .null),
  (22, .iinc 2 1, 25, 2, 0, .int 1),
  (25, .goto (-23), 28, 2, 0, .null),
  (28, .iconst (-1), 29, 0, 0, .int (-1)),
  (29, .ireturn, 30, 0, 0, .null)]
def k_R_init : List (Nat × Ent) := [
  (0, .aload_n 0, 1, 0, 0, .null),
  (1, .invokespecial 3, 4, 999, 0, .null),
  (4, .aload_n 0, 5, 0, 0, .null),
  (5, .sipush 240, 8, 0, 0, .int 240),
  (8, .newarray .int, 10, 0, 0, .null),
  (10, .putfield 9, 13, 3, 0, .null),
  (13, .aload_n 0, 14, 0, 0, .null),
  (14, .iconst (-1), 15, 0, 0, .int (-1)),
  (15, .putfield 15, 18, 3, 3, .null),
  (18, .return_, 19, 0, 0, .null)]
def k_R_add : List (Nat × Ent) := [
  (0, .aload_n 0, 1, 0, 0, .null),
  (1, .getfield 19, 4, 3, 1, .null),
  (4, .sipush 240, 7, 0, 0, .int 240),
  (7, .if_icmp .lt 6, 10, 13, 0, .null),
  (10, .ldc 22, 12, 0, 0, .int (-1000000004)),
  (12, .ireturn, 13, 0, 0, .null),
  (13, .aload_n 0, 14, 0, 0, .null),
  (14, .getfield 9, 17, 3, 0, .null),
  (17, .aload_n 0, 18, 0, 0, .null),
  (18, .getfield 19, 21, 3, 1, .null),
  (21, .iload_n 1, 22, 1, 0, .null),
  (22, .iastore, 23, 0, 0, .null),
  (23, .aload_n 0, 24, 0, 0, .null),
  (24, .dup, 25, 0, 0, .null),
  (25, .getfield 19, 28, 3, 1, .null),
  (28, .iconst 1, 29, 0, 0, .int 1),
  (29, .iadd, 30, 0, 0, .null),
  (30, .putfield 19, 33, 3, 1, .null),
  (33, .aload_n 0, 34, 0, 0, .null),
  (34, .getfield 19, 37, 3, 1, .null),
  (37, .ireturn, 38, 0, 0, .null)]
def k_R_readInto : List (Nat × Ent) := [
  (0, .aload_n 0, 1, 0, 0, .null),
  (1, .iconst 0, 2, 0, 0, .int 0),
  (2, .putfield 23, 5, 3, 2, .null),
  (5, .aload_n 0, 6, 0, 0, .null),
  (6, .iconst (-1), 7, 0, 0, .int (-1)),
  (7, .putfield 15, 10, 3, 3, .null),
  (10, .aload_n 0, 11, 0, 0, .null),
  (11, .iconst 0, 12, 0, 0, .int 0),
  (12, .putfield 26, 15, 3, 4, .null),
  (15, .aload_n 0, 16, 0, 0, .null),
  (16, .iconst 0, 17, 0, 0, .int 0),
  (17, .putfield 29, 20, 3, 6, .null),
  (20, .aload_n 1, 21, 1, 0, .null),
  (21, .invokevirtual 33, 24, 13, 1, .retAddr 101),
  (24, .aload_n 0, 25, 0, 0, .null),
  (25, .invokevirtual 38, 28, 42, 1, .retAddr 103),
  (28, .iconst 0, 29, 0, 0, .int 0),
  (29, .istore_n 2, 30, 2, 0, .null),
  (30, .iload_n 2, 31, 2, 0, .null),
  (31, .sipush 240, 34, 0, 0, .int 240),
  (34, .if_icmp .ge 36, 37, 70, 0, .null),
  (37, .aload_n 0, 38, 0, 0, .null),
  (38, .getfield 26, 41, 3, 4, .null),
  (41, .aload_n 0, 42, 0, 0, .null),
  (42, .getfield 19, 45, 3, 1, .null),
  (45, .if_icmp .ge 25, 48, 70, 0, .null),
  (48, .aload_n 0, 49, 0, 0, .null),
  (49, .getfield 23, 52, 3, 2, .null),
  (52, .ifCond .ne 18, 55, 70, 0, .null),
  (55, .aload_n 0, 56, 0, 0, .null),
  (56, .aload_n 1, 57, 1, 0, .null),
  (57, .invokevirtual 41, 60, 44, 2, .retAddr 303),
  (60, .aload_n 0, 61, 0, 0, .null),
  (61, .invokevirtual 38, 64, 42, 1, .retAddr 103),
  (64, .iinc 2 1, 67, 2, 0, .int 1),
  (67, .goto (-37), 70, 30, 0, .null),
  (70, .aload_n 1, 71, 1, 0, .null),
  (71, .invokevirtual 45, 74, 22, 1, .retAddr 301),
  (74, .aload_n 0, 75, 0, 0, .null),
  (75, .iconst 0, 76, 0, 0, .int 0),
  (76, .putfield 19, 79, 3, 1, .null),
  (79, .return_, 80, 0, 0, .null)]
def k_R_complain : List (Nat × Ent) := [
  (0, .aload_n 0, 1, 0, 0, .null),
  (1, .getfield 23, 4, 3, 2, .null),
  (4, .ifCond .ne 13, 7, 17, 0, .null),
  (7, .aload_n 0, 8, 0, 0, .null),
  (8, .iload_n 1, 9, 1, 0, .null),
  (9, .putfield 23, 12, 3, 2, .null),
  (12, .aload_n 0, 13, 0, 0, .null),
  (13, .iload_n 2, 14, 2, 0, .null),
  (14, .putfield 15, 17, 3, 3, .null),
  (17, .return_, 18, 0, 0, .null)]
def k_R_skipBlanks : List (Nat × Ent) := [
  (0, .aload_n 0, 1, 0, 0, .null),
  (1, .getfield 26, 4, 3, 4, .null),
  (4, .aload_n 0, 5, 0, 0, .null),
  (5, .getfield 19, 8, 3, 1, .null),
  (8, .if_icmp .ge 30, 11, 38, 0, .null),
  (11, .aload_n 0, 12, 0, 0, .null),
  (12, .getfield 9, 15, 3, 0, .null),
  (15, .aload_n 0, 16, 0, 0, .null),
  (16, .getfield 26, 19, 3, 4, .null),
  (19, .iaload, 20, 0, 0, .null),
  (20, .bipush 32, 22, 0, 0, .int 32),
  (22, .if_icmp .ne 16, 25, 38, 0, .null),
  (25, .aload_n 0, 26, 0, 0, .null),
  (26, .dup, 27, 0, 0, .null),
  (27, .getfield 26, 30, 3, 4, .null),
  (30, .iconst 1, 31, 0, 0, .int 1),
  (31, .iadd, 32, 0, 0, .null),
  (32, .putfield 26, 35, 3, 4, .null),
  (35, .goto (-35), 38, 0, 0, .null),
  (38, .return_, 39, 0, 0, .null)]
def k_R_atFigure : List (Nat × Ent) := [
  (0, .aload_n 0, 1, 0, 0, .null),
  (1, .getfield 26, 4, 3, 4, .null),
  (4, .aload_n 0, 5, 0, 0, .null),
  (5, .getfield 19, 8, 3, 1, .null),
  (8, .if_icmp .ge 35, 11, 43, 0, .null),
  (11, .aload_n 0, 12, 0, 0, .null),
  (12, .getfield 9, 15, 3, 0, .null),
  (15, .aload_n 0, 16, 0, 0, .null),
  (16, .getfield 26, 19, 3, 4, .null),
  (19, .iaload, 20, 0, 0, .null),
  (20, .bipush 48, 22, 0, 0, .int 48),
  (22, .if_icmp .lt 21, 25, 43, 0, .null),
  (25, .aload_n 0, 26, 0, 0, .null),
  (26, .getfield 9, 29, 3, 0, .null),
  (29, .aload_n 0, 30, 0, 0, .null),
  (30, .getfield 26, 33, 3, 4, .null),
  (33, .iaload, 34, 0, 0, .null),
  (34, .bipush 57, 36, 0, 0, .int 57),
  (36, .if_icmp .gt 7, 39, 43, 0, .null),
  (39, .iconst 1, 40, 0, 0, .int 1),
  (40, .goto 4, 43, 44, 0, .null),
  (43, .iconst 0, 44, 0, 0, .int 0),
  (44, .ireturn, 45, 0, 1, .null)]
def k_R_readClause : List (Nat × Ent) := [
  (0, .aload_n 0, 1, 0, 0, .null),
  (1, .getfield 9, 4, 3, 0, .null),
  (4, .aload_n 0, 5, 0, 0, .null),
  (5, .getfield 26, 8, 3, 4, .null),
  (8, .iaload, 9, 0, 0, .null),
  (9, .istore_n 2, 10, 2, 0, .null),
  (10, .iload_n 2, 11, 2, 0, .null),
  (11, .bipush 110, 13, 0, 0, .int 110),
  (13, .if_icmp .eq 20, 16, 33, 0, .null),
  (16, .aload_n 1, 17, 1, 0, .null),
  (17, .getfield 48, 20, 1, 0, .null),
  (20, .ifCond .ne 13, 23, 33, 0, .null),
  (23, .aload_n 0, 24, 0, 0, .null),
  (24, .iconst 1, 25, 0, 0, .int 1),
  (25, .aload_n 0, 26, 0, 0, .null),
  (26, .getfield 26, 29, 3, 4, .null),
  (29, .invokevirtual 51, 32, 41, 3, .retAddr 303),
  (32, .return_, 33, 0, 0, .null),
  (33, .aload_n 0, 34, 0, 0, .null),
  (34, .dup, 35, 0, 0, .null),
  (35, .getfield 26, 38, 3, 4, .null),
  (38, .iconst 1, 39, 0, 0, .int 1),
  (39, .iadd, 40, 0, 0, .null),
  (40, .putfield 26, 43, 3, 4, .null),
  (43, .iload_n 2, 44, 2, 0, .null),
  (44, .tableswitch 88 110 119 #[56, 88, 64, 88, 80, 88, 88, 88, 88, 72], 100, 0, 0, .null),
  (100, .aload_n 0, 101, 0, 0, .null),
  (101, .aload_n 1, 102, 1, 0, .null),
  (102, .invokevirtual 55, 105, 47, 2, .retAddr 403),
  (105, .goto 38, 108, 143, 0, .null),
  (108, .aload_n 0, 109, 0, 0, .null),
  (109, .aload_n 1, 110, 1, 0, .null),
  (110, .invokevirtual 58, 113, 48, 2, .retAddr 303),
  (113, .goto 30, 116, 143, 0, .null),
  (116, .aload_n 0, 117, 0, 0, .null),
  (117, .aload_n 1, 118, 1, 0, .null),
  (118, .invokevirtual 61, 121, 49, 2, .retAddr 303),
  (121, .goto 22, 124, 143, 0, .null),
  (124, .aload_n 0, 125, 0, 0, .null),
  (125, .aload_n 1, 126, 1, 0, .null),
  (126, .invokevirtual 64, 129, 50, 2, .retAddr 403),
  (129, .goto 14, 132, 143, 0, .null),
  (132, .aload_n 0, 133, 0, 0, .null),
  (133, .iconst 1, 134, 0, 0, .int 1),
  (134, .aload_n 0, 135, 0, 0, .null),
  (135, .getfield 26, 138, 3, 4, .null),
  (138, .iconst 1, 139, 0, 0, .int 1),
  (139, .isub, 140, 0, 0, .null),
  (140, .invokevirtual 51, 143, 41, 3, .retAddr 303),
  (143, .aload_n 0, 144, 0, 0, .null),
  (144, .invokevirtual 67, 147, 45, 1, .retAddr 103),
  (147, .return_, 148, 0, 0, .null)]
def k_R_readEnd : List (Nat × Ent) := [
  (0, .aload_n 0, 1, 0, 0, .null),
  (1, .invokevirtual 38, 4, 42, 1, .retAddr 103),
  (4, .aload_n 0, 5, 0, 0, .null),
  (5, .getfield 26, 8, 3, 4, .null),
  (8, .aload_n 0, 9, 0, 0, .null),
  (9, .getfield 19, 12, 3, 1, .null),
  (12, .if_icmp .ge 17, 15, 29, 0, .null),
  (15, .aload_n 0, 16, 0, 0, .null),
  (16, .getfield 9, 19, 3, 0, .null),
  (19, .aload_n 0, 20, 0, 0, .null),
  (20, .getfield 26, 23, 3, 4, .null),
  (23, .iaload, 24, 0, 0, .null),
  (24, .bipush 59, 26, 0, 0, .int 59),
  (26, .if_icmp .eq 13, 29, 39, 0, .null),
  (29, .aload_n 0, 30, 0, 0, .null),
  (30, .iconst 1, 31, 0, 0, .int 1),
  (31, .aload_n 0, 32, 0, 0, .null),
  (32, .getfield 26, 35, 3, 4, .null),
  (35, .invokevirtual 51, 38, 41, 3, .retAddr 303),
  (38, .return_, 39, 0, 0, .null),
  (39, .aload_n 0, 40, 0, 0, .null),
  (40, .dup, 41, 0, 0, .null),
  (41, .getfield 26, 44, 3, 4, .null),
  (44, .iconst 1, 45, 0, 0, .int 1),
  (45, .iadd, 46, 0, 0, .null),
  (46, .putfield 26, 49, 3, 4, .null),
  (49, .return_, 50, 0, 0, .null)]
def k_R_readNumber : List (Nat × Ent) := [
  (0, .aload_n 0, 1, 0, 0, .null),
  (1, .invokevirtual 38, 4, 42, 1, .retAddr 103),
  (4, .aload_n 0, 5, 0, 0, .null),
  (5, .aload_n 0, 6, 0, 0, .null),
  (6, .getfield 26, 9, 3, 4, .null),
  (9, .putfield 70, 12, 3, 5, .null),
  (12, .iconst 0, 13, 0, 0, .int 0),
  (13, .istore_n 3, 14, 3, 0, .null),
  (14, .aload_n 0, 15, 0, 0, .null),
  (15, .getfield 26, 18, 3, 4, .null),
  (18, .aload_n 0, 19, 0, 0, .null),
  (19, .getfield 19, 22, 3, 1, .null),
  (22, .if_icmp .ge 54, 25, 76, 0, .null),
  (25, .aload_n 0, 26, 0, 0, .null),
  (26, .invokevirtual 73, 29, 43, 1, .retAddr 103),
  (29, .ifCond .eq 47, 32, 76, 0, .null),
  (32, .aload_n 0, 33, 0, 0, .null),
  (33, .getfield 26, 36, 3, 4, .null),
  (36, .aload_n 0, 37, 0, 0, .null),
  (37, .getfield 70, 40, 3, 5, .null),
  (40, .isub, 41, 0, 0, .null),
  (41, .iconst 3, 42, 0, 0, .int 3),
  (42, .if_icmp .ge 21, 45, 63, 0, .null),
  (45, .bipush 10, 47, 0, 0, .int 10),
  (47, .iload_n 3, 48, 3, 0, .null),
  (48, .imul, 49, 0, 0, .null),
  (49, .aload_n 0, 50, 0, 0, .null),
  (50, .getfield 9, 53, 3, 0, .null),
  (53, .aload_n 0, 54, 0, 0, .null),
  (54, .getfield 26, 57, 3, 4, .null),
  (57, .iaload, 58, 0, 0, .null),
  (58, .iadd, 59, 0, 0, .null),
  (59, .bipush 48, 61, 0, 0, .int 48),
  (61, .isub, 62, 0, 0, .null),
  (62, .istore_n 3, 63, 3, 0, .null),
  (63, .aload_n 0, 64, 0, 0, .null),
  (64, .dup, 65, 0, 0, .null),
  (65, .getfield 26, 68, 3, 4, .null),
  (68, .iconst 1, 69, 0, 0, .int 1),
  (69, .iadd, 70, 0, 0, .null),
  (70, .putfield 26, 73, 3, 4, .null),
  (73, .goto (-59), 76, 14, 0, .null),
  (76, .aload_n 0, 77, 0, 0, .null),
  (77, .getfield 26, 80, 3, 4, .null),
  (80, .aload_n 0, 81, 0, 0, .null),
  (81, .getfield 70, 84, 3, 5, .null),
  (84, .if_icmp .ne 15, 87, 99, 0, .null),
  (87, .aload_n 0, 88, 0, 0, .null),
  (88, .iconst 1, 89, 0, 0, .int 1),
  (89, .aload_n 0, 90, 0, 0, .null),
  (90, .getfield 26, 93, 3, 4, .null),
  (93, .invokevirtual 51, 96, 41, 3, .retAddr 303),
  (96, .goto 35, 99, 131, 0, .null),
  (99, .aload_n 0, 100, 0, 0, .null),
  (100, .getfield 26, 103, 3, 4, .null),
  (103, .aload_n 0, 104, 0, 0, .null),
  (104, .getfield 70, 107, 3, 5, .null),
  (107, .isub, 108, 0, 0, .null),
  (108, .iconst 3, 109, 0, 0, .int 3),
  (109, .if_icmp .gt 13, 112, 122, 0, .null),
  (112, .iload_n 3, 113, 3, 0, .null),
  (113, .iload_n 1, 114, 1, 0, .null),
  (114, .if_icmp .lt 8, 117, 122, 0, .null),
  (117, .iload_n 3, 118, 3, 0, .null),
  (118, .iload_n 2, 119, 2, 0, .null),
  (119, .if_icmp .le 12, 122, 131, 0, .null),
  (122, .aload_n 0, 123, 0, 0, .null),
  (123, .iconst 2, 124, 0, 0, .int 2),
  (124, .aload_n 0, 125, 0, 0, .null),
  (125, .getfield 70, 128, 3, 5, .null),
  (128, .invokevirtual 51, 131, 41, 3, .retAddr 303),
  (131, .aload_n 0, 132, 0, 0, .null),
  (132, .getfield 23, 135, 3, 2, .null),
  (135, .ifCond .ne 7, 138, 142, 0, .null),
  (138, .iload_n 3, 139, 3, 0, .null),
  (139, .goto 4, 142, 143, 0, .null),
  (142, .iconst (-1), 143, 0, 0, .int (-1)),
  (143, .ireturn, 144, 0, 0, .null)]
def k_R_readSides : List (Nat × Ent) := [
  (0, .aload_n 1, 1, 1, 0, .null),
  (1, .getfield 48, 4, 1, 0, .null),
  (4, .ifCond .eq 14, 7, 18, 0, .null),
  (7, .aload_n 0, 8, 0, 0, .null),
  (8, .iconst 3, 9, 0, 0, .int 3),
  (9, .aload_n 0, 10, 0, 0, .null),
  (10, .getfield 26, 13, 3, 4, .null),
  (13, .iconst 1, 14, 0, 0, .int 1),
  (14, .isub, 15, 0, 0, .null),
  (15, .invokevirtual 51, 18, 41, 3, .retAddr 303),
  (18, .aload_n 0, 19, 0, 0, .null),
  (19, .iconst 2, 20, 0, 0, .int 2),
  (20, .bipush 7, 22, 0, 0, .int 7),
  (22, .invokevirtual 77, 25, 46, 3, .retAddr 403),
  (25, .istore_n 2, 26, 2, 0, .null),
  (26, .aload_n 0, 27, 0, 0, .null),
  (27, .iconst 2, 28, 0, 0, .int 2),
  (28, .bipush 7, 30, 0, 0, .int 7),
  (30, .invokevirtual 77, 33, 46, 3, .retAddr 403),
  (33, .istore_n 3, 34, 3, 0, .null),
  (34, .aload_n 0, 35, 0, 0, .null),
  (35, .getfield 23, 38, 3, 2, .null),
  (38, .ifCond .ne 9, 41, 47, 0, .null),
  (41, .aload_n 1, 42, 1, 0, .null),
  (42, .iload_n 2, 43, 2, 0, .null),
  (43, .iload_n 3, 44, 3, 0, .null),
  (44, .invokevirtual 81, 47, 14, 3, .retAddr 401),
  (47, .return_, 48, 0, 0, .null)]
def k_R_readPerson : List (Nat × Ent) := [
  (0, .aload_n 1, 1, 1, 0, .null),
  (1, .getfield 84, 4, 1, 2, .null),
  (4, .bipush 7, 6, 0, 0, .int 7),
  (6, .if_icmp .lt 14, 9, 20, 0, .null),
  (9, .aload_n 0, 10, 0, 0, .null),
  (10, .iconst 3, 11, 0, 0, .int 3),
  (11, .aload_n 0, 12, 0, 0, .null),
  (12, .getfield 26, 15, 3, 4, .null),
  (15, .iconst 1, 16, 0, 0, .int 1),
  (16, .isub, 17, 0, 0, .null),
  (17, .invokevirtual 51, 20, 41, 3, .retAddr 303),
  (20, .aload_n 0, 21, 0, 0, .null),
  (21, .iconst 0, 22, 0, 0, .int 0),
  (22, .iconst 4, 23, 0, 0, .int 4),
  (23, .invokevirtual 77, 26, 46, 3, .retAddr 403),
  (26, .istore_n 2, 27, 2, 0, .null),
  (27, .aload_n 0, 28, 0, 0, .null),
  (28, .getfield 23, 31, 3, 2, .null),
  (31, .ifCond .ne 23, 34, 54, 0, .null),
  (34, .aload_n 1, 35, 1, 0, .null),
  (35, .getfield 87, 38, 1, 8, .null),
  (38, .aload_n 1, 39, 1, 0, .null),
  (39, .getfield 84, 42, 1, 2, .null),
  (42, .iload_n 2, 43, 2, 0, .null),
  (43, .iastore, 44, 0, 0, .null),
  (44, .aload_n 1, 45, 1, 0, .null),
  (45, .dup, 46, 0, 0, .null),
  (46, .getfield 84, 49, 1, 2, .null),
  (49, .iconst 1, 50, 0, 0, .int 1),
  (50, .iadd, 51, 0, 0, .null),
  (51, .putfield 84, 54, 1, 2, .null),
  (54, .return_, 55, 0, 0, .null)]
def k_R_readWind : List (Nat × Ent) := [
  (0, .aload_n 0, 1, 0, 0, .null),
  (1, .getfield 29, 4, 3, 6, .null),
  (4, .ifCond .eq 14, 7, 18, 0, .null),
  (7, .aload_n 0, 8, 0, 0, .null),
  (8, .iconst 3, 9, 0, 0, .int 3),
  (9, .aload_n 0, 10, 0, 0, .null),
  (10, .getfield 26, 13, 3, 4, .null),
  (13, .iconst 1, 14, 0, 0, .int 1),
  (14, .isub, 15, 0, 0, .null),
  (15, .invokevirtual 51, 18, 41, 3, .retAddr 303),
  (18, .aload_n 0, 19, 0, 0, .null),
  (19, .iconst 0, 20, 0, 0, .int 0),
  (20, .iconst 4, 21, 0, 0, .int 4),
  (21, .invokevirtual 77, 24, 46, 3, .retAddr 403),
  (24, .istore_n 2, 25, 2, 0, .null),
  (25, .aload_n 0, 26, 0, 0, .null),
  (26, .getfield 23, 29, 3, 2, .null),
  (29, .ifCond .ne 13, 32, 42, 0, .null),
  (32, .aload_n 1, 33, 1, 0, .null),
  (33, .iload_n 2, 34, 2, 0, .null),
  (34, .putfield 90, 37, 1, 3, .null),
  (37, .aload_n 0, 38, 0, 0, .null),
  (38, .iconst 1, 39, 0, 0, .int 1),
  (39, .putfield 29, 42, 3, 6, .null),
  (42, .return_, 43, 0, 0, .null)]
def k_R_readRock : List (Nat × Ent) := [
  (0, .aload_n 1, 1, 1, 0, .null),
  (1, .getfield 93, 4, 1, 7, .null),
  (4, .invokestatic 97, 7, 212, 1, .retAddr 299),
  (7, .bipush 8, 9, 0, 0, .int 8),
  (9, .if_icmp .lt 14, 12, 23, 0, .null),
  (12, .aload_n 0, 13, 0, 0, .null),
  (13, .iconst 3, 14, 0, 0, .int 3),
  (14, .aload_n 0, 15, 0, 0, .null),
  (15, .getfield 26, 18, 3, 4, .null),
  (18, .iconst 1, 19, 0, 0, .int 1),
  (19, .isub, 20, 0, 0, .null),
  (20, .invokevirtual 51, 23, 41, 3, .retAddr 303),
  (23, .aload_n 0, 24, 0, 0, .null),
  (24, .iconst 0, 25, 0, 0, .int 0),
  (25, .aload_n 1, 26, 1, 0, .null),
  (26, .getfield 48, 29, 1, 0, .null),
  (29, .iconst 1, 30, 0, 0, .int 1),
  (30, .isub, 31, 0, 0, .null),
  (31, .invokevirtual 77, 34, 46, 3, .retAddr 403),
  (34, .istore_n 2, 35, 2, 0, .null),
  (35, .aload_n 0, 36, 0, 0, .null),
  (36, .iconst 0, 37, 0, 0, .int 0),
  (37, .aload_n 1, 38, 1, 0, .null),
  (38, .getfield 103, 41, 1, 1, .null),
  (41, .iconst 1, 42, 0, 0, .int 1),
  (42, .isub, 43, 0, 0, .null),
  (43, .invokevirtual 77, 46, 46, 3, .retAddr 403),
  (46, .istore_n 3, 47, 3, 0, .null),
  (47, .aload_n 0, 48, 0, 0, .null),
  (48, .getfield 23, 51, 3, 2, .null),
  (51, .ifCond .ne 18, 54, 69, 0, .null),
  (54, .aload_n 0, 55, 0, 0, .null),
  (55, .aload_n 1, 56, 1, 0, .null),
  (56, .lconst 1, 57, 0, 0, .long 1),
  (57, .aload_n 1, 58, 1, 0, .null),
  (58, .getfield 48, 61, 1, 0, .null),
  (61, .iload_n 3, 62, 3, 0, .null),
  (62, .imul, 63, 0, 0, .null),
  (63, .iload_n 2, 64, 2, 0, .null),
  (64, .iadd, 65, 0, 0, .null),
  (65, .lshl, 66, 0, 0, .null),
  (66, .invokevirtual 106, 69, 51, 3, .retAddr 403),
  (69, .return_, 70, 0, 0, .null)]
def k_R_addRock : List (Nat × Ent) := [
  (0, .aload_n 1, 1, 1, 0, .null),
  (1, .getfield 93, 4, 1, 7, .null),
  (4, .lload_n 2, 5, 2, 0, .null),
  (5, .land, 6, 0, 0, .null),
  (6, .lconst 0, 7, 0, 0, .long 0),
  (7, .lcmp, 8, 0, 0, .null),
  (8, .ifCond .eq 12, 11, 20, 0, .null),
  (11, .aload_n 0, 12, 0, 0, .null),
  (12, .iconst 4, 13, 0, 0, .int 4),
  (13, .aload_n 0, 14, 0, 0, .null),
  (14, .getfield 70, 17, 3, 5, .null),
  (17, .invokevirtual 51, 20, 41, 3, .retAddr 303),
  (20, .aload_n 1, 21, 1, 0, .null),
  (21, .dup, 22, 0, 0, .null),
  (22, .getfield 93, 25, 1, 7, .null),
  (25, .lload_n 2, 26, 2, 0, .null),
  (26, .lor, 27, 0, 0, .null),
  (27, .putfield 93, 30, 1, 7, .null),
  (30, .return_, 31, 0, 0, .null)]
def k_S_init : List (Nat × Ent) := [
  (0, .aload_n 0, 1, 0, 0, .null),
  (1, .invokespecial 3, 4, 999, 0, .null),
  (4, .aload_n 0, 5, 0, 0, .null),
  (5, .iconst 0, 6, 0, 0, .int 0),
  (6, .iload_n 1, 7, 1, 0, .null),
  (7, .invokestatic 9, 10, 990, 0, .null),
  (10, .putfield 15, 13, 4, 0, .null),
  (13, .aload_n 0, 14, 0, 0, .null),
  (14, .aload_n 0, 15, 0, 0, .null),
  (15, .getfield 15, 18, 4, 0, .null),
  (18, .bipush 58, 20, 0, 0, .int 58),
  (20, .imul, 21, 0, 0, .null),
  (21, .newarray .int, 23, 0, 0, .null),
  (23, .putfield 21, 26, 4, 1, .null),
  (26, .return_, 27, 0, 0, .null)]
def k_S_put : List (Nat × Ent) := [
  (0, .iload_n 1, 1, 1, 0, .null),
  (1, .ifCond .lt 11, 4, 12, 0, .null),
  (4, .iload_n 1, 5, 1, 0, .null),
  (5, .aload_n 0, 6, 0, 0, .null),
  (6, .getfield 15, 9, 4, 0, .null),
  (9, .if_icmp .lt 4, 12, 13, 0, .null),
  (12, .return_, 13, 0, 0, .null),
  (13, .iload_n 1, 14, 1, 0, .null),
  (14, .bipush 58, 16, 0, 0, .int 58),
  (16, .imul, 17, 0, 0, .null),
  (17, .istore_n 3, 18, 3, 0, .null),
  (18, .aload_n 2, 19, 2, 0, .null),
  (19, .getfield 25, 22, 0, 0, .null),
  (22, .iconst 0, 23, 0, 0, .int 0),
  (23, .aload_n 0, 24, 0, 0, .null),
  (24, .getfield 21, 27, 4, 1, .null),
  (27, .iload_n 3, 28, 3, 0, .null),
  (28, .bipush 49, 30, 0, 0, .int 49),
  (30, .invokestatic 30, 33, 998, 0, .null),
  (33, .aload_n 2, 34, 2, 0, .null),
  (34, .getfield 36, 37, 0, 1, .null),
  (37, .iconst 0, 38, 0, 0, .int 0),
  (38, .aload_n 0, 39, 0, 0, .null),
  (39, .getfield 21, 42, 4, 1, .null),
  (42, .iload_n 3, 43, 3, 0, .null),
  (43, .bipush 49, 45, 0, 0, .int 49),
  (45, .iadd, 46, 0, 0, .null),
  (46, .bipush 7, 48, 0, 0, .int 7),
  (48, .invokestatic 30, 51, 998, 0, .null),
  (51, .aload_n 0, 52, 0, 0, .null),
  (52, .getfield 21, 55, 4, 1, .null),
  (55, .iload_n 3, 56, 3, 0, .null),
  (56, .bipush 58, 58, 0, 0, .int 58),
  (58, .iadd, 59, 0, 0, .null),
  (59, .iconst 2, 60, 0, 0, .int 2),
  (60, .isub, 61, 0, 0, .null),
  (61, .aload_n 2, 62, 2, 0, .null),
  (62, .getfield 39, 65, 0, 2, .null),
  (65, .iastore, 66, 0, 0, .null),
  (66, .aload_n 0, 67, 0, 0, .null),
  (67, .getfield 21, 70, 4, 1, .null),
  (70, .iload_n 3, 71, 3, 0, .null),
  (71, .bipush 58, 73, 0, 0, .int 58),
  (73, .iadd, 74, 0, 0, .null),
  (74, .iconst 1, 75, 0, 0, .int 1),
  (75, .isub, 76, 0, 0, .null),
  (76, .aload_n 2, 77, 2, 0, .null),
  (77, .getfield 42, 80, 0, 3, .null),
  (80, .iastore, 81, 0, 0, .null),
  (81, .return_, 82, 0, 0, .null)]
def k_S_take : List (Nat × Ent) := [
  (0, .iload_n 1, 1, 1, 0, .null),
  (1, .ifCond .lt 11, 4, 12, 0, .null),
  (4, .iload_n 1, 5, 1, 0, .null),
  (5, .aload_n 0, 6, 0, 0, .null),
  (6, .getfield 15, 9, 4, 0, .null),
  (9, .if_icmp .lt 4, 12, 13, 0, .null),
  (12, .return_, 13, 0, 0, .null),
  (13, .iload_n 1, 14, 1, 0, .null),
  (14, .bipush 58, 16, 0, 0, .int 58),
  (16, .imul, 17, 0, 0, .null),
  (17, .istore_n 3, 18, 3, 0, .null),
  (18, .aload_n 0, 19, 0, 0, .null),
  (19, .getfield 21, 22, 4, 1, .null),
  (22, .iload_n 3, 23, 3, 0, .null),
  (23, .aload_n 2, 24, 2, 0, .null),
  (24, .getfield 25, 27, 0, 0, .null),
  (27, .iconst 0, 28, 0, 0, .int 0),
  (28, .bipush 49, 30, 0, 0, .int 49),
  (30, .invokestatic 30, 33, 998, 0, .null),
  (33, .aload_n 0, 34, 0, 0, .null),
  (34, .getfield 21, 37, 4, 1, .null),
  (37, .iload_n 3, 38, 3, 0, .null),
  (38, .bipush 49, 40, 0, 0, .int 49),
  (40, .iadd, 41, 0, 0, .null),
  (41, .aload_n 2, 42, 2, 0, .null),
  (42, .getfield 36, 45, 0, 1, .null),
  (45, .iconst 0, 46, 0, 0, .int 0),
  (46, .bipush 7, 48, 0, 0, .int 7),
  (48, .invokestatic 30, 51, 998, 0, .null),
  (51, .aload_n 2, 52, 2, 0, .null),
  (52, .aload_n 0, 53, 0, 0, .null),
  (53, .getfield 21, 56, 4, 1, .null),
  (56, .iload_n 3, 57, 3, 0, .null),
  (57, .bipush 58, 59, 0, 0, .int 58),
  (59, .iadd, 60, 0, 0, .null),
  (60, .iconst 2, 61, 0, 0, .int 2),
  (61, .isub, 62, 0, 0, .null),
  (62, .iaload, 63, 0, 0, .null),
  (63, .putfield 39, 66, 0, 2, .null),
  (66, .aload_n 2, 67, 2, 0, .null),
  (67, .aload_n 0, 68, 0, 0, .null),
  (68, .getfield 21, 71, 4, 1, .null),
  (71, .iload_n 3, 72, 3, 0, .null),
  (72, .bipush 58, 74, 0, 0, .int 58),
  (74, .iadd, 75, 0, 0, .null),
  (75, .iconst 1, 76, 0, 0, .int 1),
  (76, .isub, 77, 0, 0, .null),
  (77, .iaload, 78, 0, 0, .null),
  (78, .putfield 42, 81, 0, 3, .null),
  (81, .return_, 82, 0, 0, .null)]
def k_C_init : List (Nat × Ent) := [
  (0, .aload_n 0, 1, 0, 0, .null),
  (1, .invokespecial 1, 4, 999, 0, .null),
  (4, .aload_n 0, 5, 0, 0, .null),
  (5, .new 7, 8, 3, 0, .null),
  (8, .dup, 9, 0, 0, .null),
  (9, .invokespecial 9, 12, 38, 1, .retAddr 103),
  (12, .putfield 10, 15, 5, 0, .null),
  (15, .aload_n 0, 16, 0, 0, .null),
  (16, .new 16, 19, 1, 0, .null),
  (19, .dup, 20, 0, 0, .null),
  (20, .invokespecial 18, 23, 12, 1, .retAddr 101),
  (23, .putfield 19, 26, 5, 1, .null),
  (26, .aload_n 0, 27, 0, 0, .null),
  (27, .new 16, 30, 1, 0, .null),
  (30, .dup, 31, 0, 0, .null),
  (31, .invokespecial 18, 34, 12, 1, .retAddr 101),
  (34, .putfield 23, 37, 5, 2, .null),
  (37, .aload_n 0, 38, 0, 0, .null),
  (38, .new 26, 41, 0, 0, .null),
  (41, .dup, 42, 0, 0, .null),
  (42, .invokespecial 28, 45, 0, 1, .retAddr 100),
  (45, .putfield 29, 48, 5, 3, .null),
  (48, .aload_n 0, 49, 0, 0, .null),
  (49, .new 26, 52, 0, 0, .null),
  (52, .dup, 53, 0, 0, .null),
  (53, .invokespecial 28, 56, 0, 1, .retAddr 100),
  (56, .putfield 33, 59, 5, 4, .null),
  (59, .aload_n 0, 60, 0, 0, .null),
  (60, .new 36, 63, 4, 0, .null),
  (63, .dup, 64, 0, 0, .null),
  (64, .bipush 30, 66, 0, 0, .int 30),
  (66, .invokespecial 38, 69, 52, 2, .retAddr 204),
  (69, .putfield 41, 72, 5, 5, .null),
  (72, .aload_n 0, 73, 0, 0, .null),
  (73, .new 36, 76, 4, 0, .null),
  (76, .dup, 77, 0, 0, .null),
  (77, .iconst 2, 78, 0, 0, .int 2),
  (78, .invokespecial 38, 81, 52, 2, .retAddr 204),
  (81, .putfield 45, 84, 5, 8, .null),
  (84, .aload_n 0, 85, 0, 0, .null),
  (85, .iconst 2, 86, 0, 0, .int 2),
  (86, .newarray .int, 88, 0, 0, .null),
  (88, .putfield 48, 91, 5, 9, .null),
  (91, .aload_n 0, 92, 0, 0, .null),
  (92, .iconst 2, 93, 0, 0, .int 2),
  (93, .newarray .boolean, 95, 2, 0, .null),
  (95, .putfield 52, 98, 5, 10, .null),
  (98, .aload_n 0, 99, 0, 0, .null),
  (99, .new 56, 102, 2, 0, .null),
  (102, .dup, 103, 0, 0, .null),
  (103, .invokespecial 58, 106, 32, 1, .retAddr 102),
  (106, .putfield 59, 109, 5, 11, .null),
  (109, .aload_n 0, 110, 0, 0, .null),
  (110, .bipush 49, 112, 0, 0, .int 49),
  (112, .newarray .int, 114, 0, 0, .null),
  (114, .putfield 63, 117, 5, 12, .null),
  (117, .return_, 118, 0, 0, .null)]
def k_C_feed : List (Nat × Ent) := [
  (0, .iload_n 1, 1, 1, 0, .null),
  (1, .ifCond .lt 10, 4, 11, 0, .null),
  (4, .iload_n 1, 5, 1, 0, .null),
  (5, .sipush 255, 8, 0, 0, .int 255),
  (8, .if_icmp .le 6, 11, 14, 0, .null),
  (11, .ldc 66, 13, 0, 0, .int (-1000000002)),
  (13, .ireturn, 14, 0, 0, .null),
  (14, .aload_n 0, 15, 0, 0, .null),
  (15, .getfield 10, 18, 5, 0, .null),
  (18, .iload_n 1, 19, 1, 0, .null),
  (19, .invokevirtual 67, 22, 39, 2, .retAddr 203),
  (22, .ireturn, 23, 0, 0, .null)]
def k_C_north : List (Nat × Ent) := [
  (0, .aload_n 0, 1, 0, 0, .null),
  (1, .getfield 10, 4, 5, 0, .null),
  (4, .aload_n 0, 5, 0, 0, .null),
  (5, .getfield 23, 8, 5, 2, .null),
  (8, .invokevirtual 71, 11, 40, 2, .retAddr 303),
  (11, .aload_n 0, 12, 0, 0, .null),
  (12, .getfield 10, 15, 5, 0, .null),
  (15, .getfield 75, 18, 3, 2, .null),
  (18, .ifCond .eq 14, 21, 32, 0, .null),
  (21, .bipush (-10), 23, 0, 0, .int (-10)),
  (23, .aload_n 0, 24, 0, 0, .null),
  (24, .getfield 10, 27, 5, 0, .null),
  (27, .getfield 75, 30, 3, 2, .null),
  (30, .isub, 31, 0, 0, .null),
  (31, .ireturn, 32, 0, 0, .null),
  (32, .aload_n 0, 33, 0, 0, .null),
  (33, .getfield 19, 36, 5, 1, .null),
  (36, .astore_n 1, 37, 1, 0, .null),
  (37, .aload_n 0, 38, 0, 0, .null),
  (38, .aload_n 0, 39, 0, 0, .null),
  (39, .getfield 23, 42, 5, 2, .null),
  (42, .putfield 19, 45, 5, 1, .null),
  (45, .aload_n 0, 46, 0, 0, .null),
  (46, .aload_n 1, 47, 1, 0, .null),
  (47, .putfield 23, 50, 5, 2, .null),
  (50, .aload_n 0, 51, 0, 0, .null),
  (51, .getfield 29, 54, 5, 3, .null),
  (54, .aload_n 0, 55, 0, 0, .null),
  (55, .getfield 19, 58, 5, 1, .null),
  (58, .getfield 79, 61, 1, 3, .null),
  (61, .invokevirtual 82, 64, 1, 2, .retAddr 200),
  (64, .aload_n 0, 65, 0, 0, .null),
  (65, .getfield 59, 68, 5, 11, .null),
  (68, .invokevirtual 85, 71, 33, 1, .retAddr 102),
  (71, .aload_n 0, 72, 0, 0, .null),
  (72, .invokevirtual 88, 75, 106, 1, .retAddr 105),
  (75, .iconst 0, 76, 0, 0, .int 0),
  (76, .istore_n 2, 77, 2, 0, .null),
  (77, .iload_n 2, 78, 2, 0, .null),
  (78, .iconst 2, 79, 0, 0, .int 2),
  (79, .if_icmp .ge 16, 82, 95, 0, .null),
  (82, .aload_n 0, 83, 0, 0, .null),
  (83, .getfield 52, 86, 5, 10, .null),
  (86, .iload_n 2, 87, 2, 0, .null),
  (87, .iconst 0, 88, 0, 0, .int 0),
  (88, .bastore, 89, 0, 0, .null),
  (89, .iinc 2 1, 92, 2, 0, .int 1),
  (92, .goto (-15), 95, 77, 0, .null),
  (95, .aload_n 0, 96, 0, 0, .null),
  (96, .getfield 19, 99, 5, 1, .null),
  (99, .getfield 91, 102, 1, 2, .null),
  (102, .ireturn, 103, 0, 0, .null)]
def k_C_fault : List (Nat × Ent) := [
  (0, .aload_n 0, 1, 0, 0, .null),
  (1, .getfield 10, 4, 5, 0, .null),
  (4, .getfield 94, 7, 3, 3, .null),
  (7, .ireturn, 8, 0, 0, .null)]
def k_C_told : List (Nat × Ent) := [
  (0, .iload_n 1, 1, 1, 0, .null),
  (1, .tableswitch 237 0 17 #[87, 95, 103, 111, 122, 130, 138, 146, 151, 156, 161, 176, 191, 206, 211, 216, 224, 232], 88, 0, 0, .null),
  (88, .aload_n 0, 89, 0, 0, .null),
  (89, .getfield 19, 92, 5, 1, .null),
  (92, .getfield 97, 95, 1, 0, .null),
  (95, .ireturn, 96, 0, 0, .null),
  (96, .aload_n 0, 97, 0, 0, .null),
  (97, .getfield 19, 100, 5, 1, .null),
  (100, .getfield 100, 103, 1, 1, .null),
  (103, .ireturn, 104, 0, 0, .null),
  (104, .aload_n 0, 105, 0, 0, .null),
  (105, .getfield 19, 108, 5, 1, .null),
  (108, .getfield 91, 111, 1, 2, .null),
  (111, .ireturn, 112, 0, 0, .null),
  (112, .aload_n 0, 113, 0, 0, .null),
  (113, .getfield 19, 116, 5, 1, .null),
  (116, .getfield 103, 119, 1, 7, .null),
  (119, .invokestatic 107, 122, 212, 1, .retAddr 299),
  (122, .ireturn, 123, 0, 0, .null),
  (123, .aload_n 0, 124, 0, 0, .null),
  (124, .getfield 10, 127, 5, 0, .null),
  (127, .getfield 113, 130, 3, 1, .null),
  (130, .ireturn, 131, 0, 0, .null),
  (131, .aload_n 0, 132, 0, 0, .null),
  (132, .getfield 29, 135, 5, 3, .null),
  (135, .getfield 116, 138, 0, 3, .null),
  (138, .ireturn, 139, 0, 0, .null),
  (139, .aload_n 0, 140, 0, 0, .null),
  (140, .getfield 29, 143, 5, 3, .null),
  (143, .getfield 119, 146, 0, 2, .null),
  (146, .ireturn, 147, 0, 0, .null),
  (147, .aload_n 0, 148, 0, 0, .null),
  (148, .invokevirtual 122, 151, 95, 1, .retAddr 305),
  (151, .ireturn, 152, 0, 0, .null),
  (152, .aload_n 0, 153, 0, 0, .null),
  (153, .invokevirtual 126, 156, 98, 1, .retAddr 105),
  (156, .ireturn, 157, 0, 0, .null),
  (157, .aload_n 0, 158, 0, 0, .null),
  (158, .invokevirtual 129, 161, 99, 1, .retAddr 305),
  (161, .ireturn, 162, 0, 0, .null),
  (162, .aload_n 0, 163, 0, 0, .null),
  (163, .getfield 19, 166, 5, 1, .null),
  (166, .aload_n 0, 167, 0, 0, .null),
  (167, .getfield 29, 170, 5, 3, .null),
  (170, .invokevirtual 132, 173, 4, 1, .retAddr 100),
  (173, .invokevirtual 136, 176, 26, 2, .retAddr 601),
  (176, .ireturn, 177, 0, 0, .null),
  (177, .aload_n 0, 178, 0, 0, .null),
  (178, .getfield 19, 181, 5, 1, .null),
  (181, .aload_n 0, 182, 0, 0, .null),
  (182, .getfield 29, 185, 5, 3, .null),
  (185, .invokevirtual 132, 188, 4, 1, .retAddr 100),
  (188, .invokevirtual 139, 191, 29, 2, .retAddr 1001),
  (191, .ireturn, 192, 0, 0, .null),
  (192, .aload_n 0, 193, 0, 0, .null),
  (193, .getfield 19, 196, 5, 1, .null),
  (196, .aload_n 0, 197, 0, 0, .null),
  (197, .getfield 29, 200, 5, 3, .null),
  (200, .invokevirtual 132, 203, 4, 1, .retAddr 100),
  (203, .invokevirtual 142, 206, 30, 2, .retAddr 901),
  (206, .ireturn, 207, 0, 0, .null),
  (207, .aload_n 0, 208, 0, 0, .null),
  (208, .invokevirtual 145, 211, 100, 1, .retAddr 505),
  (211, .ireturn, 212, 0, 0, .null),
  (212, .aload_n 0, 213, 0, 0, .null),
  (213, .invokevirtual 148, 216, 113, 1, .retAddr 205),
  (216, .ireturn, 217, 0, 0, .null),
  (217, .aload_n 0, 218, 0, 0, .null),
  (218, .getfield 59, 221, 5, 11, .null),
  (221, .getfield 151, 224, 2, 3, .null),
  (224, .ireturn, 225, 0, 0, .null),
  (225, .aload_n 0, 226, 0, 0, .null),
  (226, .getfield 59, 229, 5, 11, .null),
  (229, .getfield 154, 232, 2, 4, .null),
  (232, .ireturn, 233, 0, 0, .null),
  (233, .aload_n 0, 234, 0, 0, .null),
  (234, .getfield 157, 237, 5, 7, .null),
  (237, .ireturn, 238, 0, 0, .null),
  (238, .ldc 66, 240, 0, 0, .int (-1000000002)),
  (240, .ireturn, 241, 0, 0, .null)]
def k_C_cell : List (Nat × Ent) := [
  (0, .aload_n 0, 1, 0, 0, .null),
  (1, .iload_n 1, 2, 1, 0, .null),
  (2, .invokevirtual 160, 5, 91, 2, .retAddr 205),
  (5, .ifCond .ne 6, 8, 11, 0, .null),
  (8, .ldc 164, 10, 0, 0, .int (-1000000001)),
  (10, .ireturn, 11, 0, 0, .null),
  (11, .iload_n 2, 12, 2, 0, .null),
  (12, .tableswitch 86 0 3 #[32, 42, 59, 80], 44, 0, 0, .null),
  (44, .aload_n 0, 45, 0, 0, .null),
  (45, .getfield 29, 48, 5, 3, .null),
  (48, .getfield 165, 51, 0, 0, .null),
  (51, .iload_n 1, 52, 1, 0, .null),
  (52, .iaload, 53, 0, 0, .null),
  (53, .ireturn, 54, 0, 0, .null),
  (54, .aload_n 0, 55, 0, 0, .null),
  (55, .getfield 19, 58, 5, 1, .null),
  (58, .iload_n 1, 59, 1, 0, .null),
  (59, .invokevirtual 168, 62, 16, 2, .retAddr 201),
  (62, .ifCond .eq 7, 65, 69, 0, .null),
  (65, .iconst 1, 66, 0, 0, .int 1),
  (66, .goto 4, 69, 70, 0, .null),
  (69, .iconst 0, 70, 0, 0, .int 0),
  (70, .ireturn, 71, 0, 0, .null),
  (71, .aload_n 0, 72, 0, 0, .null),
  (72, .getfield 19, 75, 5, 1, .null),
  (75, .lconst 1, 76, 0, 0, .long 1),
  (76, .iload_n 1, 77, 1, 0, .null),
  (77, .lshl, 78, 0, 0, .null),
  (78, .aload_n 0, 79, 0, 0, .null),
  (79, .getfield 29, 82, 5, 3, .null),
  (82, .invokevirtual 132, 85, 4, 1, .retAddr 100),
  (85, .invokevirtual 171, 88, 24, 3, .retAddr 1001),
  (88, .invokestatic 107, 91, 212, 1, .retAddr 299),
  (91, .ireturn, 92, 0, 0, .null),
  (92, .aload_n 0, 93, 0, 0, .null),
  (93, .iload_n 1, 94, 1, 0, .null),
  (94, .invokevirtual 175, 97, 96, 2, .retAddr 305),
  (97, .ireturn, 98, 0, 0, .null),
  (98, .ldc 66, 100, 0, 0, .int (-1000000002)),
  (100, .ireturn, 101, 0, 0, .null)]
def k_C_person : List (Nat × Ent) := [
  (0, .aload_n 0, 1, 0, 0, .null),
  (1, .iload_n 1, 2, 1, 0, .null),
  (2, .invokevirtual 178, 5, 92, 2, .retAddr 205),
  (5, .ifCond .ne 6, 8, 11, 0, .null),
  (8, .ldc 164, 10, 0, 0, .int (-1000000001)),
  (10, .ireturn, 11, 0, 0, .null),
  (11, .iload_n 2, 12, 2, 0, .null),
  (12, .tableswitch 65 0 2 #[28, 38, 48], 40, 0, 0, .null),
  (40, .aload_n 0, 41, 0, 0, .null),
  (41, .getfield 19, 44, 5, 1, .null),
  (44, .getfield 181, 47, 1, 8, .null),
  (47, .iload_n 1, 48, 1, 0, .null),
  (48, .iaload, 49, 0, 0, .null),
  (49, .ireturn, 50, 0, 0, .null),
  (50, .aload_n 0, 51, 0, 0, .null),
  (51, .getfield 29, 54, 5, 3, .null),
  (54, .getfield 184, 57, 0, 1, .null),
  (57, .iload_n 1, 58, 1, 0, .null),
  (58, .iaload, 59, 0, 0, .null),
  (59, .ireturn, 60, 0, 0, .null),
  (60, .aload_n 0, 61, 0, 0, .null),
  (61, .iload_n 1, 62, 1, 0, .null),
  (62, .invokevirtual 187, 65, 97, 2, .retAddr 205),
  (65, .aload_n 0, 66, 0, 0, .null),
  (66, .getfield 29, 69, 5, 3, .null),
  (69, .invokevirtual 132, 72, 4, 1, .retAddr 100),
  (72, .land, 73, 0, 0, .null),
  (73, .invokestatic 107, 76, 212, 1, .retAddr 299),
  (76, .ireturn, 77, 0, 0, .null),
  (77, .ldc 66, 79, 0, 0, .int (-1000000002)),
  (79, .ireturn, 80, 0, 0, .null)]
def k_C_lie : List (Nat × Ent) := [
  (0, .aload_n 0, 1, 0, 0, .null),
  (1, .iload_n 1, 2, 1, 0, .null),
  (2, .invokevirtual 178, 5, 92, 2, .retAddr 205),
  (5, .ifCond .eq 11, 8, 16, 0, .null),
  (8, .aload_n 0, 9, 0, 0, .null),
  (9, .iload_n 2, 10, 2, 0, .null),
  (10, .invokevirtual 160, 13, 91, 2, .retAddr 205),
  (13, .ifCond .ne 6, 16, 19, 0, .null),
  (16, .ldc 164, 18, 0, 0, .int (-1000000001)),
  (18, .ireturn, 19, 0, 0, .null),
  (19, .aload_n 0, 20, 0, 0, .null),
  (20, .iload_n 1, 21, 1, 0, .null),
  (21, .invokevirtual 191, 24, 114, 2, .retAddr 905),
  (24, .iload_n 2, 25, 2, 0, .null),
  (25, .invokestatic 194, 28, 88, 2, .retAddr 305),
  (28, .ifCond .ne 6, 31, 34, 0, .null),
  (31, .ldc 198, 33, 0, 0, .int (-1000000003)),
  (33, .ireturn, 34, 0, 0, .null),
  (34, .aload_n 0, 35, 0, 0, .null),
  (35, .invokevirtual 199, 38, 104, 1, .retAddr 105),
  (38, .aload_n 0, 39, 0, 0, .null),
  (39, .iload_n 1, 40, 1, 0, .null),
  (40, .iload_n 2, 41, 2, 0, .null),
  (41, .invokevirtual 202, 44, 103, 3, .retAddr 305),
  (44, .aload_n 0, 45, 0, 0, .null),
  (45, .getfield 19, 48, 5, 1, .null),
  (48, .aload_n 0, 49, 0, 0, .null),
  (49, .getfield 19, 52, 5, 1, .null),
  (52, .getfield 181, 55, 1, 8, .null),
  (55, .iload_n 1, 56, 1, 0, .null),
  (56, .iaload, 57, 0, 0, .null),
  (57, .iload_n 2, 58, 2, 0, .null),
  (58, .invokevirtual 206, 61, 21, 3, .retAddr 301),
  (61, .invokestatic 107, 64, 212, 1, .retAddr 299),
  (64, .ireturn, 65, 0, 0, .null)]
def k_C_rise : List (Nat × Ent) := [
  (0, .aload_n 0, 1, 0, 0, .null),
  (1, .iload_n 1, 2, 1, 0, .null),
  (2, .invokevirtual 178, 5, 92, 2, .retAddr 205),
  (5, .ifCond .ne 6, 8, 11, 0, .null),
  (8, .ldc 164, 10, 0, 0, .int (-1000000001)),
  (10, .ireturn, 11, 0, 0, .null),
  (11, .aload_n 0, 12, 0, 0, .null),
  (12, .getfield 29, 15, 5, 3, .null),
  (15, .getfield 184, 18, 0, 1, .null),
  (18, .iload_n 1, 19, 1, 0, .null),
  (19, .iaload, 20, 0, 0, .null),
  (20, .istore_n 2, 21, 2, 0, .null),
  (21, .iload_n 2, 22, 2, 0, .null),
  (22, .iconst (-1), 23, 0, 0, .int (-1)),
  (23, .if_icmp .ne 6, 26, 29, 0, .null),
  (26, .ldc 198, 28, 0, 0, .int (-1000000003)),
  (28, .ireturn, 29, 0, 0, .null),
  (29, .aload_n 0, 30, 0, 0, .null),
  (30, .invokevirtual 199, 33, 104, 1, .retAddr 105),
  (33, .aload_n 0, 34, 0, 0, .null),
  (34, .getfield 29, 37, 5, 3, .null),
  (37, .getfield 184, 40, 0, 1, .null),
  (40, .iload_n 1, 41, 1, 0, .null),
  (41, .iconst (-1), 42, 0, 0, .int (-1)),
  (42, .iastore, 43, 0, 0, .null),
  (43, .iload_n 2, 44, 2, 0, .null),
  (44, .ireturn, 45, 0, 0, .null)]
def k_C_night : List (Nat × Ent) := [
  (0, .aload_n 0, 1, 0, 0, .null),
  (1, .iload_n 1, 2, 1, 0, .null),
  (2, .invokevirtual 210, 5, 102, 2, .retAddr 205),
  (5, .istore_n 2, 6, 2, 0, .null),
  (6, .iload_n 2, 7, 2, 0, .null),
  (7, .ifCond .eq 5, 10, 12, 0, .null),
  (10, .iload_n 2, 11, 2, 0, .null),
  (11, .ireturn, 12, 0, 0, .null),
  (12, .iconst 0, 13, 0, 0, .int 0),
  (13, .istore_n 3, 14, 3, 0, .null),
  (14, .iload_n 3, 15, 3, 0, .null),
  (15, .iload_n 1, 16, 1, 0, .null),
  (16, .if_icmp .ge 24, 19, 40, 0, .null),
  (19, .aload_n 0, 20, 0, 0, .null),
  (20, .invokevirtual 199, 23, 104, 1, .retAddr 105),
  (23, .aload_n 0, 24, 0, 0, .null),
  (24, .getfield 29, 27, 5, 3, .null),
  (27, .aload_n 0, 28, 0, 0, .null),
  (28, .getfield 19, 31, 5, 1, .null),
  (31, .invokevirtual 213, 34, 7, 2, .retAddr 800),
  (34, .iinc 3 1, 37, 3, 0, .int 1),
  (37, .goto (-23), 40, 14, 0, .null),
  (40, .aload_n 0, 41, 0, 0, .null),
  (41, .invokevirtual 126, 44, 98, 1, .retAddr 105),
  (44, .ireturn, 45, 0, 0, .null)]
def k_C_thaw : List (Nat × Ent) := [
  (0, .aload_n 0, 1, 0, 0, .null),
  (1, .invokevirtual 216, 4, 90, 1, .retAddr 105),
  (4, .ifCond .ne 6, 7, 10, 0, .null),
  (7, .ldc 198, 9, 0, 0, .int (-1000000003)),
  (9, .ireturn, 10, 0, 0, .null),
  (10, .aload_n 0, 11, 0, 0, .null),
  (11, .invokevirtual 199, 14, 104, 1, .retAddr 105),
  (14, .aload_n 0, 15, 0, 0, .null),
  (15, .getfield 29, 18, 5, 3, .null),
  (18, .invokevirtual 220, 21, 8, 1, .retAddr 200),
  (21, .aload_n 0, 22, 0, 0, .null),
  (22, .invokevirtual 126, 25, 98, 1, .retAddr 105),
  (25, .ireturn, 26, 0, 0, .null)]
def k_C_snow : List (Nat × Ent) := [
  (0, .aload_n 0, 1, 0, 0, .null),
  (1, .invokevirtual 216, 4, 90, 1, .retAddr 105),
  (4, .ifCond .ne 6, 7, 10, 0, .null),
  (7, .ldc 198, 9, 0, 0, .int (-1000000003)),
  (9, .ireturn, 10, 0, 0, .null),
  (10, .aload_n 0, 11, 0, 0, .null),
  (11, .invokevirtual 199, 14, 104, 1, .retAddr 105),
  (14, .aload_n 0, 15, 0, 0, .null),
  (15, .getfield 29, 18, 5, 3, .null),
  (18, .invokevirtual 223, 21, 9, 1, .retAddr 200),
  (21, .aload_n 0, 22, 0, 0, .null),
  (22, .invokevirtual 126, 25, 98, 1, .retAddr 105),
  (25, .ireturn, 26, 0, 0, .null)]
def k_C_hare : List (Nat × Ent) := [
  (0, .aload_n 0, 1, 0, 0, .null),
  (1, .iload_n 1, 2, 1, 0, .null),
  (2, .invokevirtual 160, 5, 91, 2, .retAddr 205),
  (5, .ifCond .ne 6, 8, 11, 0, .null),
  (8, .ldc 164, 10, 0, 0, .int (-1000000001)),
  (10, .ireturn, 11, 0, 0, .null),
  (11, .aload_n 0, 12, 0, 0, .null),
  (12, .getfield 19, 15, 5, 1, .null),
  (15, .iload_n 1, 16, 1, 0, .null),
  (16, .invokevirtual 168, 19, 16, 2, .retAddr 201),
  (19, .ifCond .eq 6, 22, 25, 0, .null),
  (22, .ldc 198, 24, 0, 0, .int (-1000000003)),
  (24, .ireturn, 25, 0, 0, .null),
  (25, .aload_n 0, 26, 0, 0, .null),
  (26, .invokevirtual 199, 29, 104, 1, .retAddr 105),
  (29, .aload_n 0, 30, 0, 0, .null),
  (30, .getfield 29, 33, 5, 3, .null),
  (33, .iload_n 1, 34, 1, 0, .null),
  (34, .invokevirtual 226, 37, 10, 2, .retAddr 200),
  (37, .aload_n 0, 38, 0, 0, .null),
  (38, .getfield 29, 41, 5, 3, .null),
  (41, .getfield 165, 44, 0, 0, .null),
  (44, .iload_n 1, 45, 1, 0, .null),
  (45, .iaload, 46, 0, 0, .null),
  (46, .ireturn, 47, 0, 0, .null)]
def k_C_pin : List (Nat × Ent) := [
  (0, .iload_n 1, 1, 1, 0, .null),
  (1, .ifCond .lt 14, 4, 15, 0, .null),
  (4, .iload_n 1, 5, 1, 0, .null),
  (5, .aload_n 0, 6, 0, 0, .null),
  (6, .getfield 19, 9, 5, 1, .null),
  (9, .getfield 100, 12, 1, 1, .null),
  (12, .if_icmp .lt 6, 15, 18, 0, .null),
  (15, .ldc 66, 17, 0, 0, .int (-1000000002)),
  (17, .ireturn, 18, 0, 0, .null),
  (18, .aload_n 0, 19, 0, 0, .null),
  (19, .invokevirtual 199, 22, 104, 1, .retAddr 105),
  (22, .aload_n 0, 23, 0, 0, .null),
  (23, .getfield 29, 26, 5, 3, .null),
  (26, .aload_n 0, 27, 0, 0, .null),
  (27, .getfield 19, 30, 5, 1, .null),
  (30, .iload_n 1, 31, 1, 0, .null),
  (31, .invokevirtual 229, 34, 17, 2, .retAddr 201),
  (34, .aload_n 0, 35, 0, 0, .null),
  (35, .getfield 19, 38, 5, 1, .null),
  (38, .getfield 103, 41, 1, 7, .null),
  (41, .ldc2_w 232, 44, 0, 0, .long (-1)),
  (44, .lxor, 45, 0, 0, .null),
  (45, .land, 46, 0, 0, .null),
  (46, .invokevirtual 234, 49, 11, 2, .retAddr 400),
  (49, .aload_n 0, 50, 0, 0, .null),
  (50, .invokevirtual 126, 53, 98, 1, .retAddr 105),
  (53, .ireturn, 54, 0, 0, .null)]
def k_C_wind : List (Nat × Ent) := [
  (0, .iload_n 1, 1, 1, 0, .null),
  (1, .ifCond .lt 8, 4, 9, 0, .null),
  (4, .iload_n 1, 5, 1, 0, .null),
  (5, .iconst 5, 6, 0, 0, .int 5),
  (6, .if_icmp .lt 6, 9, 12, 0, .null),
  (9, .ldc 66, 11, 0, 0, .int (-1000000002)),
  (11, .ireturn, 12, 0, 0, .null),
  (12, .aload_n 0, 13, 0, 0, .null),
  (13, .invokevirtual 216, 16, 90, 1, .retAddr 105),
  (16, .ifCond .ne 6, 19, 22, 0, .null),
  (19, .ldc 198, 21, 0, 0, .int (-1000000003)),
  (21, .ireturn, 22, 0, 0, .null),
  (22, .aload_n 0, 23, 0, 0, .null),
  (23, .invokevirtual 199, 26, 104, 1, .retAddr 105),
  (26, .aload_n 0, 27, 0, 0, .null),
  (27, .getfield 29, 30, 5, 3, .null),
  (30, .getfield 119, 33, 0, 2, .null),
  (33, .istore_n 2, 34, 2, 0, .null),
  (34, .aload_n 0, 35, 0, 0, .null),
  (35, .getfield 29, 38, 5, 3, .null),
  (38, .iload_n 1, 39, 1, 0, .null),
  (39, .putfield 119, 42, 0, 2, .null),
  (42, .iload_n 2, 43, 2, 0, .null),
  (43, .ireturn, 44, 0, 0, .null)]
def k_C_drift : List (Nat × Ent) := [
  (0, .aload_n 0, 1, 0, 0, .null),
  (1, .iload_n 1, 2, 1, 0, .null),
  (2, .invokevirtual 210, 5, 102, 2, .retAddr 205),
  (5, .istore_n 2, 6, 2, 0, .null),
  (6, .iload_n 2, 7, 2, 0, .null),
  (7, .ifCond .eq 5, 10, 12, 0, .null),
  (10, .iload_n 2, 11, 2, 0, .null),
  (11, .ireturn, 12, 0, 0, .null),
  (12, .iconst 0, 13, 0, 0, .int 0),
  (13, .istore_n 3, 14, 3, 0, .null),
  (14, .iload_n 3, 15, 3, 0, .null),
  (15, .iload_n 1, 16, 1, 0, .null),
  (16, .if_icmp .ge 28, 19, 44, 0, .null),
  (19, .aload_n 0, 20, 0, 0, .null),
  (20, .invokevirtual 199, 23, 104, 1, .retAddr 105),
  (23, .aload_n 0, 24, 0, 0, .null),
  (24, .invokevirtual 238, 27, 108, 1, .retAddr 105),
  (27, .aload_n 0, 28, 0, 0, .null),
  (28, .getfield 29, 31, 5, 3, .null),
  (31, .aload_n 0, 32, 0, 0, .null),
  (32, .getfield 19, 35, 5, 1, .null),
  (35, .invokevirtual 213, 38, 7, 2, .retAddr 800),
  (38, .iinc 3 1, 41, 3, 0, .int 1),
  (41, .goto (-27), 44, 14, 0, .null),
  (44, .aload_n 0, 45, 0, 0, .null),
  (45, .invokevirtual 126, 48, 98, 1, .retAddr 105),
  (48, .ireturn, 49, 0, 0, .null)]
def k_C_undo : List (Nat × Ent) := [
  (0, .iload_n 1, 1, 1, 0, .null),
  (1, .iconst 1, 2, 0, 0, .int 1),
  (2, .if_icmp .lt 9, 5, 11, 0, .null),
  (5, .iload_n 1, 6, 1, 0, .null),
  (6, .bipush 30, 8, 0, 0, .int 30),
  (8, .if_icmp .le 6, 11, 14, 0, .null),
  (11, .ldc 66, 13, 0, 0, .int (-1000000002)),
  (13, .ireturn, 14, 0, 0, .null),
  (14, .iload_n 1, 15, 1, 0, .null),
  (15, .aload_n 0, 16, 0, 0, .null),
  (16, .getfield 157, 19, 5, 7, .null),
  (19, .if_icmp .le 6, 22, 25, 0, .null),
  (22, .ldc 198, 24, 0, 0, .int (-1000000003)),
  (24, .ireturn, 25, 0, 0, .null),
  (25, .aload_n 0, 26, 0, 0, .null),
  (26, .dup, 27, 0, 0, .null),
  (27, .getfield 157, 30, 5, 7, .null),
  (30, .iload_n 1, 31, 1, 0, .null),
  (31, .isub, 32, 0, 0, .null),
  (32, .putfield 157, 35, 5, 7, .null),
  (35, .aload_n 0, 36, 0, 0, .null),
  (36, .getfield 41, 39, 5, 5, .null),
  (39, .aload_n 0, 40, 0, 0, .null),
  (40, .aload_n 0, 41, 0, 0, .null),
  (41, .getfield 157, 44, 5, 7, .null),
  (44, .invokevirtual 241, 47, 105, 2, .retAddr 205),
  (47, .aload_n 0, 48, 0, 0, .null),
  (48, .getfield 29, 51, 5, 3, .null),
  (51, .invokevirtual 244, 54, 54, 3, .retAddr 404),
  (54, .aload_n 0, 55, 0, 0, .null),
  (55, .getfield 29, 58, 5, 3, .null),
  (58, .getfield 116, 61, 0, 3, .null),
  (61, .ireturn, 62, 0, 0, .null)]
def k_C_left : List (Nat × Ent) := [
  (0, .aload_n 0, 1, 0, 0, .null),
  (1, .iload_n 1, 2, 1, 0, .null),
  (2, .invokevirtual 160, 5, 91, 2, .retAddr 205),
  (5, .ifCond .ne 6, 8, 11, 0, .null),
  (8, .ldc 164, 10, 0, 0, .int (-1000000001)),
  (10, .ireturn, 11, 0, 0, .null),
  (11, .aload_n 0, 12, 0, 0, .null),
  (12, .iload_n 2, 13, 2, 0, .null),
  (13, .invokevirtual 248, 16, 111, 2, .retAddr 205),
  (16, .ifCond .ne 6, 19, 22, 0, .null),
  (19, .ldc 66, 21, 0, 0, .int (-1000000002)),
  (21, .ireturn, 22, 0, 0, .null),
  (22, .aload_n 0, 23, 0, 0, .null),
  (23, .iload_n 2, 24, 2, 0, .null),
  (24, .invokevirtual 251, 27, 112, 2, .retAddr 305),
  (27, .aload_n 0, 28, 0, 0, .null),
  (28, .getfield 33, 31, 5, 4, .null),
  (31, .getfield 165, 34, 0, 0, .null),
  (34, .iload_n 1, 35, 1, 0, .null),
  (35, .iaload, 36, 0, 0, .null),
  (36, .ireturn, 37, 0, 0, .null)]
def k_C_willCount : List (Nat × Ent) := [
  (0, .aload_n 0, 1, 0, 0, .null),
  (1, .iload_n 1, 2, 1, 0, .null),
  (2, .invokevirtual 248, 5, 111, 2, .retAddr 205),
  (5, .ifCond .ne 6, 8, 11, 0, .null),
  (8, .ldc 66, 10, 0, 0, .int (-1000000002)),
  (10, .ireturn, 11, 0, 0, .null),
  (11, .aload_n 0, 12, 0, 0, .null),
  (12, .iload_n 1, 13, 1, 0, .null),
  (13, .invokevirtual 251, 16, 112, 2, .retAddr 305),
  (16, .aload_n 0, 17, 0, 0, .null),
  (17, .getfield 19, 20, 5, 1, .null),
  (20, .aload_n 0, 21, 0, 0, .null),
  (21, .getfield 33, 24, 5, 4, .null),
  (24, .invokevirtual 132, 27, 4, 1, .retAddr 100),
  (27, .invokevirtual 254, 30, 27, 2, .retAddr 901),
  (30, .ireturn, 31, 0, 0, .null)]
def k_C_wrongFirst : List (Nat × Ent) := [
  (0, .aload_n 0, 1, 0, 0, .null),
  (1, .invokevirtual 129, 4, 99, 1, .retAddr 305),
  (4, .istore_n 1, 5, 1, 0, .null),
  (5, .aload_n 0, 6, 0, 0, .null),
  (6, .getfield 33, 9, 5, 4, .null),
  (9, .aload_n 0, 10, 0, 0, .null),
  (10, .getfield 29, 13, 5, 3, .null),
  (13, .invokevirtual 257, 16, 2, 2, .retAddr 200),
  (16, .iconst 0, 17, 0, 0, .int 0),
  (17, .istore_n 2, 18, 2, 0, .null),
  (18, .iload_n 2, 19, 2, 0, .null),
  (19, .bipush 20, 21, 0, 0, .int 20),
  (21, .if_icmp .gt 40, 24, 61, 0, .null),
  (24, .aload_n 0, 25, 0, 0, .null),
  (25, .getfield 19, 28, 5, 1, .null),
  (28, .aload_n 0, 29, 0, 0, .null),
  (29, .getfield 33, 32, 5, 4, .null),
  (32, .invokevirtual 132, 35, 4, 1, .retAddr 100),
  (35, .invokevirtual 254, 38, 27, 2, .retAddr 901),
  (38, .iload_n 1, 39, 1, 0, .null),
  (39, .if_icmp .eq 5, 42, 44, 0, .null),
  (42, .iload_n 2, 43, 2, 0, .null),
  (43, .ireturn, 44, 0, 0, .null),
  (44, .aload_n 0, 45, 0, 0, .null),
  (45, .getfield 33, 48, 5, 4, .null),
  (48, .aload_n 0, 49, 0, 0, .null),
  (49, .getfield 19, 52, 5, 1, .null),
  (52, .invokevirtual 213, 55, 7, 2, .retAddr 800),
  (55, .iinc 2 1, 58, 2, 0, .int 1),
  (58, .goto (-40), 61, 18, 0, .null),
  (61, .iconst (-1), 62, 0, 0, .int (-1)),
  (62, .ireturn, 63, 0, 0, .null)]
def k_C_canLie : List (Nat × Ent) := [
  (0, .aload_n 0, 1, 0, 0, .null),
  (1, .iload_n 1, 2, 1, 0, .null),
  (2, .invokevirtual 178, 5, 92, 2, .retAddr 205),
  (5, .ifCond .ne 6, 8, 11, 0, .null),
  (8, .ldc 164, 10, 0, 0, .int (-1000000001)),
  (10, .ireturn, 11, 0, 0, .null),
  (11, .iload_n 2, 12, 2, 0, .null),
  (12, .tableswitch 64 0 3 #[32, 41, 50, 57], 44, 0, 0, .null),
  (44, .aload_n 0, 45, 0, 0, .null),
  (45, .iload_n 1, 46, 1, 0, .null),
  (46, .invokevirtual 191, 49, 114, 2, .retAddr 905),
  (49, .invokestatic 107, 52, 212, 1, .retAddr 299),
  (52, .ireturn, 53, 0, 0, .null),
  (53, .aload_n 0, 54, 0, 0, .null),
  (54, .iload_n 1, 55, 1, 0, .null),
  (55, .invokevirtual 191, 58, 114, 2, .retAddr 905),
  (58, .invokestatic 261, 61, 89, 1, .retAddr 205),
  (61, .ireturn, 62, 0, 0, .null),
  (62, .aload_n 0, 63, 0, 0, .null),
  (63, .iload_n 1, 64, 1, 0, .null),
  (64, .iconst 1, 65, 0, 0, .int 1),
  (65, .invokevirtual 264, 68, 115, 3, .retAddr 1105),
  (68, .ireturn, 69, 0, 0, .null),
  (69, .aload_n 0, 70, 0, 0, .null),
  (70, .iload_n 1, 71, 1, 0, .null),
  (71, .iconst (-1), 72, 0, 0, .int (-1)),
  (72, .invokevirtual 264, 75, 115, 3, .retAddr 1105),
  (75, .ireturn, 76, 0, 0, .null),
  (76, .ldc 66, 78, 0, 0, .int (-1000000002)),
  (78, .ireturn, 79, 0, 0, .null)]
def k_C_round : List (Nat × Ent) := [
  (0, .aload_n 0, 1, 0, 0, .null),
  (1, .iload_n 1, 2, 1, 0, .null),
  (2, .invokevirtual 160, 5, 91, 2, .retAddr 205),
  (5, .ifCond .eq 14, 8, 19, 0, .null),
  (8, .iload_n 2, 9, 2, 0, .null),
  (9, .aload_n 0, 10, 0, 0, .null),
  (10, .invokevirtual 268, 13, 94, 1, .retAddr 105),
  (13, .iconst (-1), 14, 0, 0, .int (-1)),
  (14, .ixor, 15, 0, 0, .null),
  (15, .iand, 16, 0, 0, .null),
  (16, .ifCond .eq 6, 19, 22, 0, .null),
  (19, .ldc 164, 21, 0, 0, .int (-1000000001)),
  (21, .ireturn, 22, 0, 0, .null),
  (22, .iload_n 3, 23, 3, 0, .null),
  (23, .ifCond .eq 11, 26, 34, 0, .null),
  (26, .iload_n 3, 27, 3, 0, .null),
  (27, .iconst 1, 28, 0, 0, .int 1),
  (28, .if_icmp .eq 6, 31, 34, 0, .null),
  (31, .ldc 66, 33, 0, 0, .int (-1000000002)),
  (33, .ireturn, 34, 0, 0, .null),
  (34, .iload_n 2, 35, 2, 0, .null),
  (35, .invokestatic 271, 38, 211, 1, .retAddr 199),
  (38, .istore 4, 40, 4, 0, .null),
  (40, .iload 4, 42, 4, 0, .null),
  (42, .iconst 1, 43, 0, 0, .int 1),
  (43, .if_icmp .lt 20, 46, 63, 0, .null),
  (46, .iload 4, 48, 4, 0, .null),
  (48, .iconst 5, 49, 0, 0, .int 5),
  (49, .if_icmp .gt 14, 52, 63, 0, .null),
  (52, .iload_n 2, 53, 2, 0, .null),
  (53, .aload_n 0, 54, 0, 0, .null),
  (54, .invokevirtual 122, 57, 95, 1, .retAddr 305),
  (57, .iconst (-1), 58, 0, 0, .int (-1)),
  (58, .ixor, 59, 0, 0, .null),
  (59, .iand, 60, 0, 0, .null),
  (60, .ifCond .eq 6, 63, 66, 0, .null),
  (63, .ldc 198, 65, 0, 0, .int (-1000000003)),
  (65, .ireturn, 66, 0, 0, .null),
  (66, .aload_n 0, 67, 0, 0, .null),
  (67, .iload_n 1, 68, 1, 0, .null),
  (68, .iload_n 2, 69, 2, 0, .null),
  (69, .iload 4, 71, 4, 0, .null),
  (71, .invokevirtual 275, 74, 116, 4, .retAddr 1505),
  (74, .lstore 5, 76, 5, 0, .null),
  (76, .iload_n 3, 77, 3, 0, .null),
  (77, .ifCond .ne 12, 80, 89, 0, .null),
  (80, .lload 5, 82, 5, 0, .null),
  (82, .ldc2_w 279, 85, 0, 0, .long 1000000),
  (85, .ldiv, 86, 0, 0, .null),
  (86, .goto 9, 89, 95, 0, .null),
  (89, .lload 5, 91, 5, 0, .null),
  (91, .ldc2_w 279, 94, 0, 0, .long 1000000),
  (94, .lrem, 95, 0, 0, .null),
  (95, .l2i, 96, 0, 0, .null),
  (96, .ireturn, 97, 0, 0, .null)]
def k_C_touch : List (Nat × Ent) := [
  (0, .iconst 0, 1, 0, 0, .int 0),
  (1, .istore_n 2, 2, 2, 0, .null),
  (2, .iconst 0, 3, 0, 0, .int 0),
  (3, .istore_n 3, 4, 3, 0, .null),
  (4, .iload_n 3, 5, 3, 0, .null),
  (5, .aload_n 0, 6, 0, 0, .null),
  (6, .getfield 19, 9, 5, 1, .null),
  (9, .getfield 91, 12, 1, 2, .null),
  (12, .if_icmp .ge 76, 15, 88, 0, .null),
  (15, .aload_n 0, 16, 0, 0, .null),
  (16, .getfield 19, 19, 5, 1, .null),
  (19, .aload_n 0, 20, 0, 0, .null),
  (20, .iload_n 3, 21, 3, 0, .null),
  (21, .invokevirtual 187, 24, 97, 2, .retAddr 205),
  (24, .invokevirtual 281, 27, 19, 2, .retAddr 301),
  (27, .lstore 4, 29, 4, 0, .null),
  (29, .iload_n 3, 30, 3, 0, .null),
  (30, .iconst 1, 31, 0, 0, .int 1),
  (31, .iadd, 32, 0, 0, .null),
  (32, .istore 6, 34, 6, 0, .null),
  (34, .iload 6, 36, 6, 0, .null),
  (36, .aload_n 0, 37, 0, 0, .null),
  (37, .getfield 19, 40, 5, 1, .null),
  (40, .getfield 91, 43, 1, 2, .null),
  (43, .if_icmp .ge 39, 46, 82, 0, .null),
  (46, .lload 4, 48, 4, 0, .null),
  (48, .aload_n 0, 49, 0, 0, .null),
  (49, .iload 6, 51, 6, 0, .null),
  (51, .invokevirtual 187, 54, 97, 2, .retAddr 205),
  (54, .land, 55, 0, 0, .null),
  (55, .lconst 0, 56, 0, 0, .long 0),
  (56, .lcmp, 57, 0, 0, .null),
  (57, .ifCond .eq 19, 60, 76, 0, .null),
  (60, .iload_n 2, 61, 2, 0, .null),
  (61, .iload_n 1, 62, 1, 0, .null),
  (62, .if_icmp .ne 11, 65, 73, 0, .null),
  (65, .bipush 10, 67, 0, 0, .int 10),
  (67, .iload_n 3, 68, 3, 0, .null),
  (68, .imul, 69, 0, 0, .null),
  (69, .iload 6, 71, 6, 0, .null),
  (71, .iadd, 72, 0, 0, .null),
  (72, .ireturn, 73, 0, 0, .null),
  (73, .iinc 2 1, 76, 2, 0, .int 1),
  (76, .iinc 6 1, 79, 6, 0, .int 1),
  (79, .goto (-45), 82, 34, 0, .null),
  (82, .iinc 3 1, 85, 3, 0, .int 1),
  (85, .goto (-81), 88, 4, 0, .null),
  (88, .iload_n 1, 89, 1, 0, .null),
  (89, .iconst (-1), 90, 0, 0, .int (-1)),
  (90, .if_icmp .ne 7, 93, 97, 0, .null),
  (93, .iload_n 2, 94, 2, 0, .null),
  (94, .goto 4, 97, 98, 0, .null),
  (97, .iconst (-1), 98, 0, 0, .int (-1)),
  (98, .ireturn, 99, 0, 0, .null)]
def k_C_still : List (Nat × Ent) := [
  (0, .iload_n 1, 1, 1, 0, .null),
  (1, .ifCond .lt 19, 4, 20, 0, .null),
  (4, .iload_n 1, 5, 1, 0, .null),
  (5, .bipush 60, 7, 0, 0, .int 60),
  (7, .if_icmp .gt 13, 10, 20, 0, .null),
  (10, .iload_n 2, 11, 2, 0, .null),
  (11, .ifCond .lt 9, 14, 20, 0, .null),
  (14, .iload_n 2, 15, 2, 0, .null),
  (15, .bipush 100, 17, 0, 0, .int 100),
  (17, .if_icmp .le 6, 20, 23, 0, .null),
  (20, .ldc 66, 22, 0, 0, .int (-1000000002)),
  (22, .ireturn, 23, 0, 0, .null),
  (23, .ldc2_w 285, 26, 0, 0, .long 1000000000),
  (26, .lstore_n 3, 27, 3, 0, .null),
  (27, .iconst 0, 28, 0, 0, .int 0),
  (28, .istore 5, 30, 5, 0, .null),
  (30, .iload 5, 32, 5, 0, .null),
  (32, .iload_n 1, 33, 1, 0, .null),
  (33, .if_icmp .ge 18, 36, 51, 0, .null),
  (36, .lload_n 3, 37, 3, 0, .null),
  (37, .iload_n 2, 38, 2, 0, .null),
  (38, .i2l, 39, 0, 0, .null),
  (39, .lmul, 40, 0, 0, .null),
  (40, .ldc2_w 287, 43, 0, 0, .long 100),
  (43, .ldiv, 44, 0, 0, .null),
  (44, .lstore_n 3, 45, 3, 0, .null),
  (45, .iinc 5 1, 48, 5, 0, .int 1),
  (48, .goto (-18), 51, 30, 0, .null),
  (51, .lload_n 3, 52, 3, 0, .null),
  (52, .l2i, 53, 0, 0, .null),
  (53, .ireturn, 54, 0, 0, .null)]
def k_C_find : List (Nat × Ent) := [
  (0, .aload_n 0, 1, 0, 0, .null),
  (1, .iload_n 1, 2, 1, 0, .null),
  (2, .invokevirtual 160, 5, 91, 2, .retAddr 205),
  (5, .ifCond .ne 6, 8, 11, 0, .null),
  (8, .ldc 164, 10, 0, 0, .int (-1000000001)),
  (10, .ireturn, 11, 0, 0, .null),
  (11, .aload_n 0, 12, 0, 0, .null),
  (12, .getfield 59, 15, 5, 11, .null),
  (15, .iload_n 1, 16, 1, 0, .null),
  (16, .iload_n 2, 17, 2, 0, .null),
  (17, .invokevirtual 289, 20, 34, 3, .retAddr 302),
  (20, .ireturn, 21, 0, 0, .null)]
def k_C_fits : List (Nat × Ent) := [
  (0, .iload_n 1, 1, 1, 0, .null),
  (1, .tableswitch 42 0 2 #[27, 32, 37], 28, 0, 0, .null),
  (28, .aload_n 0, 29, 0, 0, .null),
  (29, .invokevirtual 293, 32, 119, 1, .retAddr 305),
  (32, .ireturn, 33, 0, 0, .null),
  (33, .aload_n 0, 34, 0, 0, .null),
  (34, .invokevirtual 296, 37, 123, 1, .retAddr 305),
  (37, .ireturn, 38, 0, 0, .null),
  (38, .aload_n 0, 39, 0, 0, .null),
  (39, .invokevirtual 299, 42, 124, 1, .retAddr 305),
  (42, .ireturn, 43, 0, 0, .null),
  (43, .ldc 66, 45, 0, 0, .int (-1000000002)),
  (45, .ireturn, 46, 0, 0, .null)]
def k_C_look : List (Nat × Ent) := [
  (0, .aload_n 0, 1, 0, 0, .null),
  (1, .invokevirtual 293, 4, 119, 1, .retAddr 305),
  (4, .istore_n 1, 5, 1, 0, .null),
  (5, .aload_n 0, 6, 0, 0, .null),
  (6, .invokevirtual 302, 9, 121, 1, .retAddr 305),
  (9, .iconst (-1), 10, 0, 0, .int (-1)),
  (10, .istore_n 2, 11, 2, 0, .null),
  (11, .iload_n 1, 12, 1, 0, .null),
  (12, .istore_n 3, 13, 3, 0, .null),
  (13, .iconst 0, 14, 0, 0, .int 0),
  (14, .istore 4, 16, 4, 0, .null),
  (16, .iload 4, 18, 4, 0, .null),
  (18, .aload_n 0, 19, 0, 0, .null),
  (19, .getfield 19, 22, 5, 1, .null),
  (22, .invokevirtual 305, 25, 15, 1, .retAddr 101),
  (25, .if_icmp .ge 42, 28, 67, 0, .null),
  (28, .aload_n 0, 29, 0, 0, .null),
  (29, .getfield 63, 32, 5, 12, .null),
  (32, .iload 4, 34, 4, 0, .null),
  (34, .iaload, 35, 0, 0, .null),
  (35, .iload_n 1, 36, 1, 0, .null),
  (36, .aload_n 0, 37, 0, 0, .null),
  (37, .getfield 63, 40, 5, 12, .null),
  (40, .iload 4, 42, 4, 0, .null),
  (42, .iaload, 43, 0, 0, .null),
  (43, .isub, 44, 0, 0, .null),
  (44, .invokestatic 308, 47, 990, 0, .null),
  (47, .istore 5, 49, 5, 0, .null),
  (49, .iload 5, 51, 5, 0, .null),
  (51, .iload_n 3, 52, 3, 0, .null),
  (52, .if_icmp .ge 9, 55, 61, 0, .null),
  (55, .iload 4, 57, 4, 0, .null),
  (57, .istore_n 2, 58, 2, 0, .null),
  (58, .iload 5, 60, 5, 0, .null),
  (60, .istore_n 3, 61, 3, 0, .null),
  (61, .iinc 4 1, 64, 4, 0, .int 1),
  (64, .goto (-48), 67, 16, 0, .null),
  (67, .iload_n 2, 68, 2, 0, .null),
  (68, .ireturn, 69, 0, 0, .null)]
def k_C_write : List (Nat × Ent) := [
  (0, .iload_n 1, 1, 1, 0, .null),
  (1, .ifCond .lt 9, 4, 10, 0, .null),
  (4, .iload_n 1, 5, 1, 0, .null),
  (5, .bipush 99, 7, 0, 0, .int 99),
  (7, .if_icmp .le 6, 10, 13, 0, .null),
  (10, .ldc 66, 12, 0, 0, .int (-1000000002)),
  (12, .ireturn, 13, 0, 0, .null),
  (13, .aload_n 0, 14, 0, 0, .null),
  (14, .getfield 59, 17, 5, 11, .null),
  (17, .iload_n 1, 18, 1, 0, .null),
  (18, .invokevirtual 313, 21, 36, 2, .retAddr 202),
  (21, .ireturn, 22, 0, 0, .null)]
def k_C_judge : List (Nat × Ent) := [
  (0, .aload_n 0, 1, 0, 0, .null),
  (1, .getfield 59, 4, 5, 11, .null),
  (4, .aload_n 0, 5, 0, 0, .null),
  (5, .invokevirtual 126, 8, 98, 1, .retAddr 105),
  (8, .invokevirtual 316, 11, 37, 2, .retAddr 302),
  (11, .ireturn, 12, 0, 0, .null)]
def k_C_tear : List (Nat × Ent) := [
  (0, .aload_n 0, 1, 0, 0, .null),
  (1, .getfield 59, 4, 5, 11, .null),
  (4, .getfield 151, 7, 2, 3, .null),
  (7, .aload_n 0, 8, 0, 0, .null),
  (8, .getfield 59, 11, 5, 11, .null),
  (11, .getfield 154, 14, 2, 4, .null),
  (14, .iadd, 15, 0, 0, .null),
  (15, .istore_n 1, 16, 1, 0, .null),
  (16, .aload_n 0, 17, 0, 0, .null),
  (17, .getfield 59, 20, 5, 11, .null),
  (20, .invokevirtual 85, 23, 33, 1, .retAddr 102),
  (23, .iload_n 1, 24, 1, 0, .null),
  (24, .ireturn, 25, 0, 0, .null)]
def k_C_seed : List (Nat × Ent) := [
  (0, .iload_n 1, 1, 1, 0, .null),
  (1, .ifCond .ge 6, 4, 7, 0, .null),
  (4, .ldc 66, 6, 0, 0, .int (-1000000002)),
  (6, .ireturn, 7, 0, 0, .null),
  (7, .aload_n 0, 8, 0, 0, .null),
  (8, .getfield 319, 11, 5, 13, .null),
  (11, .istore_n 2, 12, 2, 0, .null),
  (12, .aload_n 0, 13, 0, 0, .null),
  (13, .iload_n 1, 14, 1, 0, .null),
  (14, .putfield 319, 17, 5, 13, .null),
  (17, .iload_n 2, 18, 2, 0, .null),
  (18, .ireturn, 19, 0, 0, .null)]
def k_C_keep : List (Nat × Ent) := [
  (0, .aload_n 0, 1, 0, 0, .null),
  (1, .iload_n 1, 2, 1, 0, .null),
  (2, .invokevirtual 322, 5, 93, 2, .retAddr 205),
  (5, .ifCond .ne 6, 8, 11, 0, .null),
  (8, .ldc 164, 10, 0, 0, .int (-1000000001)),
  (10, .ireturn, 11, 0, 0, .null),
  (11, .aload_n 0, 12, 0, 0, .null),
  (12, .getfield 45, 15, 5, 8, .null),
  (15, .iload_n 1, 16, 1, 0, .null),
  (16, .aload_n 0, 17, 0, 0, .null),
  (17, .getfield 29, 20, 5, 3, .null),
  (20, .invokevirtual 325, 23, 53, 3, .retAddr 404),
  (23, .aload_n 0, 24, 0, 0, .null),
  (24, .getfield 48, 27, 5, 9, .null),
  (27, .iload_n 1, 28, 1, 0, .null),
  (28, .aload_n 0, 29, 0, 0, .null),
  (29, .getfield 319, 32, 5, 13, .null),
  (32, .iastore, 33, 0, 0, .null),
  (33, .aload_n 0, 34, 0, 0, .null),
  (34, .getfield 52, 37, 5, 10, .null),
  (37, .iload_n 1, 38, 1, 0, .null),
  (38, .iconst 1, 39, 0, 0, .int 1),
  (39, .bastore, 40, 0, 0, .null),
  (40, .aload_n 0, 41, 0, 0, .null),
  (41, .invokevirtual 88, 44, 106, 1, .retAddr 105),
  (44, .iconst 1, 45, 0, 0, .int 1),
  (45, .ireturn, 46, 0, 0, .null)]
def k_C_goBack : List (Nat × Ent) := [
  (0, .aload_n 0, 1, 0, 0, .null),
  (1, .iload_n 1, 2, 1, 0, .null),
  (2, .invokevirtual 322, 5, 93, 2, .retAddr 205),
  (5, .ifCond .ne 6, 8, 11, 0, .null),
  (8, .ldc 164, 10, 0, 0, .int (-1000000001)),
  (10, .ireturn, 11, 0, 0, .null),
  (11, .aload_n 0, 12, 0, 0, .null),
  (12, .getfield 52, 15, 5, 10, .null),
  (15, .iload_n 1, 16, 1, 0, .null),
  (16, .baload, 17, 0, 0, .null),
  (17, .ifCond .ne 6, 20, 23, 0, .null),
  (20, .ldc 198, 22, 0, 0, .int (-1000000003)),
  (22, .ireturn, 23, 0, 0, .null),
  (23, .aload_n 0, 24, 0, 0, .null),
  (24, .getfield 45, 27, 5, 8, .null),
  (27, .iload_n 1, 28, 1, 0, .null),
  (28, .aload_n 0, 29, 0, 0, .null),
  (29, .getfield 29, 32, 5, 3, .null),
  (32, .invokevirtual 244, 35, 54, 3, .retAddr 404),
  (35, .aload_n 0, 36, 0, 0, .null),
  (36, .aload_n 0, 37, 0, 0, .null),
  (37, .getfield 48, 40, 5, 9, .null),
  (40, .iload_n 1, 41, 1, 0, .null),
  (41, .iaload, 42, 0, 0, .null),
  (42, .putfield 319, 45, 5, 13, .null),
  (45, .aload_n 0, 46, 0, 0, .null),
  (46, .invokevirtual 88, 49, 106, 1, .retAddr 105),
  (49, .iconst 1, 50, 0, 0, .int 1),
  (50, .ireturn, 51, 0, 0, .null)]
def k_C_has : List (Nat × Ent) := [
  (0, .iload_n 2, 1, 2, 0, .null),
  (1, .ifCond .lt 23, 4, 24, 0, .null),
  (4, .iload_n 2, 5, 2, 0, .null),
  (5, .bipush 49, 7, 0, 0, .int 49),
  (7, .if_icmp .ge 17, 10, 24, 0, .null),
  (10, .lload_n 0, 11, 0, 0, .null),
  (11, .iload_n 2, 12, 2, 0, .null),
  (12, .lushr, 13, 0, 0, .null),
  (13, .lconst 1, 14, 0, 0, .long 1),
  (14, .land, 15, 0, 0, .null),
  (15, .lconst 0, 16, 0, 0, .long 0),
  (16, .lcmp, 17, 0, 0, .null),
  (17, .ifCond .eq 7, 20, 24, 0, .null),
  (20, .iconst 1, 21, 0, 0, .int 1),
  (21, .goto 4, 24, 25, 0, .null),
  (24, .iconst 0, 25, 0, 0, .int 0),
  (25, .ireturn, 26, 0, 1, .null)]
def k_C_leastOf : List (Nat × Ent) := [
  (0, .lload_n 0, 1, 0, 0, .null),
  (1, .lconst 0, 2, 0, 0, .long 0),
  (2, .lcmp, 3, 0, 0, .null),
  (3, .ifCond .ne 7, 6, 10, 0, .null),
  (6, .iconst (-1), 7, 0, 0, .int (-1)),
  (7, .goto 12, 10, 19, 0, .null),
  (10, .lload_n 0, 11, 0, 0, .null),
  (11, .lload_n 0, 12, 0, 0, .null),
  (12, .lneg, 13, 0, 0, .null),
  (13, .land, 14, 0, 0, .null),
  (14, .lconst 1, 15, 0, 0, .long 1),
  (15, .lsub, 16, 0, 0, .null),
  (16, .invokestatic 107, 19, 212, 1, .retAddr 299),
  (19, .ireturn, 20, 0, 0, .null)]
def k_C_hasNorth : List (Nat × Ent) := [
  (0, .aload_n 0, 1, 0, 0, .null),
  (1, .getfield 19, 4, 5, 1, .null),
  (4, .getfield 97, 7, 1, 0, .null),
  (7, .ifCond .le 7, 10, 14, 0, .null),
  (10, .iconst 1, 11, 0, 0, .int 1),
  (11, .goto 4, 14, 15, 0, .null),
  (14, .iconst 0, 15, 0, 0, .int 0),
  (15, .ireturn, 16, 0, 1, .null)]
def k_C_isCell : List (Nat × Ent) := [
  (0, .iload_n 1, 1, 1, 0, .null),
  (1, .ifCond .lt 18, 4, 19, 0, .null),
  (4, .iload_n 1, 5, 1, 0, .null),
  (5, .aload_n 0, 6, 0, 0, .null),
  (6, .getfield 19, 9, 5, 1, .null),
  (9, .invokevirtual 305, 12, 15, 1, .retAddr 101),
  (12, .if_icmp .ge 7, 15, 19, 0, .null),
  (15, .iconst 1, 16, 0, 0, .int 1),
  (16, .goto 4, 19, 20, 0, .null),
  (19, .iconst 0, 20, 0, 0, .int 0),
  (20, .ireturn, 21, 0, 1, .null)]
def k_C_isPerson : List (Nat × Ent) := [
  (0, .iload_n 1, 1, 1, 0, .null),
  (1, .ifCond .lt 18, 4, 19, 0, .null),
  (4, .iload_n 1, 5, 1, 0, .null),
  (5, .aload_n 0, 6, 0, 0, .null),
  (6, .getfield 19, 9, 5, 1, .null),
  (9, .getfield 91, 12, 1, 2, .null),
  (12, .if_icmp .ge 7, 15, 19, 0, .null),
  (15, .iconst 1, 16, 0, 0, .int 1),
  (16, .goto 4, 19, 20, 0, .null),
  (19, .iconst 0, 20, 0, 0, .int 0),
  (20, .ireturn, 21, 0, 1, .null)]
def k_C_isImage : List (Nat × Ent) := [
  (0, .iload_n 1, 1, 1, 0, .null),
  (1, .ifCond .lt 12, 4, 13, 0, .null),
  (4, .iload_n 1, 5, 1, 0, .null),
  (5, .iconst 2, 6, 0, 0, .int 2),
  (6, .if_icmp .ge 7, 9, 13, 0, .null),
  (9, .iconst 1, 10, 0, 0, .int 1),
  (10, .goto 4, 13, 14, 0, .null),
  (13, .iconst 0, 14, 0, 0, .int 0),
  (14, .ireturn, 15, 0, 1, .null)]
def k_C_everybody : List (Nat × Ent) := [
  (0, .iconst 1, 1, 0, 0, .int 1),
  (1, .aload_n 0, 2, 0, 0, .null),
  (2, .getfield 19, 5, 5, 1, .null),
  (5, .getfield 91, 8, 1, 2, .null),
  (8, .ishl, 9, 0, 0, .null),
  (9, .iconst 1, 10, 0, 0, .int 1),
  (10, .isub, 11, 0, 0, .null),
  (11, .ireturn, 12, 0, 0, .null)]
def k_C_whoLies : List (Nat × Ent) := [
  (0, .iconst 0, 1, 0, 0, .int 0),
  (1, .istore_n 1, 2, 1, 0, .null),
  (2, .iconst 0, 3, 0, 0, .int 0),
  (3, .istore_n 2, 4, 2, 0, .null),
  (4, .iload_n 2, 5, 2, 0, .null),
  (5, .aload_n 0, 6, 0, 0, .null),
  (6, .getfield 19, 9, 5, 1, .null),
  (9, .getfield 91, 12, 1, 2, .null),
  (12, .if_icmp .ge 28, 15, 40, 0, .null),
  (15, .aload_n 0, 16, 0, 0, .null),
  (16, .getfield 29, 19, 5, 3, .null),
  (19, .getfield 184, 22, 0, 1, .null),
  (22, .iload_n 2, 23, 2, 0, .null),
  (23, .iaload, 24, 0, 0, .null),
  (24, .iconst (-1), 25, 0, 0, .int (-1)),
  (25, .if_icmp .eq 9, 28, 34, 0, .null),
  (28, .iload_n 1, 29, 1, 0, .null),
  (29, .iconst 1, 30, 0, 0, .int 1),
  (30, .iload_n 2, 31, 2, 0, .null),
  (31, .ishl, 32, 0, 0, .null),
  (32, .ior, 33, 0, 0, .null),
  (33, .istore_n 1, 34, 1, 0, .null),
  (34, .iinc 2 1, 37, 2, 0, .int 1),
  (37, .goto (-33), 40, 4, 0, .null),
  (40, .iload_n 1, 41, 1, 0, .null),
  (41, .ireturn, 42, 0, 0, .null)]
def k_C_whoIsAt : List (Nat × Ent) := [
  (0, .iconst 0, 1, 0, 0, .int 0),
  (1, .istore_n 2, 2, 2, 0, .null),
  (2, .iload_n 2, 3, 2, 0, .null),
  (3, .aload_n 0, 4, 0, 0, .null),
  (4, .getfield 19, 7, 5, 1, .null),
  (7, .getfield 91, 10, 1, 2, .null),
  (10, .if_icmp .ge 24, 13, 34, 0, .null),
  (13, .aload_n 0, 14, 0, 0, .null),
  (14, .getfield 29, 17, 5, 3, .null),
  (17, .getfield 184, 20, 0, 1, .null),
  (20, .iload_n 2, 21, 2, 0, .null),
  (21, .iaload, 22, 0, 0, .null),
  (22, .iload_n 1, 23, 1, 0, .null),
  (23, .if_icmp .ne 5, 26, 28, 0, .null),
  (26, .iload_n 2, 27, 2, 0, .null),
  (27, .ireturn, 28, 0, 0, .null),
  (28, .iinc 2 1, 31, 2, 0, .int 1),
  (31, .goto (-29), 34, 2, 0, .null),
  (34, .iconst (-1), 35, 0, 0, .int (-1)),
  (35, .ireturn, 36, 0, 0, .null)]
def k_C_shapeLeftBy : List (Nat × Ent) := [
  (0, .aload_n 0, 1, 0, 0, .null),
  (1, .getfield 29, 4, 5, 3, .null),
  (4, .getfield 184, 7, 0, 1, .null),
  (7, .iload_n 1, 8, 1, 0, .null),
  (8, .iaload, 9, 0, 0, .null),
  (9, .iconst (-1), 10, 0, 0, .int (-1)),
  (10, .if_icmp .ne 7, 13, 17, 0, .null),
  (13, .lconst 0, 14, 0, 0, .long 0),
  (14, .goto 28, 17, 42, 0, .null),
  (17, .aload_n 0, 18, 0, 0, .null),
  (18, .getfield 19, 21, 5, 1, .null),
  (21, .aload_n 0, 22, 0, 0, .null),
  (22, .getfield 19, 25, 5, 1, .null),
  (25, .getfield 181, 28, 1, 8, .null),
  (28, .iload_n 1, 29, 1, 0, .null),
  (29, .iaload, 30, 0, 0, .null),
  (30, .aload_n 0, 31, 0, 0, .null),
  (31, .getfield 29, 34, 5, 3, .null),
  (34, .getfield 184, 37, 0, 1, .null),
  (37, .iload_n 1, 38, 1, 0, .null),
  (38, .iaload, 39, 0, 0, .null),
  (39, .invokevirtual 206, 42, 21, 3, .retAddr 301),
  (42, .lreturn, 43, 0, 0, .null)]
def k_C_countNow : List (Nat × Ent) := [
  (0, .aload_n 0, 1, 0, 0, .null),
  (1, .getfield 19, 4, 5, 1, .null),
  (4, .aload_n 0, 5, 0, 0, .null),
  (5, .getfield 29, 8, 5, 3, .null),
  (8, .invokevirtual 132, 11, 4, 1, .retAddr 100),
  (11, .invokevirtual 254, 14, 27, 2, .retAddr 901),
  (14, .ireturn, 15, 0, 0, .null)]
def k_C_truth : List (Nat × Ent) := [
  (0, .iconst 0, 1, 0, 0, .int 0),
  (1, .istore_n 1, 2, 1, 0, .null),
  (2, .iconst 0, 3, 0, 0, .int 0),
  (3, .istore_n 2, 4, 2, 0, .null),
  (4, .iload_n 2, 5, 2, 0, .null),
  (5, .aload_n 0, 6, 0, 0, .null),
  (6, .getfield 19, 9, 5, 1, .null),
  (9, .getfield 91, 12, 1, 2, .null),
  (12, .if_icmp .ge 43, 15, 55, 0, .null),
  (15, .aload_n 0, 16, 0, 0, .null),
  (16, .getfield 29, 19, 5, 3, .null),
  (19, .getfield 184, 22, 0, 1, .null),
  (22, .iload_n 2, 23, 2, 0, .null),
  (23, .iaload, 24, 0, 0, .null),
  (24, .iconst (-1), 25, 0, 0, .int (-1)),
  (25, .if_icmp .eq 24, 28, 49, 0, .null),
  (28, .iload_n 1, 29, 1, 0, .null),
  (29, .aload_n 0, 30, 0, 0, .null),
  (30, .getfield 19, 33, 5, 1, .null),
  (33, .getfield 181, 36, 1, 8, .null),
  (36, .iload_n 2, 37, 2, 0, .null),
  (37, .iaload, 38, 0, 0, .null),
  (38, .iconst 2, 39, 0, 0, .int 2),
  (39, .if_icmp .ne 7, 42, 46, 0, .null),
  (42, .iconst 2, 43, 0, 0, .int 2),
  (43, .goto 4, 46, 47, 0, .null),
  (46, .iconst 1, 47, 0, 0, .int 1),
  (47, .iadd, 48, 0, 0, .null),
  (48, .istore_n 1, 49, 1, 0, .null),
  (49, .iinc 2 1, 52, 2, 0, .int 1),
  (52, .goto (-48), 55, 4, 0, .null),
  (55, .iload_n 1, 56, 1, 0, .null),
  (56, .ireturn, 57, 0, 0, .null)]
def k_C_farOut : List (Nat × Ent) := [
  (0, .iconst (-1), 1, 0, 0, .int (-1)),
  (1, .istore_n 1, 2, 1, 0, .null),
  (2, .iconst (-1), 3, 0, 0, .int (-1)),
  (3, .istore_n 2, 4, 2, 0, .null),
  (4, .iconst 0, 5, 0, 0, .int 0),
  (5, .istore_n 3, 6, 3, 0, .null),
  (6, .iload_n 3, 7, 3, 0, .null),
  (7, .aload_n 0, 8, 0, 0, .null),
  (8, .getfield 19, 11, 5, 1, .null),
  (11, .getfield 91, 14, 1, 2, .null),
  (14, .if_icmp .ge 27, 17, 41, 0, .null),
  (17, .aload_n 0, 18, 0, 0, .null),
  (18, .iload_n 3, 19, 3, 0, .null),
  (19, .invokevirtual 328, 22, 101, 2, .retAddr 505),
  (22, .istore 4, 24, 4, 0, .null),
  (24, .iload 4, 26, 4, 0, .null),
  (26, .iload_n 2, 27, 2, 0, .null),
  (27, .if_icmp .le 8, 30, 35, 0, .null),
  (30, .iload_n 3, 31, 3, 0, .null),
  (31, .istore_n 1, 32, 1, 0, .null),
  (32, .iload 4, 34, 4, 0, .null),
  (34, .istore_n 2, 35, 2, 0, .null),
  (35, .iinc 3 1, 38, 3, 0, .int 1),
  (38, .goto (-32), 41, 6, 0, .null),
  (41, .iload_n 1, 42, 1, 0, .null),
  (42, .ireturn, 43, 0, 0, .null)]
def k_C_stepsToNearest : List (Nat × Ent) := [
  (0, .iconst (-1), 1, 0, 0, .int (-1)),
  (1, .istore_n 2, 2, 2, 0, .null),
  (2, .iconst 0, 3, 0, 0, .int 0),
  (3, .istore_n 3, 4, 3, 0, .null),
  (4, .iload_n 3, 5, 3, 0, .null),
  (5, .aload_n 0, 6, 0, 0, .null),
  (6, .getfield 19, 9, 5, 1, .null),
  (9, .getfield 91, 12, 1, 2, .null),
  (12, .if_icmp .ge 84, 15, 96, 0, .null),
  (15, .iload_n 3, 16, 3, 0, .null),
  (16, .iload_n 1, 17, 1, 0, .null),
  (17, .if_icmp .eq 73, 20, 90, 0, .null),
  (20, .aload_n 0, 21, 0, 0, .null),
  (21, .getfield 29, 24, 5, 3, .null),
  (24, .getfield 184, 27, 0, 1, .null),
  (27, .iload_n 1, 28, 1, 0, .null),
  (28, .iaload, 29, 0, 0, .null),
  (29, .iconst (-1), 30, 0, 0, .int (-1)),
  (30, .if_icmp .eq 60, 33, 90, 0, .null),
  (33, .aload_n 0, 34, 0, 0, .null),
  (34, .getfield 29, 37, 5, 3, .null),
  (37, .getfield 184, 40, 0, 1, .null),
  (40, .iload_n 3, 41, 3, 0, .null),
  (41, .iaload, 42, 0, 0, .null),
  (42, .iconst (-1), 43, 0, 0, .int (-1)),
  (43, .if_icmp .eq 47, 46, 90, 0, .null),
  (46, .aload_n 0, 47, 0, 0, .null),
  (47, .getfield 19, 50, 5, 1, .null),
  (50, .aload_n 0, 51, 0, 0, .null),
  (51, .getfield 29, 54, 5, 3, .null),
  (54, .getfield 184, 57, 0, 1, .null),
  (57, .iload_n 1, 58, 1, 0, .null),
  (58, .iaload, 59, 0, 0, .null),
  (59, .aload_n 0, 60, 0, 0, .null),
  (60, .getfield 29, 63, 5, 3, .null),
  (63, .getfield 184, 66, 0, 1, .null),
  (66, .iload_n 3, 67, 3, 0, .null),
  (67, .iaload, 68, 0, 0, .null),
  (68, .invokevirtual 331, 71, 20, 3, .retAddr 301),
  (71, .istore 4, 73, 4, 0, .null),
  (73, .iload_n 2, 74, 2, 0, .null),
  (74, .iconst (-1), 75, 0, 0, .int (-1)),
  (75, .if_icmp .ne 8, 78, 83, 0, .null),
  (78, .iload 4, 80, 4, 0, .null),
  (80, .goto 9, 83, 89, 0, .null),
  (83, .iload_n 2, 84, 2, 0, .null),
  (84, .iload 4, 86, 4, 0, .null),
  (86, .invokestatic 334, 89, 991, 0, .null),
  (89, .istore_n 2, 90, 2, 0, .null),
  (90, .iinc 3 1, 93, 3, 0, .int 1),
  (93, .goto (-89), 96, 4, 0, .null),
  (96, .iload_n 2, 97, 2, 0, .null),
  (97, .ireturn, 98, 0, 0, .null)]
def k_C_refusalOfNights : List (Nat × Ent) := [
  (0, .iload_n 1, 1, 1, 0, .null),
  (1, .iconst 1, 2, 0, 0, .int 1),
  (2, .if_icmp .lt 9, 5, 11, 0, .null),
  (5, .iload_n 1, 6, 1, 0, .null),
  (6, .bipush 20, 8, 0, 0, .int 20),
  (8, .if_icmp .le 6, 11, 14, 0, .null),
  (11, .ldc 66, 13, 0, 0, .int (-1000000002)),
  (13, .ireturn, 14, 0, 0, .null),
  (14, .aload_n 0, 15, 0, 0, .null),
  (15, .invokevirtual 216, 18, 90, 1, .retAddr 105),
  (18, .ifCond .ne 6, 21, 24, 0, .null),
  (21, .ldc 198, 23, 0, 0, .int (-1000000003)),
  (23, .ireturn, 24, 0, 0, .null),
  (24, .aload_n 0, 25, 0, 0, .null),
  (25, .getfield 29, 28, 5, 3, .null),
  (28, .getfield 116, 31, 0, 3, .null),
  (31, .sipush 9000, 34, 0, 0, .int 9000),
  (34, .if_icmp .le 9, 37, 43, 0, .null),
  (37, .ldc_w 337, 40, 0, 0, .int (-1000000004)),
  (40, .goto 4, 43, 44, 0, .null),
  (43, .iconst 0, 44, 0, 0, .int 0),
  (44, .ireturn, 45, 0, 0, .null)]
def k_C_layDown : List (Nat × Ent) := [
  (0, .aload_n 0, 1, 0, 0, .null),
  (1, .getfield 29, 4, 5, 3, .null),
  (4, .getfield 184, 7, 0, 1, .null),
  (7, .iload_n 1, 8, 1, 0, .null),
  (8, .iload_n 2, 9, 2, 0, .null),
  (9, .iastore, 10, 0, 0, .null),
  (10, .aload_n 0, 11, 0, 0, .null),
  (11, .getfield 29, 14, 5, 3, .null),
  (14, .aload_n 0, 15, 0, 0, .null),
  (15, .getfield 19, 18, 5, 1, .null),
  (18, .aload_n 0, 19, 0, 0, .null),
  (19, .getfield 19, 22, 5, 1, .null),
  (22, .getfield 181, 25, 1, 8, .null),
  (25, .iload_n 1, 26, 1, 0, .null),
  (26, .iaload, 27, 0, 0, .null),
  (27, .iload_n 2, 28, 2, 0, .null),
  (28, .invokevirtual 206, 31, 21, 3, .retAddr 301),
  (31, .invokevirtual 338, 34, 6, 2, .retAddr 400),
  (34, .return_, 35, 0, 0, .null)]
def k_C_remember : List (Nat × Ent) := [
  (0, .aload_n 0, 1, 0, 0, .null),
  (1, .getfield 157, 4, 5, 7, .null),
  (4, .bipush 30, 6, 0, 0, .int 30),
  (6, .if_icmp .ne 26, 9, 32, 0, .null),
  (9, .aload_n 0, 10, 0, 0, .null),
  (10, .aload_n 0, 11, 0, 0, .null),
  (11, .getfield 341, 14, 5, 6, .null),
  (14, .iconst 1, 15, 0, 0, .int 1),
  (15, .iadd, 16, 0, 0, .null),
  (16, .bipush 30, 18, 0, 0, .int 30),
  (18, .irem, 19, 0, 0, .null),
  (19, .putfield 341, 22, 5, 6, .null),
  (22, .aload_n 0, 23, 0, 0, .null),
  (23, .dup, 24, 0, 0, .null),
  (24, .getfield 157, 27, 5, 7, .null),
  (27, .iconst 1, 28, 0, 0, .int 1),
  (28, .isub, 29, 0, 0, .null),
  (29, .putfield 157, 32, 5, 7, .null),
  (32, .aload_n 0, 33, 0, 0, .null),
  (33, .getfield 41, 36, 5, 5, .null),
  (36, .aload_n 0, 37, 0, 0, .null),
  (37, .aload_n 0, 38, 0, 0, .null),
  (38, .getfield 157, 41, 5, 7, .null),
  (41, .invokevirtual 241, 44, 105, 2, .retAddr 205),
  (44, .aload_n 0, 45, 0, 0, .null),
  (45, .getfield 29, 48, 5, 3, .null),
  (48, .invokevirtual 325, 51, 53, 3, .retAddr 404),
  (51, .aload_n 0, 52, 0, 0, .null),
  (52, .dup, 53, 0, 0, .null),
  (53, .getfield 157, 56, 5, 7, .null),
  (56, .iconst 1, 57, 0, 0, .int 1),
  (57, .iadd, 58, 0, 0, .null),
  (58, .putfield 157, 61, 5, 7, .null),
  (61, .return_, 62, 0, 0, .null)]
def k_C_placeOfDeed : List (Nat × Ent) := [
  (0, .aload_n 0, 1, 0, 0, .null),
  (1, .getfield 341, 4, 5, 6, .null),
  (4, .iload_n 1, 5, 1, 0, .null),
  (5, .iadd, 6, 0, 0, .null),
  (6, .bipush 30, 8, 0, 0, .int 30),
  (8, .irem, 9, 0, 0, .null),
  (9, .ireturn, 10, 0, 0, .null)]
def k_C_forgetDeeds : List (Nat × Ent) := [
  (0, .aload_n 0, 1, 0, 0, .null),
  (1, .iconst 0, 2, 0, 0, .int 0),
  (2, .putfield 341, 5, 5, 6, .null),
  (5, .aload_n 0, 6, 0, 0, .null),
  (6, .iconst 0, 7, 0, 0, .int 0),
  (7, .putfield 157, 10, 5, 7, .null),
  (10, .return_, 11, 0, 0, .null)]
def k_C_draw : List (Nat × Ent) := [
  (0, .aload_n 0, 1, 0, 0, .null),
  (1, .aload_n 0, 2, 0, 0, .null),
  (2, .getfield 319, 5, 5, 13, .null),
  (5, .ldc_w 344, 8, 0, 0, .int 1103515245),
  (8, .imul, 9, 0, 0, .null),
  (9, .sipush 12345, 12, 0, 0, .int 12345),
  (12, .iadd, 13, 0, 0, .null),
  (13, .ldc_w 345, 16, 0, 0, .int 2147483647),
  (16, .iand, 17, 0, 0, .null),
  (17, .putfield 319, 20, 5, 13, .null),
  (20, .iload_n 1, 21, 1, 0, .null),
  (21, .iconst 1, 22, 0, 0, .int 1),
  (22, .if_icmp .ge 7, 25, 29, 0, .null),
  (25, .iconst 0, 26, 0, 0, .int 0),
  (26, .goto 13, 29, 39, 0, .null),
  (29, .aload_n 0, 30, 0, 0, .null),
  (30, .getfield 319, 33, 5, 13, .null),
  (33, .ldc_w 346, 36, 0, 0, .int 65536),
  (36, .idiv, 37, 0, 0, .null),
  (37, .iload_n 1, 38, 1, 0, .null),
  (38, .irem, 39, 0, 0, .null),
  (39, .ireturn, 40, 0, 0, .null)]
def k_C_happenByDraw : List (Nat × Ent) := [
  (0, .aload_n 0, 1, 0, 0, .null),
  (1, .bipush 8, 3, 0, 0, .int 8),
  (3, .invokevirtual 347, 6, 107, 2, .retAddr 205),
  (6, .tableswitch 69 0 3 #[30, 37, 44, 54], 36, 0, 0, .null),
  (36, .aload_n 0, 37, 0, 0, .null),
  (37, .invokevirtual 350, 40, 109, 1, .retAddr 305),
  (40, .goto 35, 43, 75, 0, .null),
  (43, .aload_n 0, 44, 0, 0, .null),
  (44, .invokevirtual 353, 47, 110, 1, .retAddr 205),
  (47, .goto 28, 50, 75, 0, .null),
  (50, .aload_n 0, 51, 0, 0, .null),
  (51, .getfield 29, 54, 5, 3, .null),
  (54, .invokevirtual 223, 57, 9, 1, .retAddr 200),
  (57, .goto 18, 60, 75, 0, .null),
  (60, .aload_n 0, 61, 0, 0, .null),
  (61, .getfield 29, 64, 5, 3, .null),
  (64, .aload_n 0, 65, 0, 0, .null),
  (65, .iconst 5, 66, 0, 0, .int 5),
  (66, .invokevirtual 347, 69, 107, 2, .retAddr 205),
  (69, .putfield 119, 72, 0, 2, .null),
  (72, .goto 3, 75, 75, 0, .null),
  (75, .return_, 76, 0, 0, .null)]
def k_C_lieByDraw : List (Nat × Ent) := [
  (0, .aload_n 0, 1, 0, 0, .null),
  (1, .getfield 19, 4, 5, 1, .null),
  (4, .getfield 91, 7, 1, 2, .null),
  (7, .ifCond .ne 4, 10, 11, 0, .null),
  (10, .return_, 11, 0, 0, .null),
  (11, .aload_n 0, 12, 0, 0, .null),
  (12, .aload_n 0, 13, 0, 0, .null),
  (13, .getfield 19, 16, 5, 1, .null),
  (16, .getfield 91, 19, 1, 2, .null),
  (19, .invokevirtual 347, 22, 107, 2, .retAddr 205),
  (22, .istore_n 1, 23, 1, 0, .null),
  (23, .aload_n 0, 24, 0, 0, .null),
  (24, .aload_n 0, 25, 0, 0, .null),
  (25, .getfield 19, 28, 5, 1, .null),
  (28, .invokevirtual 305, 31, 15, 1, .retAddr 101),
  (31, .invokevirtual 347, 34, 107, 2, .retAddr 205),
  (34, .istore_n 2, 35, 2, 0, .null),
  (35, .aload_n 0, 36, 0, 0, .null),
  (36, .iload_n 1, 37, 1, 0, .null),
  (37, .invokevirtual 191, 40, 114, 2, .retAddr 905),
  (40, .iload_n 2, 41, 2, 0, .null),
  (41, .invokestatic 194, 44, 88, 2, .retAddr 305),
  (44, .ifCond .eq 9, 47, 53, 0, .null),
  (47, .aload_n 0, 48, 0, 0, .null),
  (48, .iload_n 1, 49, 1, 0, .null),
  (49, .iload_n 2, 50, 2, 0, .null),
  (50, .invokevirtual 202, 53, 103, 3, .retAddr 305),
  (53, .return_, 54, 0, 0, .null)]
def k_C_hareByDraw : List (Nat × Ent) := [
  (0, .aload_n 0, 1, 0, 0, .null),
  (1, .aload_n 0, 2, 0, 0, .null),
  (2, .getfield 19, 5, 5, 1, .null),
  (5, .invokevirtual 305, 8, 15, 1, .retAddr 101),
  (8, .invokevirtual 347, 11, 107, 2, .retAddr 205),
  (11, .istore_n 1, 12, 1, 0, .null),
  (12, .aload_n 0, 13, 0, 0, .null),
  (13, .getfield 19, 16, 5, 1, .null),
  (16, .iload_n 1, 17, 1, 0, .null),
  (17, .invokevirtual 168, 20, 16, 2, .retAddr 201),
  (20, .ifCond .ne 11, 23, 31, 0, .null),
  (23, .aload_n 0, 24, 0, 0, .null),
  (24, .getfield 29, 27, 5, 3, .null),
  (27, .iload_n 1, 28, 1, 0, .null),
  (28, .invokevirtual 226, 31, 10, 2, .retAddr 200),
  (31, .return_, 32, 0, 0, .null)]
def k_C_canTry : List (Nat × Ent) := [
  (0, .iload_n 1, 1, 1, 0, .null),
  (1, .ifCond .lt 13, 4, 14, 0, .null),
  (4, .iload_n 1, 5, 1, 0, .null),
  (5, .bipush 20, 7, 0, 0, .int 20),
  (7, .if_icmp .gt 7, 10, 14, 0, .null),
  (10, .iconst 1, 11, 0, 0, .int 1),
  (11, .goto 4, 14, 15, 0, .null),
  (14, .iconst 0, 15, 0, 0, .int 0),
  (15, .ireturn, 16, 0, 1, .null)]
def k_C_tryNights : List (Nat × Ent) := [
  (0, .aload_n 0, 1, 0, 0, .null),
  (1, .getfield 33, 4, 5, 4, .null),
  (4, .aload_n 0, 5, 0, 0, .null),
  (5, .getfield 29, 8, 5, 3, .null),
  (8, .invokevirtual 257, 11, 2, 2, .retAddr 200),
  (11, .iconst 0, 12, 0, 0, .int 0),
  (12, .istore_n 2, 13, 2, 0, .null),
  (13, .iload_n 2, 14, 2, 0, .null),
  (14, .iload_n 1, 15, 1, 0, .null),
  (15, .if_icmp .ge 20, 18, 35, 0, .null),
  (18, .aload_n 0, 19, 0, 0, .null),
  (19, .getfield 33, 22, 5, 4, .null),
  (22, .aload_n 0, 23, 0, 0, .null),
  (23, .getfield 19, 26, 5, 1, .null),
  (26, .invokevirtual 213, 29, 7, 2, .retAddr 800),
  (29, .iinc 2 1, 32, 2, 0, .int 1),
  (32, .goto (-19), 35, 13, 0, .null),
  (35, .return_, 36, 0, 0, .null)]
def k_C_bare : List (Nat × Ent) := [
  (0, .aload_n 0, 1, 0, 0, .null),
  (1, .getfield 33, 4, 5, 4, .null),
  (4, .aload_n 0, 5, 0, 0, .null),
  (5, .getfield 29, 8, 5, 3, .null),
  (8, .invokevirtual 257, 11, 2, 2, .retAddr 200),
  (11, .iconst 0, 12, 0, 0, .int 0),
  (12, .istore_n 1, 13, 1, 0, .null),
  (13, .iload_n 1, 14, 1, 0, .null),
  (14, .bipush 9, 16, 0, 0, .int 9),
  (16, .if_icmp .ge 32, 19, 48, 0, .null),
  (19, .aload_n 0, 20, 0, 0, .null),
  (20, .getfield 33, 23, 5, 4, .null),
  (23, .invokevirtual 356, 26, 3, 1, .retAddr 100),
  (26, .lconst 0, 27, 0, 0, .long 0),
  (27, .lcmp, 28, 0, 0, .null),
  (28, .ifCond .eq 20, 31, 48, 0, .null),
  (31, .aload_n 0, 32, 0, 0, .null),
  (32, .getfield 33, 35, 5, 4, .null),
  (35, .aload_n 0, 36, 0, 0, .null),
  (36, .getfield 19, 39, 5, 1, .null),
  (39, .invokevirtual 213, 42, 7, 2, .retAddr 800),
  (42, .iinc 1 1, 45, 1, 0, .int 1),
  (45, .goto (-32), 48, 13, 0, .null),
  (48, .iload_n 1, 49, 1, 0, .null),
  (49, .ireturn, 50, 0, 0, .null)]
def k_C_roomFor : List (Nat × Ent) := [
  (0, .aload_n 0, 1, 0, 0, .null),
  (1, .getfield 29, 4, 5, 3, .null),
  (4, .invokevirtual 356, 7, 3, 1, .retAddr 100),
  (7, .lstore_n 2, 8, 2, 0, .null),
  (8, .lconst 0, 9, 0, 0, .long 0),
  (9, .lstore 4, 11, 4, 0, .null),
  (11, .iconst 0, 12, 0, 0, .int 0),
  (12, .istore 6, 14, 6, 0, .null),
  (14, .iload 6, 16, 6, 0, .null),
  (16, .aload_n 0, 17, 0, 0, .null),
  (17, .getfield 19, 20, 5, 1, .null),
  (20, .invokevirtual 305, 23, 15, 1, .retAddr 101),
  (23, .if_icmp .ge 54, 26, 77, 0, .null),
  (26, .aload_n 0, 27, 0, 0, .null),
  (27, .getfield 19, 30, 5, 1, .null),
  (30, .aload_n 0, 31, 0, 0, .null),
  (31, .getfield 19, 34, 5, 1, .null),
  (34, .getfield 181, 37, 1, 8, .null),
  (37, .iload_n 1, 38, 1, 0, .null),
  (38, .iaload, 39, 0, 0, .null),
  (39, .iload 6, 41, 6, 0, .null),
  (41, .invokevirtual 206, 44, 21, 3, .retAddr 301),
  (44, .lstore 7, 46, 7, 0, .null),
  (46, .lload 7, 48, 7, 0, .null),
  (48, .lconst 0, 49, 0, 0, .long 0),
  (49, .lcmp, 50, 0, 0, .null),
  (50, .ifCond .eq 21, 53, 71, 0, .null),
  (53, .lload 7, 55, 7, 0, .null),
  (55, .lload_n 2, 56, 2, 0, .null),
  (56, .land, 57, 0, 0, .null),
  (57, .lconst 0, 58, 0, 0, .long 0),
  (58, .lcmp, 59, 0, 0, .null),
  (59, .ifCond .ne 12, 62, 71, 0, .null),
  (62, .lload 4, 64, 4, 0, .null),
  (64, .lconst 1, 65, 0, 0, .long 1),
  (65, .iload 6, 67, 6, 0, .null),
  (67, .lshl, 68, 0, 0, .null),
  (68, .lor, 69, 0, 0, .null),
  (69, .lstore 4, 71, 4, 0, .null),
  (71, .iinc 6 1, 74, 6, 0, .int 1),
  (74, .goto (-60), 77, 14, 0, .null),
  (77, .lload 4, 79, 4, 0, .null),
  (79, .lreturn, 80, 0, 0, .null)]
def k_C_bestRoomFor : List (Nat × Ent) := [
  (0, .aload_n 0, 1, 0, 0, .null),
  (1, .iload_n 1, 2, 1, 0, .null),
  (2, .invokevirtual 191, 5, 114, 2, .retAddr 905),
  (5, .lstore_n 3, 6, 3, 0, .null),
  (6, .aload_n 0, 7, 0, 0, .null),
  (7, .getfield 29, 10, 5, 3, .null),
  (10, .invokevirtual 132, 13, 4, 1, .retAddr 100),
  (13, .lstore 5, 15, 5, 0, .null),
  (15, .iconst (-1), 16, 0, 0, .int (-1)),
  (16, .istore 7, 18, 7, 0, .null),
  (18, .iconst 0, 19, 0, 0, .int 0),
  (19, .istore 8, 21, 8, 0, .null),
  (21, .iconst 0, 22, 0, 0, .int 0),
  (22, .istore 9, 24, 9, 0, .null),
  (24, .iload 9, 26, 9, 0, .null),
  (26, .aload_n 0, 27, 0, 0, .null),
  (27, .getfield 19, 30, 5, 1, .null),
  (30, .invokevirtual 305, 33, 15, 1, .retAddr 101),
  (33, .if_icmp .ge 71, 36, 104, 0, .null),
  (36, .lload_n 3, 37, 3, 0, .null),
  (37, .iload 9, 39, 9, 0, .null),
  (39, .invokestatic 194, 42, 88, 2, .retAddr 305),
  (42, .ifCond .eq 56, 45, 98, 0, .null),
  (45, .iload_n 2, 46, 2, 0, .null),
  (46, .aload_n 0, 47, 0, 0, .null),
  (47, .getfield 19, 50, 5, 1, .null),
  (50, .lload 5, 52, 5, 0, .null),
  (52, .aload_n 0, 53, 0, 0, .null),
  (53, .getfield 19, 56, 5, 1, .null),
  (56, .aload_n 0, 57, 0, 0, .null),
  (57, .getfield 19, 60, 5, 1, .null),
  (60, .getfield 181, 63, 1, 8, .null),
  (63, .iload_n 1, 64, 1, 0, .null),
  (64, .iaload, 65, 0, 0, .null),
  (65, .iload 9, 67, 9, 0, .null),
  (67, .invokevirtual 206, 70, 21, 3, .retAddr 301),
  (70, .lor, 71, 0, 0, .null),
  (71, .invokevirtual 254, 74, 27, 2, .retAddr 901),
  (74, .imul, 75, 0, 0, .null),
  (75, .istore 10, 77, 10, 0, .null),
  (77, .iload 7, 79, 7, 0, .null),
  (79, .iconst (-1), 80, 0, 0, .int (-1)),
  (80, .if_icmp .eq 10, 83, 90, 0, .null),
  (83, .iload 10, 85, 10, 0, .null),
  (85, .iload 8, 87, 8, 0, .null),
  (87, .if_icmp .le 11, 90, 98, 0, .null),
  (90, .iload 9, 92, 9, 0, .null),
  (92, .istore 7, 94, 7, 0, .null),
  (94, .iload 10, 96, 10, 0, .null),
  (96, .istore 8, 98, 8, 0, .null),
  (98, .iinc 9 1, 101, 9, 0, .int 1),
  (101, .goto (-77), 104, 24, 0, .null),
  (104, .iload 7, 106, 7, 0, .null),
  (106, .ireturn, 107, 0, 0, .null)]
def k_C_shortestRound : List (Nat × Ent) := [
  (0, .iload_n 3, 1, 3, 0, .null),
  (1, .iconst 1, 2, 0, 0, .int 1),
  (2, .if_icmp .lt 8, 5, 10, 0, .null),
  (5, .iload_n 3, 6, 3, 0, .null),
  (6, .iconst 5, 7, 0, 0, .int 5),
  (7, .if_icmp .le 5, 10, 12, 0, .null),
  (10, .lconst 0, 11, 0, 0, .long 0),
  (11, .lreturn, 12, 0, 0, .null),
  (12, .iload_n 3, 13, 3, 0, .null),
  (13, .iconst 1, 14, 0, 0, .int 1),
  (14, .isub, 15, 0, 0, .null),
  (15, .invokestatic 359, 18, 117, 1, .retAddr 405),
  (18, .lstore 4, 20, 4, 0, .null),
  (20, .ldc2_w 232, 23, 0, 0, .long (-1)),
  (23, .lstore 6, 25, 6, 0, .null),
  (25, .iconst 0, 26, 0, 0, .int 0),
  (26, .istore 8, 28, 8, 0, .null),
  (28, .iload 8, 30, 8, 0, .null),
  (30, .aload_n 0, 31, 0, 0, .null),
  (31, .getfield 19, 34, 5, 1, .null),
  (34, .getfield 91, 37, 1, 2, .null),
  (37, .if_icmp .ge 109, 40, 146, 0, .null),
  (40, .iload_n 2, 41, 2, 0, .null),
  (41, .iload 8, 43, 8, 0, .null),
  (43, .ishr, 44, 0, 0, .null),
  (44, .iconst 1, 45, 0, 0, .int 1),
  (45, .iand, 46, 0, 0, .null),
  (46, .ifCond .eq 94, 49, 140, 0, .null),
  (49, .aload_n 0, 50, 0, 0, .null),
  (50, .getfield 19, 53, 5, 1, .null),
  (53, .iload_n 1, 54, 1, 0, .null),
  (54, .aload_n 0, 55, 0, 0, .null),
  (55, .getfield 29, 58, 5, 3, .null),
  (58, .getfield 184, 61, 0, 1, .null),
  (61, .iload 8, 63, 8, 0, .null),
  (63, .iaload, 64, 0, 0, .null),
  (64, .invokevirtual 331, 67, 20, 3, .retAddr 301),
  (67, .i2l, 68, 0, 0, .null),
  (68, .lstore 9, 70, 9, 0, .null),
  (70, .aload_n 0, 71, 0, 0, .null),
  (71, .aload_n 0, 72, 0, 0, .null),
  (72, .getfield 29, 75, 5, 3, .null),
  (75, .getfield 184, 78, 0, 1, .null),
  (78, .iload 8, 80, 8, 0, .null),
  (80, .iaload, 81, 0, 0, .null),
  (81, .iload_n 2, 82, 2, 0, .null),
  (82, .iconst 1, 83, 0, 0, .int 1),
  (83, .iload 8, 85, 8, 0, .null),
  (85, .ishl, 86, 0, 0, .null),
  (86, .iconst (-1), 87, 0, 0, .int (-1)),
  (87, .ixor, 88, 0, 0, .null),
  (88, .iand, 89, 0, 0, .null),
  (89, .iload_n 3, 90, 3, 0, .null),
  (90, .iconst 1, 91, 0, 0, .int 1),
  (91, .isub, 92, 0, 0, .null),
  (92, .invokevirtual 275, 95, 116, 4, .retAddr 1505),
  (95, .lstore 11, 97, 11, 0, .null),
  (97, .lload 9, 99, 9, 0, .null),
  (99, .ldc2_w 279, 102, 0, 0, .long 1000000),
  (102, .lmul, 103, 0, 0, .null),
  (103, .iload 8, 105, 8, 0, .null),
  (105, .iconst 1, 106, 0, 0, .int 1),
  (106, .iadd, 107, 0, 0, .null),
  (107, .i2l, 108, 0, 0, .null),
  (108, .lload 4, 110, 4, 0, .null),
  (110, .lmul, 111, 0, 0, .null),
  (111, .ladd, 112, 0, 0, .null),
  (112, .lload 11, 114, 11, 0, .null),
  (114, .ladd, 115, 0, 0, .null),
  (115, .lstore 13, 117, 13, 0, .null),
  (117, .lload 6, 119, 6, 0, .null),
  (119, .ldc2_w 232, 122, 0, 0, .long (-1)),
  (122, .lcmp, 123, 0, 0, .null),
  (123, .ifCond .ne 8, 126, 131, 0, .null),
  (126, .lload 13, 128, 13, 0, .null),
  (128, .goto 10, 131, 138, 0, .null),
  (131, .lload 6, 133, 6, 0, .null),
  (133, .lload 13, 135, 13, 0, .null),
  (135, .invokestatic 362, 138, 993, 0, .null),
  (138, .lstore 6, 140, 6, 0, .null),
  (140, .iinc 8 1, 143, 8, 0, .int 1),
  (143, .goto (-115), 146, 28, 0, .null),
  (146, .lload 6, 148, 6, 0, .null),
  (148, .lreturn, 149, 0, 0, .null)]
def k_C_tenToThe : List (Nat × Ent) := [
  (0, .lconst 1, 1, 0, 0, .long 1),
  (1, .lstore_n 1, 2, 1, 0, .null),
  (2, .iconst 0, 3, 0, 0, .int 0),
  (3, .istore_n 3, 4, 3, 0, .null),
  (4, .iload_n 3, 5, 3, 0, .null),
  (5, .iload_n 0, 6, 0, 0, .null),
  (6, .if_icmp .ge 15, 9, 21, 0, .null),
  (9, .lload_n 1, 10, 1, 0, .null),
  (10, .ldc2_w 364, 13, 0, 0, .long 10),
  (13, .lmul, 14, 0, 0, .null),
  (14, .lstore_n 1, 15, 1, 0, .null),
  (15, .iinc 3 1, 18, 3, 0, .int 1),
  (18, .goto (-14), 21, 4, 0, .null),
  (21, .lload_n 1, 22, 1, 0, .null),
  (22, .lreturn, 23, 0, 0, .null)]
def k_C_fitsFound : List (Nat × Ent) := [
  (0, .aload_n 0, 1, 0, 0, .null),
  (1, .getfield 19, 4, 5, 1, .null),
  (4, .iload_n 1, 5, 1, 0, .null),
  (5, .iload_n 2, 6, 2, 0, .null),
  (6, .invokevirtual 206, 9, 21, 3, .retAddr 301),
  (9, .lstore_n 3, 10, 3, 0, .null),
  (10, .lload_n 3, 11, 3, 0, .null),
  (11, .lconst 0, 12, 0, 0, .long 0),
  (12, .lcmp, 13, 0, 0, .null),
  (13, .ifCond .eq 18, 16, 31, 0, .null),
  (16, .aload_n 0, 17, 0, 0, .null),
  (17, .getfield 59, 20, 5, 11, .null),
  (20, .lload_n 3, 21, 3, 0, .null),
  (21, .invokevirtual 366, 24, 35, 2, .retAddr 402),
  (24, .ifCond .eq 7, 27, 31, 0, .null),
  (27, .iconst 1, 28, 0, 0, .int 1),
  (28, .goto 4, 31, 32, 0, .null),
  (31, .iconst 0, 32, 0, 0, .int 0),
  (32, .ireturn, 33, 0, 1, .null)]
def k_C_howManyFit : List (Nat × Ent) := [
  (0, .iconst 0, 1, 0, 0, .int 0),
  (1, .istore_n 1, 2, 1, 0, .null),
  (2, .iconst 0, 3, 0, 0, .int 0),
  (3, .istore_n 2, 4, 2, 0, .null),
  (4, .iload_n 2, 5, 2, 0, .null),
  (5, .iconst 5, 6, 0, 0, .int 5),
  (6, .if_icmp .ge 17, 9, 23, 0, .null),
  (9, .iload_n 1, 10, 1, 0, .null),
  (10, .aload_n 0, 11, 0, 0, .null),
  (11, .iload_n 2, 12, 2, 0, .null),
  (12, .invokevirtual 370, 15, 120, 2, .retAddr 405),
  (15, .iadd, 16, 0, 0, .null),
  (16, .istore_n 1, 17, 1, 0, .null),
  (17, .iinc 2 1, 20, 2, 0, .int 1),
  (20, .goto (-16), 23, 4, 0, .null),
  (23, .iload_n 1, 24, 1, 0, .null),
  (24, .ireturn, 25, 0, 0, .null)]
def k_C_howManyOfKindFit : List (Nat × Ent) := [
  (0, .iconst 0, 1, 0, 0, .int 0),
  (1, .istore_n 2, 2, 2, 0, .null),
  (2, .iconst 0, 3, 0, 0, .int 0),
  (3, .istore_n 3, 4, 3, 0, .null),
  (4, .iload_n 3, 5, 3, 0, .null),
  (5, .aload_n 0, 6, 0, 0, .null),
  (6, .getfield 19, 9, 5, 1, .null),
  (9, .invokevirtual 305, 12, 15, 1, .retAddr 101),
  (12, .if_icmp .ge 21, 15, 33, 0, .null),
  (15, .aload_n 0, 16, 0, 0, .null),
  (16, .iload_n 1, 17, 1, 0, .null),
  (17, .iload_n 3, 18, 3, 0, .null),
  (18, .invokevirtual 373, 21, 118, 3, .retAddr 505),
  (21, .ifCond .eq 6, 24, 27, 0, .null),
  (24, .iinc 2 1, 27, 2, 0, .int 1),
  (27, .iinc 3 1, 30, 3, 0, .int 1),
  (30, .goto (-26), 33, 4, 0, .null),
  (33, .iload_n 2, 34, 2, 0, .null),
  (34, .ireturn, 35, 0, 0, .null)]
def k_C_tallyFits : List (Nat × Ent) := [
  (0, .aload_n 0, 1, 0, 0, .null),
  (1, .getfield 63, 4, 5, 12, .null),
  (4, .iconst 0, 5, 0, 0, .int 0),
  (5, .invokestatic 377, 8, 214, 2, .retAddr 499),
  (8, .iconst 0, 9, 0, 0, .int 0),
  (9, .istore_n 1, 10, 1, 0, .null),
  (10, .iload_n 1, 11, 1, 0, .null),
  (11, .iconst 5, 12, 0, 0, .int 5),
  (12, .if_icmp .ge 50, 15, 62, 0, .null),
  (15, .iconst 0, 16, 0, 0, .int 0),
  (16, .istore_n 2, 17, 2, 0, .null),
  (17, .iload_n 2, 18, 2, 0, .null),
  (18, .aload_n 0, 19, 0, 0, .null),
  (19, .getfield 19, 22, 5, 1, .null),
  (22, .invokevirtual 305, 25, 15, 1, .retAddr 101),
  (25, .if_icmp .ge 31, 28, 56, 0, .null),
  (28, .aload_n 0, 29, 0, 0, .null),
  (29, .iload_n 1, 30, 1, 0, .null),
  (30, .iload_n 2, 31, 2, 0, .null),
  (31, .invokevirtual 373, 34, 118, 3, .retAddr 505),
  (34, .ifCond .eq 16, 37, 50, 0, .null),
  (37, .aload_n 0, 38, 0, 0, .null),
  (38, .aload_n 0, 39, 0, 0, .null),
  (39, .getfield 19, 42, 5, 1, .null),
  (42, .iload_n 1, 43, 1, 0, .null),
  (43, .iload_n 2, 44, 2, 0, .null),
  (44, .invokevirtual 206, 47, 21, 3, .retAddr 301),
  (47, .invokevirtual 383, 50, 122, 2, .retAddr 405),
  (50, .iinc 2 1, 53, 2, 0, .int 1),
  (53, .goto (-36), 56, 17, 0, .null),
  (56, .iinc 1 1, 59, 1, 0, .int 1),
  (59, .goto (-49), 62, 10, 0, .null),
  (62, .return_, 63, 0, 0, .null)]
def k_C_tallyCells : List (Nat × Ent) := [
  (0, .iconst 0, 1, 0, 0, .int 0),
  (1, .istore_n 3, 2, 3, 0, .null),
  (2, .iload_n 3, 3, 3, 0, .null),
  (3, .bipush 49, 5, 0, 0, .int 49),
  (5, .if_icmp .ge 27, 8, 32, 0, .null),
  (8, .lload_n 1, 9, 1, 0, .null),
  (9, .iload_n 3, 10, 3, 0, .null),
  (10, .invokestatic 194, 13, 88, 2, .retAddr 305),
  (13, .ifCond .eq 13, 16, 26, 0, .null),
  (16, .aload_n 0, 17, 0, 0, .null),
  (17, .getfield 63, 20, 5, 12, .null),
  (20, .iload_n 3, 21, 3, 0, .null),
  (21, .dup2, 22, 0, 0, .null),
  (22, .iaload, 23, 0, 0, .null),
  (23, .iconst 1, 24, 0, 0, .int 1),
  (24, .iadd, 25, 0, 0, .null),
  (25, .iastore, 26, 0, 0, .null),
  (26, .iinc 3 1, 29, 3, 0, .int 1),
  (29, .goto (-27), 32, 2, 0, .null),
  (32, .return_, 33, 0, 0, .null)]
def k_C_leastFit : List (Nat × Ent) := [
  (0, .iconst 0, 1, 0, 0, .int 0),
  (1, .istore_n 1, 2, 1, 0, .null),
  (2, .iload_n 1, 3, 1, 0, .null),
  (3, .iconst 5, 4, 0, 0, .int 5),
  (4, .if_icmp .ge 44, 7, 48, 0, .null),
  (7, .iconst 0, 8, 0, 0, .int 0),
  (8, .istore_n 2, 9, 2, 0, .null),
  (9, .iload_n 2, 10, 2, 0, .null),
  (10, .aload_n 0, 11, 0, 0, .null),
  (11, .getfield 19, 14, 5, 1, .null),
  (14, .invokevirtual 305, 17, 15, 1, .retAddr 101),
  (17, .if_icmp .ge 25, 20, 42, 0, .null),
  (20, .aload_n 0, 21, 0, 0, .null),
  (21, .iload_n 1, 22, 1, 0, .null),
  (22, .iload_n 2, 23, 2, 0, .null),
  (23, .invokevirtual 373, 26, 118, 3, .retAddr 505),
  (26, .ifCond .eq 10, 29, 36, 0, .null),
  (29, .bipush 100, 31, 0, 0, .int 100),
  (31, .iload_n 1, 32, 1, 0, .null),
  (32, .imul, 33, 0, 0, .null),
  (33, .iload_n 2, 34, 2, 0, .null),
  (34, .iadd, 35, 0, 0, .null),
  (35, .ireturn, 36, 0, 0, .null),
  (36, .iinc 2 1, 39, 2, 0, .int 1),
  (39, .goto (-30), 42, 9, 0, .null),
  (42, .iinc 1 1, 45, 1, 0, .int 1),
  (45, .goto (-43), 48, 2, 0, .null),
  (48, .iconst (-1), 49, 0, 0, .int (-1)),
  (49, .ireturn, 50, 0, 0, .null)]
def k_C_kindsThatFit : List (Nat × Ent) := [
  (0, .iconst 0, 1, 0, 0, .int 0),
  (1, .istore_n 1, 2, 1, 0, .null),
  (2, .iconst 0, 3, 0, 0, .int 0),
  (3, .istore_n 2, 4, 2, 0, .null),
  (4, .iload_n 2, 5, 2, 0, .null),
  (5, .iconst 5, 6, 0, 0, .int 5),
  (6, .if_icmp .ge 23, 9, 29, 0, .null),
  (9, .aload_n 0, 10, 0, 0, .null),
  (10, .iload_n 2, 11, 2, 0, .null),
  (11, .invokevirtual 370, 14, 120, 2, .retAddr 405),
  (14, .ifCond .le 9, 17, 23, 0, .null),
  (17, .iload_n 1, 18, 1, 0, .null),
  (18, .iconst 1, 19, 0, 0, .int 1),
  (19, .iload_n 2, 20, 2, 0, .null),
  (20, .ishl, 21, 0, 0, .null),
  (21, .ior, 22, 0, 0, .null),
  (22, .istore_n 1, 23, 1, 0, .null),
  (23, .iinc 2 1, 26, 2, 0, .int 1),
  (26, .goto (-22), 29, 4, 0, .null),
  (29, .iload_n 1, 30, 1, 0, .null),
  (30, .ireturn, 31, 0, 0, .null)]
def k_M_init : List (Nat × Ent) := [
  (0, .aload_n 0, 1, 0, 0, .null),
  (1, .invokespecial 1, 4, 999, 0, .null),
  (4, .aload_n 0, 5, 0, 0, .null),
  (5, .bipush 21, 7, 0, 0, .int 21),
  (7, .newarray .int, 9, 0, 0, .null),
  (9, .putfield 7, 12, 6, 0, .null),
  (12, .aload_n 0, 13, 0, 0, .null),
  (13, .bipush 21, 15, 0, 0, .int 21),
  (15, .newarray .int, 17, 0, 0, .null),
  (17, .putfield 13, 20, 6, 1, .null),
  (20, .aload_n 0, 21, 0, 0, .null),
  (21, .bipush 58, 23, 0, 0, .int 58),
  (23, .newarray .int, 25, 0, 0, .null),
  (25, .putfield 16, 28, 6, 2, .null),
  (28, .aload_n 0, 29, 0, 0, .null),
  (29, .bipush 58, 31, 0, 0, .int 58),
  (31, .newarray .int, 33, 0, 0, .null),
  (33, .putfield 19, 36, 6, 3, .null),
  (36, .aload_n 0, 37, 0, 0, .null),
  (37, .bipush 49, 39, 0, 0, .int 49),
  (39, .newarray .int, 41, 0, 0, .null),
  (41, .putfield 22, 44, 6, 4, .null),
  (44, .aload_n 0, 45, 0, 0, .null),
  (45, .sipush 1740, 48, 0, 0, .int 1740),
  (48, .newarray .int, 50, 0, 0, .null),
  (50, .putfield 25, 53, 6, 5, .null),
  (53, .aload_n 0, 54, 0, 0, .null),
  (54, .bipush 118, 56, 0, 0, .int 118),
  (56, .newarray .int, 58, 0, 0, .null),
  (58, .putfield 28, 61, 6, 7, .null),
  (61, .aload_n 0, 62, 0, 0, .null),
  (62, .iconst 2, 63, 0, 0, .int 2),
  (63, .newarray .boolean, 65, 2, 0, .null),
  (65, .putfield 31, 68, 6, 8, .null),
  (68, .aload_n 0, 69, 0, 0, .null),
  (69, .sipush 240, 72, 0, 0, .int 240),
  (72, .newarray .int, 74, 0, 0, .null),
  (74, .putfield 35, 77, 6, 10, .null),
  (77, .aload_n 0, 78, 0, 0, .null),
  (78, .iconst (-1), 79, 0, 0, .int (-1)),
  (79, .putfield 38, 82, 6, 12, .null),
  (82, .aload_n 0, 83, 0, 0, .null),
  (83, .bipush 12, 85, 0, 0, .int 12),
  (85, .newarray .int, 87, 0, 0, .null),
  (87, .putfield 42, 90, 6, 13, .null),
  (90, .aload_n 0, 91, 0, 0, .null),
  (91, .bipush 20, 93, 0, 0, .int 20),
  (93, .newarray .int, 95, 0, 0, .null),
  (95, .putfield 45, 98, 6, 15, .null),
  (98, .aload_n 0, 99, 0, 0, .null),
  (99, .bipush 7, 101, 0, 0, .int 7),
  (101, .newarray .int, 103, 0, 0, .null),
  (103, .putfield 48, 106, 6, 23, .null),
  (106, .aload_n 0, 107, 0, 0, .null),
  (107, .invokevirtual 51, 110, 133, 1, .retAddr 206),
  (110, .return_, 111, 0, 0, .null)]
def k_M_in : List (Nat × Ent) := [
  (0, .lload_n 0, 1, 0, 0, .null),
  (1, .lload_n 2, 2, 2, 0, .null),
  (2, .lcmp, 3, 0, 0, .null),
  (3, .ifCond .lt 14, 6, 17, 0, .null),
  (6, .lload_n 0, 7, 0, 0, .null),
  (7, .lload 4, 9, 4, 0, .null),
  (9, .lcmp, 10, 0, 0, .null),
  (10, .ifCond .gt 7, 13, 17, 0, .null),
  (13, .iconst 1, 14, 0, 0, .int 1),
  (14, .goto 4, 17, 18, 0, .null),
  (17, .iconst 0, 18, 0, 0, .int 0),
  (18, .ireturn, 19, 0, 1, .null)]
def k_M_has : List (Nat × Ent) := [
  (0, .iload_n 0, 1, 0, 0, .null),
  (1, .iload_n 1, 2, 1, 0, .null),
  (2, .ishr, 3, 0, 0, .null),
  (3, .iconst 1, 4, 0, 0, .int 1),
  (4, .iand, 5, 0, 0, .null),
  (5, .iconst 1, 6, 0, 0, .int 1),
  (6, .if_icmp .ne 7, 9, 13, 0, .null),
  (9, .iconst 1, 10, 0, 0, .int 1),
  (10, .goto 4, 13, 14, 0, .null),
  (13, .iconst 0, 14, 0, 0, .int 0),
  (14, .ireturn, 15, 0, 1, .null)]
def k_M_holds : List (Nat × Ent) := [
  (0, .lload_n 0, 1, 0, 0, .null),
  (1, .iload_n 2, 2, 2, 0, .null),
  (2, .lshr, 3, 0, 0, .null),
  (3, .lconst 1, 4, 0, 0, .long 1),
  (4, .land, 5, 0, 0, .null),
  (5, .lconst 1, 6, 0, 0, .long 1),
  (6, .lcmp, 7, 0, 0, .null),
  (7, .ifCond .ne 7, 10, 14, 0, .null),
  (10, .iconst 1, 11, 0, 0, .int 1),
  (11, .goto 4, 14, 15, 0, .null),
  (14, .iconst 0, 15, 0, 0, .int 0),
  (15, .ireturn, 16, 0, 1, .null)]
def k_M_bits : List (Nat × Ent) := [
  (0, .iconst 0, 1, 0, 0, .int 0),
  (1, .istore_n 2, 2, 2, 0, .null),
  (2, .lload_n 0, 3, 0, 0, .null),
  (3, .lstore_n 3, 4, 3, 0, .null),
  (4, .lload_n 3, 5, 3, 0, .null),
  (5, .lconst 0, 6, 0, 0, .long 0),
  (6, .lcmp, 7, 0, 0, .null),
  (7, .ifCond .eq 15, 10, 22, 0, .null),
  (10, .iinc 2 1, 13, 2, 0, .int 1),
  (13, .lload_n 3, 14, 3, 0, .null),
  (14, .lload_n 3, 15, 3, 0, .null),
  (15, .lconst 1, 16, 0, 0, .long 1),
  (16, .lsub, 17, 0, 0, .null),
  (17, .land, 18, 0, 0, .null),
  (18, .lstore_n 3, 19, 3, 0, .null),
  (19, .goto (-15), 22, 4, 0, .null),
  (22, .iload_n 2, 23, 2, 0, .null),
  (23, .ireturn, 24, 0, 0, .null)]
def k_M_lesser : List (Nat × Ent) := [
  (0, .iload_n 0, 1, 0, 0, .null),
  (1, .iload_n 1, 2, 1, 0, .null),
  (2, .if_icmp .ge 7, 5, 9, 0, .null),
  (5, .iload_n 0, 6, 0, 0, .null),
  (6, .goto 4, 9, 10, 0, .null),
  (9, .iload_n 1, 10, 1, 0, .null),
  (10, .ireturn, 11, 0, 0, .null)]
def k_M_greater : List (Nat × Ent) := [
  (0, .iload_n 0, 1, 0, 0, .null),
  (1, .iload_n 1, 2, 1, 0, .null),
  (2, .if_icmp .le 7, 5, 9, 0, .null),
  (5, .iload_n 0, 6, 0, 0, .null),
  (6, .goto 4, 9, 10, 0, .null),
  (9, .iload_n 1, 10, 1, 0, .null),
  (10, .ireturn, 11, 0, 0, .null)]
def k_M_copies : List (Nat × Ent) := [
  (0, .iconst 0, 1, 0, 0, .int 0),
  (1, .istore 5, 3, 5, 0, .null),
  (3, .iload 5, 5, 5, 0, .null),
  (5, .iload 4, 7, 4, 0, .null),
  (7, .if_icmp .ge 21, 10, 28, 0, .null),
  (10, .aload_n 2, 11, 2, 0, .null),
  (11, .iload_n 3, 12, 3, 0, .null),
  (12, .iload 5, 14, 5, 0, .null),
  (14, .iadd, 15, 0, 0, .null),
  (15, .aload_n 0, 16, 0, 0, .null),
  (16, .iload_n 1, 17, 1, 0, .null),
  (17, .iload 5, 19, 5, 0, .null),
  (19, .iadd, 20, 0, 0, .null),
  (20, .iaload, 21, 0, 0, .null),
  (21, .iastore, 22, 0, 0, .null),
  (22, .iinc 5 1, 25, 5, 0, .int 1),
  (25, .goto (-22), 28, 3, 0, .null),
  (28, .return_, 29, 0, 0, .null)]
def k_M_begins : List (Nat × Ent) := [
  (0, .iconst 0, 1, 0, 0, .int 0),
  (1, .istore_n 1, 2, 1, 0, .null),
  (2, .iload_n 1, 3, 1, 0, .null),
  (3, .bipush 58, 5, 0, 0, .int 58),
  (5, .if_icmp .ge 34, 8, 39, 0, .null),
  (8, .aload_n 0, 9, 0, 0, .null),
  (9, .getfield 16, 12, 6, 2, .null),
  (12, .iload_n 1, 13, 1, 0, .null),
  (13, .iload_n 1, 14, 1, 0, .null),
  (14, .i2l, 15, 0, 0, .null),
  (15, .ldc2_w 54, 18, 0, 0, .long 49),
  (18, .ldc2_w 56, 21, 0, 0, .long 55),
  (21, .invokestatic 58, 24, 126, 3, .retAddr 606),
  (24, .ifCond .eq 7, 27, 31, 0, .null),
  (27, .iconst (-1), 28, 0, 0, .int (-1)),
  (28, .goto 4, 31, 32, 0, .null),
  (31, .iconst 0, 32, 0, 0, .int 0),
  (32, .iastore, 33, 0, 0, .null),
  (33, .iinc 1 1, 36, 1, 0, .int 1),
  (36, .goto (-34), 39, 2, 0, .null),
  (39, .aload_n 0, 40, 0, 0, .null),
  (40, .getfield 16, 43, 6, 2, .null),
  (43, .bipush 57, 45, 0, 0, .int 57),
  (45, .aload_n 0, 46, 0, 0, .null),
  (46, .getfield 7, 49, 6, 0, .null),
  (49, .iconst 4, 50, 0, 0, .int 4),
  (50, .iaload, 51, 0, 0, .null),
  (51, .iastore, 52, 0, 0, .null),
  (52, .aload_n 0, 53, 0, 0, .null),
  (53, .iconst 0, 54, 0, 0, .int 0),
  (54, .putfield 62, 57, 6, 6, .null),
  (57, .aload_n 0, 58, 0, 0, .null),
  (58, .iconst 0, 59, 0, 0, .int 0),
  (59, .putfield 65, 62, 6, 14, .null),
  (62, .aload_n 0, 63, 0, 0, .null),
  (63, .iconst 0, 64, 0, 0, .int 0),
  (64, .putfield 68, 67, 6, 16, .null),
  (67, .aload_n 0, 68, 0, 0, .null),
  (68, .getfield 31, 71, 6, 8, .null),
  (71, .iconst 0, 72, 0, 0, .int 0),
  (72, .iconst 0, 73, 0, 0, .int 0),
  (73, .bastore, 74, 0, 0, .null),
  (74, .aload_n 0, 75, 0, 0, .null),
  (75, .getfield 31, 78, 6, 8, .null),
  (78, .iconst 1, 79, 0, 0, .int 1),
  (79, .iconst 0, 80, 0, 0, .int 0),
  (80, .bastore, 81, 0, 0, .null),
  (81, .return_, 82, 0, 0, .null)]
def k_M_feed : List (Nat × Ent) := [
  (0, .iload_n 1, 1, 1, 0, .null),
  (1, .i2l, 2, 0, 0, .null),
  (2, .lconst 0, 3, 0, 0, .long 0),
  (3, .ldc2_w 71, 6, 0, 0, .long 255),
  (6, .invokestatic 58, 9, 126, 3, .retAddr 606),
  (9, .ifCond .ne 6, 12, 15, 0, .null),
  (12, .ldc 73, 14, 0, 0, .int (-1000000002)),
  (14, .ireturn, 15, 0, 0, .null),
  (15, .aload_n 0, 16, 0, 0, .null),
  (16, .getfield 74, 19, 6, 11, .null),
  (19, .sipush 240, 22, 0, 0, .int 240),
  (22, .if_icmp .ne 6, 25, 28, 0, .null),
  (25, .ldc 77, 27, 0, 0, .int (-1000000004)),
  (27, .ireturn, 28, 0, 0, .null),
  (28, .aload_n 0, 29, 0, 0, .null),
  (29, .getfield 35, 32, 6, 10, .null),
  (32, .aload_n 0, 33, 0, 0, .null),
  (33, .getfield 74, 36, 6, 11, .null),
  (36, .iload_n 1, 37, 1, 0, .null),
  (37, .iastore, 38, 0, 0, .null),
  (38, .aload_n 0, 39, 0, 0, .null),
  (39, .dup, 40, 0, 0, .null),
  (40, .getfield 74, 43, 6, 11, .null),
  (43, .iconst 1, 44, 0, 0, .int 1),
  (44, .iadd, 45, 0, 0, .null),
  (45, .putfield 74, 48, 6, 11, .null),
  (48, .aload_n 0, 49, 0, 0, .null),
  (49, .getfield 74, 52, 6, 11, .null),
  (52, .ireturn, 53, 0, 0, .null)]
def k_M_here : List (Nat × Ent) := [
  (0, .aload_n 0, 1, 0, 0, .null),
  (1, .getfield 78, 4, 6, 17, .null),
  (4, .aload_n 0, 5, 0, 0, .null),
  (5, .getfield 74, 8, 6, 11, .null),
  (8, .if_icmp .ge 15, 11, 23, 0, .null),
  (11, .aload_n 0, 12, 0, 0, .null),
  (12, .getfield 35, 15, 6, 10, .null),
  (15, .aload_n 0, 16, 0, 0, .null),
  (16, .getfield 78, 19, 6, 17, .null),
  (19, .iaload, 20, 0, 0, .null),
  (20, .goto 4, 23, 24, 0, .null),
  (23, .iconst (-1), 24, 0, 0, .int (-1)),
  (24, .ireturn, 25, 0, 0, .null)]
def k_M_step : List (Nat × Ent) := [
  (0, .aload_n 0, 1, 0, 0, .null),
  (1, .invokevirtual 81, 4, 135, 1, .retAddr 106),
  (4, .bipush 32, 6, 0, 0, .int 32),
  (6, .if_icmp .ne 16, 9, 22, 0, .null),
  (9, .aload_n 0, 10, 0, 0, .null),
  (10, .dup, 11, 0, 0, .null),
  (11, .getfield 78, 14, 6, 17, .null),
  (14, .iconst 1, 15, 0, 0, .int 1),
  (15, .iadd, 16, 0, 0, .null),
  (16, .putfield 78, 19, 6, 17, .null),
  (19, .goto (-19), 22, 0, 0, .null),
  (22, .aload_n 0, 23, 0, 0, .null),
  (23, .aload_n 0, 24, 0, 0, .null),
  (24, .getfield 78, 27, 6, 17, .null),
  (27, .putfield 85, 30, 6, 18, .null),
  (30, .aload_n 0, 31, 0, 0, .null),
  (31, .aload_n 0, 32, 0, 0, .null),
  (32, .invokevirtual 81, 35, 135, 1, .retAddr 106),
  (35, .putfield 88, 38, 6, 19, .null),
  (38, .aload_n 0, 39, 0, 0, .null),
  (39, .iconst 0, 40, 0, 0, .int 0),
  (40, .putfield 91, 43, 6, 20, .null),
  (43, .aload_n 0, 44, 0, 0, .null),
  (44, .iconst 0, 45, 0, 0, .int 0),
  (45, .putfield 94, 48, 6, 21, .null),
  (48, .aload_n 0, 49, 0, 0, .null),
  (49, .getfield 88, 52, 6, 19, .null),
  (52, .i2l, 53, 0, 0, .null),
  (53, .ldc2_w 97, 56, 0, 0, .long 48),
  (56, .ldc2_w 99, 59, 0, 0, .long 57),
  (59, .invokestatic 58, 62, 126, 3, .retAddr 606),
  (62, .ifCond .ne 25, 65, 87, 0, .null),
  (65, .aload_n 0, 66, 0, 0, .null),
  (66, .dup, 67, 0, 0, .null),
  (67, .getfield 78, 70, 6, 17, .null),
  (70, .aload_n 0, 71, 0, 0, .null),
  (71, .getfield 88, 74, 6, 19, .null),
  (74, .ifCond .ge 7, 77, 81, 0, .null),
  (77, .iconst 0, 78, 0, 0, .int 0),
  (78, .goto 4, 81, 82, 0, .null),
  (81, .iconst 1, 82, 0, 0, .int 1),
  (82, .iadd, 83, 0, 0, .null),
  (83, .putfield 78, 86, 6, 17, .null),
  (86, .return_, 87, 0, 0, .null),
  (87, .aload_n 0, 88, 0, 0, .null),
  (88, .bipush 48, 90, 0, 0, .int 48),
  (90, .putfield 88, 93, 6, 19, .null),
  (93, .aload_n 0, 94, 0, 0, .null),
  (94, .invokevirtual 81, 97, 135, 1, .retAddr 106),
  (97, .i2l, 98, 0, 0, .null),
  (98, .ldc2_w 97, 101, 0, 0, .long 48),
  (101, .ldc2_w 99, 104, 0, 0, .long 57),
  (104, .invokestatic 58, 107, 126, 3, .retAddr 606),
  (107, .ifCond .eq 60, 110, 167, 0, .null),
  (110, .aload_n 0, 111, 0, 0, .null),
  (111, .aload_n 0, 112, 0, 0, .null),
  (112, .getfield 91, 115, 6, 20, .null),
  (115, .iconst 3, 116, 0, 0, .int 3),
  (116, .if_icmp .ge 21, 119, 137, 0, .null),
  (119, .bipush 10, 121, 0, 0, .int 10),
  (121, .aload_n 0, 122, 0, 0, .null),
  (122, .getfield 94, 125, 6, 21, .null),
  (125, .imul, 126, 0, 0, .null),
  (126, .aload_n 0, 127, 0, 0, .null),
  (127, .invokevirtual 81, 130, 135, 1, .retAddr 106),
  (130, .iadd, 131, 0, 0, .null),
  (131, .bipush 48, 133, 0, 0, .int 48),
  (133, .isub, 134, 0, 0, .null),
  (134, .goto 7, 137, 141, 0, .null),
  (137, .aload_n 0, 138, 0, 0, .null),
  (138, .getfield 94, 141, 6, 21, .null),
  (141, .putfield 94, 144, 6, 21, .null),
  (144, .aload_n 0, 145, 0, 0, .null),
  (145, .dup, 146, 0, 0, .null),
  (146, .getfield 91, 149, 6, 20, .null),
  (149, .iconst 1, 150, 0, 0, .int 1),
  (150, .iadd, 151, 0, 0, .null),
  (151, .putfield 91, 154, 6, 20, .null),
  (154, .aload_n 0, 155, 0, 0, .null),
  (155, .dup, 156, 0, 0, .null),
  (156, .getfield 78, 159, 6, 17, .null),
  (159, .iconst 1, 160, 0, 0, .int 1),
  (160, .iadd, 161, 0, 0, .null),
  (161, .putfield 78, 164, 6, 17, .null),
  (164, .goto (-71), 167, 93, 0, .null),
  (167, .return_, 168, 0, 0, .null)]
def k_M_fails : List (Nat × Ent) := [
  (0, .aload_n 0, 1, 0, 0, .null),
  (1, .iload_n 1, 2, 1, 0, .null),
  (2, .putfield 101, 5, 6, 22, .null),
  (5, .iconst 0, 6, 0, 0, .int 0),
  (6, .ireturn, 7, 0, 1, .null)]
def k_M_number : List (Nat × Ent) := [
  (0, .aload_n 0, 1, 0, 0, .null),
  (1, .invokevirtual 104, 4, 136, 1, .retAddr 106),
  (4, .aload_n 0, 5, 0, 0, .null),
  (5, .getfield 88, 8, 6, 19, .null),
  (8, .bipush 48, 10, 0, 0, .int 48),
  (10, .if_icmp .eq 9, 13, 19, 0, .null),
  (13, .aload_n 0, 14, 0, 0, .null),
  (14, .iconst 1, 15, 0, 0, .int 1),
  (15, .invokevirtual 107, 18, 137, 2, .retAddr 206),
  (18, .ireturn, 19, 0, 1, .null),
  (19, .aload_n 0, 20, 0, 0, .null),
  (20, .getfield 91, 23, 6, 20, .null),
  (23, .iconst 3, 24, 0, 0, .int 3),
  (24, .if_icmp .gt 18, 27, 42, 0, .null),
  (27, .aload_n 0, 28, 0, 0, .null),
  (28, .getfield 94, 31, 6, 21, .null),
  (31, .i2l, 32, 0, 0, .null),
  (32, .iload_n 2, 33, 2, 0, .null),
  (33, .i2l, 34, 0, 0, .null),
  (34, .iload_n 3, 35, 3, 0, .null),
  (35, .i2l, 36, 0, 0, .null),
  (36, .invokestatic 58, 39, 126, 3, .retAddr 606),
  (39, .ifCond .ne 9, 42, 48, 0, .null),
  (42, .aload_n 0, 43, 0, 0, .null),
  (43, .iconst 2, 44, 0, 0, .int 2),
  (44, .invokevirtual 107, 47, 137, 2, .retAddr 206),
  (47, .ireturn, 48, 0, 1, .null),
  (48, .aload_n 0, 49, 0, 0, .null),
  (49, .getfield 13, 52, 6, 1, .null),
  (52, .iload_n 1, 53, 1, 0, .null),
  (53, .aload_n 0, 54, 0, 0, .null),
  (54, .getfield 94, 57, 6, 21, .null),
  (57, .iastore, 58, 0, 0, .null),
  (58, .iconst 1, 59, 0, 0, .int 1),
  (59, .ireturn, 60, 0, 1, .null)]
def k_M_ends : List (Nat × Ent) := [
  (0, .aload_n 0, 1, 0, 0, .null),
  (1, .invokevirtual 104, 4, 136, 1, .retAddr 106),
  (4, .aload_n 0, 5, 0, 0, .null),
  (5, .getfield 88, 8, 6, 19, .null),
  (8, .bipush 59, 10, 0, 0, .int 59),
  (10, .if_icmp .eq 11, 13, 21, 0, .null),
  (13, .aload_n 0, 14, 0, 0, .null),
  (14, .iconst 1, 15, 0, 0, .int 1),
  (15, .invokevirtual 107, 18, 137, 2, .retAddr 206),
  (18, .ifCond .eq 7, 21, 25, 0, .null),
  (21, .iconst 1, 22, 0, 0, .int 1),
  (22, .goto 4, 25, 26, 0, .null),
  (25, .iconst 0, 26, 0, 0, .int 0),
  (26, .ireturn, 27, 0, 1, .null)]
def k_M_readsPerson : List (Nat × Ent) := [
  (0, .aload_n 0, 1, 0, 0, .null),
  (1, .getfield 13, 4, 6, 1, .null),
  (4, .iconst 2, 5, 0, 0, .int 2),
  (5, .iaload, 6, 0, 0, .null),
  (6, .istore_n 1, 7, 1, 0, .null),
  (7, .iload_n 1, 8, 1, 0, .null),
  (8, .bipush 7, 10, 0, 0, .int 7),
  (10, .if_icmp .ne 9, 13, 19, 0, .null),
  (13, .aload_n 0, 14, 0, 0, .null),
  (14, .iconst 3, 15, 0, 0, .int 3),
  (15, .invokevirtual 107, 18, 137, 2, .retAddr 206),
  (18, .ireturn, 19, 0, 1, .null),
  (19, .aload_n 0, 20, 0, 0, .null),
  (20, .getfield 13, 23, 6, 1, .null),
  (23, .iconst 2, 24, 0, 0, .int 2),
  (24, .dup2, 25, 0, 0, .null),
  (25, .iaload, 26, 0, 0, .null),
  (26, .iconst 1, 27, 0, 0, .int 1),
  (27, .iadd, 28, 0, 0, .null),
  (28, .iastore, 29, 0, 0, .null),
  (29, .aload_n 0, 30, 0, 0, .null),
  (30, .iconst 5, 31, 0, 0, .int 5),
  (31, .iload_n 1, 32, 1, 0, .null),
  (32, .iadd, 33, 0, 0, .null),
  (33, .iconst 0, 34, 0, 0, .int 0),
  (34, .iconst 4, 35, 0, 0, .int 4),
  (35, .invokevirtual 111, 38, 138, 4, .retAddr 406),
  (38, .ifCond .eq 14, 41, 52, 0, .null),
  (41, .aload_n 0, 42, 0, 0, .null),
  (42, .invokevirtual 115, 45, 139, 1, .retAddr 106),
  (45, .ifCond .eq 7, 48, 52, 0, .null),
  (48, .iconst 1, 49, 0, 0, .int 1),
  (49, .goto 4, 52, 53, 0, .null),
  (52, .iconst 0, 53, 0, 0, .int 0),
  (53, .ireturn, 54, 0, 1, .null)]
def k_M_readsWind : List (Nat × Ent) := [
  (0, .aload_n 0, 1, 0, 0, .null),
  (1, .getfield 13, 4, 6, 1, .null),
  (4, .bipush 20, 6, 0, 0, .int 20),
  (6, .iaload, 7, 0, 0, .null),
  (7, .ifCond .le 9, 10, 16, 0, .null),
  (10, .aload_n 0, 11, 0, 0, .null),
  (11, .iconst 3, 12, 0, 0, .int 3),
  (12, .invokevirtual 107, 15, 137, 2, .retAddr 206),
  (15, .ireturn, 16, 0, 1, .null),
  (16, .aload_n 0, 17, 0, 0, .null),
  (17, .getfield 13, 20, 6, 1, .null),
  (20, .bipush 20, 22, 0, 0, .int 20),
  (22, .iconst 1, 23, 0, 0, .int 1),
  (23, .iastore, 24, 0, 0, .null),
  (24, .aload_n 0, 25, 0, 0, .null),
  (25, .iconst 4, 26, 0, 0, .int 4),
  (26, .iconst 0, 27, 0, 0, .int 0),
  (27, .iconst 4, 28, 0, 0, .int 4),
  (28, .invokevirtual 111, 31, 138, 4, .retAddr 406),
  (31, .ifCond .eq 14, 34, 45, 0, .null),
  (34, .aload_n 0, 35, 0, 0, .null),
  (35, .invokevirtual 115, 38, 139, 1, .retAddr 106),
  (38, .ifCond .eq 7, 41, 45, 0, .null),
  (41, .iconst 1, 42, 0, 0, .int 1),
  (42, .goto 4, 45, 46, 0, .null),
  (45, .iconst 0, 46, 0, 0, .int 0),
  (46, .ireturn, 47, 0, 1, .null)]
def k_M_readsRock : List (Nat × Ent) := [
  (0, .aload_n 0, 1, 0, 0, .null),
  (1, .getfield 13, 4, 6, 1, .null),
  (4, .iconst 3, 5, 0, 0, .int 3),
  (5, .iaload, 6, 0, 0, .null),
  (6, .istore_n 1, 7, 1, 0, .null),
  (7, .iload_n 1, 8, 1, 0, .null),
  (8, .bipush 8, 10, 0, 0, .int 8),
  (10, .if_icmp .ne 9, 13, 19, 0, .null),
  (13, .aload_n 0, 14, 0, 0, .null),
  (14, .iconst 3, 15, 0, 0, .int 3),
  (15, .invokevirtual 107, 18, 137, 2, .retAddr 206),
  (18, .ireturn, 19, 0, 1, .null),
  (19, .aload_n 0, 20, 0, 0, .null),
  (20, .bipush 12, 22, 0, 0, .int 12),
  (22, .iload_n 1, 23, 1, 0, .null),
  (23, .iadd, 24, 0, 0, .null),
  (24, .iconst 0, 25, 0, 0, .int 0),
  (25, .aload_n 0, 26, 0, 0, .null),
  (26, .getfield 13, 29, 6, 1, .null),
  (29, .iconst 0, 30, 0, 0, .int 0),
  (30, .iaload, 31, 0, 0, .null),
  (31, .iconst 1, 32, 0, 0, .int 1),
  (32, .isub, 33, 0, 0, .null),
  (33, .invokevirtual 111, 36, 138, 4, .retAddr 406),
  (36, .ifCond .ne 5, 39, 41, 0, .null),
  (39, .iconst 0, 40, 0, 0, .int 0),
  (40, .ireturn, 41, 0, 1, .null),
  (41, .aload_n 0, 42, 0, 0, .null),
  (42, .getfield 94, 45, 6, 21, .null),
  (45, .istore_n 2, 46, 2, 0, .null),
  (46, .aload_n 0, 47, 0, 0, .null),
  (47, .bipush 12, 49, 0, 0, .int 12),
  (49, .iload_n 1, 50, 1, 0, .null),
  (50, .iadd, 51, 0, 0, .null),
  (51, .iconst 0, 52, 0, 0, .int 0),
  (52, .aload_n 0, 53, 0, 0, .null),
  (53, .getfield 13, 56, 6, 1, .null),
  (56, .iconst 1, 57, 0, 0, .int 1),
  (57, .iaload, 58, 0, 0, .null),
  (58, .iconst 1, 59, 0, 0, .int 1),
  (59, .isub, 60, 0, 0, .null),
  (60, .invokevirtual 111, 63, 138, 4, .retAddr 406),
  (63, .ifCond .ne 5, 66, 68, 0, .null),
  (66, .iconst 0, 67, 0, 0, .int 0),
  (67, .ireturn, 68, 0, 1, .null),
  (68, .iload_n 2, 69, 2, 0, .null),
  (69, .aload_n 0, 70, 0, 0, .null),
  (70, .getfield 13, 73, 6, 1, .null),
  (73, .iconst 0, 74, 0, 0, .int 0),
  (74, .iaload, 75, 0, 0, .null),
  (75, .aload_n 0, 76, 0, 0, .null),
  (76, .getfield 94, 79, 6, 21, .null),
  (79, .imul, 80, 0, 0, .null),
  (80, .iadd, 81, 0, 0, .null),
  (81, .istore_n 3, 82, 3, 0, .null),
  (82, .iconst 0, 83, 0, 0, .int 0),
  (83, .istore 4, 85, 4, 0, .null),
  (85, .iload 4, 87, 4, 0, .null),
  (87, .iload_n 1, 88, 1, 0, .null),
  (88, .if_icmp .ge 29, 91, 117, 0, .null),
  (91, .aload_n 0, 92, 0, 0, .null),
  (92, .getfield 13, 95, 6, 1, .null),
  (95, .bipush 12, 97, 0, 0, .int 12),
  (97, .iload 4, 99, 4, 0, .null),
  (99, .iadd, 100, 0, 0, .null),
  (100, .iaload, 101, 0, 0, .null),
  (101, .iload_n 3, 102, 3, 0, .null),
  (102, .if_icmp .ne 9, 105, 111, 0, .null),
  (105, .aload_n 0, 106, 0, 0, .null),
  (106, .iconst 4, 107, 0, 0, .int 4),
  (107, .invokevirtual 107, 110, 137, 2, .retAddr 206),
  (110, .ireturn, 111, 0, 1, .null),
  (111, .iinc 4 1, 114, 4, 0, .int 1),
  (114, .goto (-29), 117, 85, 0, .null),
  (117, .aload_n 0, 118, 0, 0, .null),
  (118, .getfield 13, 121, 6, 1, .null),
  (121, .bipush 12, 123, 0, 0, .int 12),
  (123, .iload_n 1, 124, 1, 0, .null),
  (124, .iadd, 125, 0, 0, .null),
  (125, .iload_n 3, 126, 3, 0, .null),
  (126, .iastore, 127, 0, 0, .null),
  (127, .aload_n 0, 128, 0, 0, .null),
  (128, .getfield 13, 131, 6, 1, .null),
  (131, .iconst 3, 132, 0, 0, .int 3),
  (132, .dup2, 133, 0, 0, .null),
  (133, .iaload, 134, 0, 0, .null),
  (134, .iconst 1, 135, 0, 0, .int 1),
  (135, .iadd, 136, 0, 0, .null),
  (136, .iastore, 137, 0, 0, .null),
  (137, .aload_n 0, 138, 0, 0, .null),
  (138, .invokevirtual 115, 141, 139, 1, .retAddr 106),
  (141, .ireturn, 142, 0, 1, .null)]
def k_M_readsClause : List (Nat × Ent) := [
  (0, .aload_n 0, 1, 0, 0, .null),
  (1, .getfield 88, 4, 6, 19, .null),
  (4, .bipush 110, 6, 0, 0, .int 110),
  (6, .if_icmp .ne 55, 9, 61, 0, .null),
  (9, .aload_n 0, 10, 0, 0, .null),
  (10, .getfield 13, 13, 6, 1, .null),
  (13, .iconst 0, 14, 0, 0, .int 0),
  (14, .iaload, 15, 0, 0, .null),
  (15, .ifCond .le 11, 18, 26, 0, .null),
  (18, .aload_n 0, 19, 0, 0, .null),
  (19, .iconst 3, 20, 0, 0, .int 3),
  (20, .invokevirtual 107, 23, 137, 2, .retAddr 206),
  (23, .goto 37, 26, 60, 0, .null),
  (26, .aload_n 0, 27, 0, 0, .null),
  (27, .iconst 0, 28, 0, 0, .int 0),
  (28, .iconst 2, 29, 0, 0, .int 2),
  (29, .bipush 7, 31, 0, 0, .int 7),
  (31, .invokevirtual 111, 34, 138, 4, .retAddr 406),
  (34, .ifCond .eq 25, 37, 59, 0, .null),
  (37, .aload_n 0, 38, 0, 0, .null),
  (38, .iconst 1, 39, 0, 0, .int 1),
  (39, .iconst 2, 40, 0, 0, .int 2),
  (40, .bipush 7, 42, 0, 0, .int 7),
  (42, .invokevirtual 111, 45, 138, 4, .retAddr 406),
  (45, .ifCond .eq 14, 48, 59, 0, .null),
  (48, .aload_n 0, 49, 0, 0, .null),
  (49, .invokevirtual 115, 52, 139, 1, .retAddr 106),
  (52, .ifCond .eq 7, 55, 59, 0, .null),
  (55, .iconst 1, 56, 0, 0, .int 1),
  (56, .goto 4, 59, 60, 0, .null),
  (59, .iconst 0, 60, 0, 0, .int 0),
  (60, .ireturn, 61, 0, 1, .null),
  (61, .aload_n 0, 62, 0, 0, .null),
  (62, .getfield 13, 65, 6, 1, .null),
  (65, .iconst 0, 66, 0, 0, .int 0),
  (66, .iaload, 67, 0, 0, .null),
  (67, .ifCond .ne 9, 70, 76, 0, .null),
  (70, .aload_n 0, 71, 0, 0, .null),
  (71, .iconst 1, 72, 0, 0, .int 1),
  (72, .invokevirtual 107, 75, 137, 2, .retAddr 206),
  (75, .ireturn, 76, 0, 1, .null),
  (76, .aload_n 0, 77, 0, 0, .null),
  (77, .getfield 88, 80, 6, 19, .null),
  (80, .lookupswitch 51 #[(112, 36), (114, 46), (119, 41)], 116, 0, 0, .null),
  (116, .aload_n 0, 117, 0, 0, .null),
  (117, .invokevirtual 119, 120, 140, 1, .retAddr 206),
  (120, .ireturn, 121, 0, 1, .null),
  (121, .aload_n 0, 122, 0, 0, .null),
  (122, .invokevirtual 122, 125, 141, 1, .retAddr 106),
  (125, .ireturn, 126, 0, 1, .null),
  (126, .aload_n 0, 127, 0, 0, .null),
  (127, .invokevirtual 125, 130, 142, 1, .retAddr 506),
  (130, .ireturn, 131, 0, 1, .null),
  (131, .aload_n 0, 132, 0, 0, .null),
  (132, .iconst 1, 133, 0, 0, .int 1),
  (133, .invokevirtual 107, 136, 137, 2, .retAddr 206),
  (136, .ireturn, 137, 0, 1, .null)]
def k_M_north : List (Nat × Ent) := [
  (0, .iconst 0, 1, 0, 0, .int 0),
  (1, .istore_n 1, 2, 1, 0, .null),
  (2, .iload_n 1, 3, 1, 0, .null),
  (3, .bipush 21, 5, 0, 0, .int 21),
  (5, .if_icmp .ge 16, 8, 21, 0, .null),
  (8, .aload_n 0, 9, 0, 0, .null),
  (9, .getfield 13, 12, 6, 1, .null),
  (12, .iload_n 1, 13, 1, 0, .null),
  (13, .iconst 0, 14, 0, 0, .int 0),
  (14, .iastore, 15, 0, 0, .null),
  (15, .iinc 1 1, 18, 1, 0, .int 1),
  (18, .goto (-16), 21, 2, 0, .null),
  (21, .aload_n 0, 22, 0, 0, .null),
  (22, .iconst 0, 23, 0, 0, .int 0),
  (23, .putfield 78, 26, 6, 17, .null),
  (26, .aload_n 0, 27, 0, 0, .null),
  (27, .iconst (-1), 28, 0, 0, .int (-1)),
  (28, .putfield 38, 31, 6, 12, .null),
  (31, .iconst 1, 32, 0, 0, .int 1),
  (32, .istore_n 1, 33, 1, 0, .null),
  (33, .aload_n 0, 34, 0, 0, .null),
  (34, .invokevirtual 104, 37, 136, 1, .retAddr 106),
  (37, .aload_n 0, 38, 0, 0, .null),
  (38, .getfield 88, 41, 6, 19, .null),
  (41, .ifCond .lt 23, 44, 64, 0, .null),
  (44, .iload_n 1, 45, 1, 0, .null),
  (45, .ifCond .eq 19, 48, 64, 0, .null),
  (48, .aload_n 0, 49, 0, 0, .null),
  (49, .invokevirtual 128, 52, 143, 1, .retAddr 106),
  (52, .istore_n 1, 53, 1, 0, .null),
  (53, .iload_n 1, 54, 1, 0, .null),
  (54, .ifCond .eq (-17), 57, 37, 0, .null),
  (57, .aload_n 0, 58, 0, 0, .null),
  (58, .invokevirtual 104, 61, 136, 1, .retAddr 106),
  (61, .goto (-24), 64, 37, 0, .null),
  (64, .aload_n 0, 65, 0, 0, .null),
  (65, .iconst 0, 66, 0, 0, .int 0),
  (66, .putfield 74, 69, 6, 11, .null),
  (69, .iload_n 1, 70, 1, 0, .null),
  (70, .ifCond .ne 19, 73, 89, 0, .null),
  (73, .aload_n 0, 74, 0, 0, .null),
  (74, .aload_n 0, 75, 0, 0, .null),
  (75, .getfield 85, 78, 6, 18, .null),
  (78, .putfield 38, 81, 6, 12, .null),
  (81, .bipush (-10), 83, 0, 0, .int (-10)),
  (83, .aload_n 0, 84, 0, 0, .null),
  (84, .getfield 101, 87, 6, 22, .null),
  (87, .isub, 88, 0, 0, .null),
  (88, .ireturn, 89, 0, 0, .null),
  (89, .aload_n 0, 90, 0, 0, .null),
  (90, .getfield 13, 93, 6, 1, .null),
  (93, .iconst 0, 94, 0, 0, .int 0),
  (94, .aload_n 0, 95, 0, 0, .null),
  (95, .getfield 7, 98, 6, 0, .null),
  (98, .iconst 0, 99, 0, 0, .int 0),
  (99, .bipush 21, 101, 0, 0, .int 21),
  (101, .invokestatic 131, 104, 132, 5, .retAddr 606),
  (104, .aload_n 0, 105, 0, 0, .null),
  (105, .invokevirtual 51, 108, 133, 1, .retAddr 206),
  (108, .aload_n 0, 109, 0, 0, .null),
  (109, .getfield 7, 112, 6, 0, .null),
  (112, .iconst 2, 113, 0, 0, .int 2),
  (113, .iaload, 114, 0, 0, .null),
  (114, .ireturn, 115, 0, 0, .null)]
def k_M_fault : List (Nat × Ent) := [
  (0, .aload_n 0, 1, 0, 0, .null),
  (1, .getfield 38, 4, 6, 12, .null),
  (4, .ireturn, 5, 0, 0, .null)]
def k_M_cells : List (Nat × Ent) := [
  (0, .aload_n 0, 1, 0, 0, .null),
  (1, .getfield 7, 4, 6, 0, .null),
  (4, .iconst 0, 5, 0, 0, .int 0),
  (5, .iaload, 6, 0, 0, .null),
  (6, .aload_n 0, 7, 0, 0, .null),
  (7, .getfield 7, 10, 6, 0, .null),
  (10, .iconst 1, 11, 0, 0, .int 1),
  (11, .iaload, 12, 0, 0, .null),
  (12, .imul, 13, 0, 0, .null),
  (13, .ireturn, 14, 0, 0, .null)]
def k_M_isCell : List (Nat × Ent) := [
  (0, .iload_n 1, 1, 1, 0, .null),
  (1, .i2l, 2, 0, 0, .null),
  (2, .lconst 0, 3, 0, 0, .long 0),
  (3, .aload_n 0, 4, 0, 0, .null),
  (4, .invokevirtual 135, 7, 146, 1, .retAddr 106),
  (7, .iconst 1, 8, 0, 0, .int 1),
  (8, .isub, 9, 0, 0, .null),
  (9, .i2l, 10, 0, 0, .null),
  (10, .invokestatic 58, 13, 126, 3, .retAddr 606),
  (13, .ireturn, 14, 0, 1, .null)]
def k_M_isPerson : List (Nat × Ent) := [
  (0, .iload_n 1, 1, 1, 0, .null),
  (1, .i2l, 2, 0, 0, .null),
  (2, .lconst 0, 3, 0, 0, .long 0),
  (3, .aload_n 0, 4, 0, 0, .null),
  (4, .getfield 7, 7, 6, 0, .null),
  (7, .iconst 2, 8, 0, 0, .int 2),
  (8, .iaload, 9, 0, 0, .null),
  (9, .iconst 1, 10, 0, 0, .int 1),
  (10, .isub, 11, 0, 0, .null),
  (11, .i2l, 12, 0, 0, .null),
  (12, .invokestatic 58, 15, 126, 3, .retAddr 606),
  (15, .ireturn, 16, 0, 1, .null)]
def k_M_rocks : List (Nat × Ent) := [
  (0, .lconst 0, 1, 0, 0, .long 0),
  (1, .lstore_n 1, 2, 1, 0, .null),
  (2, .iconst 0, 3, 0, 0, .int 0),
  (3, .istore_n 3, 4, 3, 0, .null),
  (4, .iload_n 3, 5, 3, 0, .null),
  (5, .aload_n 0, 6, 0, 0, .null),
  (6, .getfield 7, 9, 6, 0, .null),
  (9, .iconst 3, 10, 0, 0, .int 3),
  (10, .iaload, 11, 0, 0, .null),
  (11, .if_icmp .ge 23, 14, 34, 0, .null),
  (14, .lload_n 1, 15, 1, 0, .null),
  (15, .lconst 1, 16, 0, 0, .long 1),
  (16, .aload_n 0, 17, 0, 0, .null),
  (17, .getfield 7, 20, 6, 0, .null),
  (20, .bipush 12, 22, 0, 0, .int 12),
  (22, .iload_n 3, 23, 3, 0, .null),
  (23, .iadd, 24, 0, 0, .null),
  (24, .iaload, 25, 0, 0, .null),
  (25, .lshl, 26, 0, 0, .null),
  (26, .lor, 27, 0, 0, .null),
  (27, .lstore_n 1, 28, 1, 0, .null),
  (28, .iinc 3 1, 31, 3, 0, .int 1),
  (31, .goto (-27), 34, 4, 0, .null),
  (34, .lload_n 1, 35, 1, 0, .null),
  (35, .lreturn, 36, 0, 0, .null)]
def k_M_isRock : List (Nat × Ent) := [
  (0, .aload_n 0, 1, 0, 0, .null),
  (1, .invokevirtual 138, 4, 149, 1, .retAddr 406),
  (4, .iload_n 1, 5, 1, 0, .null),
  (5, .invokestatic 142, 8, 128, 2, .retAddr 306),
  (8, .ireturn, 9, 0, 1, .null)]
def k_M_beside : List (Nat × Ent) := [
  (0, .iload_n 1, 1, 1, 0, .null),
  (1, .aload_n 0, 2, 0, 0, .null),
  (2, .getfield 7, 5, 6, 0, .null),
  (5, .iconst 0, 6, 0, 0, .int 0),
  (6, .iaload, 7, 0, 0, .null),
  (7, .irem, 8, 0, 0, .null),
  (8, .iload_n 2, 9, 2, 0, .null),
  (9, .iconst 1, 10, 0, 0, .int 1),
  (10, .if_icmp .ne 7, 13, 17, 0, .null),
  (13, .iconst 1, 14, 0, 0, .int 1),
  (14, .goto 13, 17, 27, 0, .null),
  (17, .iload_n 2, 18, 2, 0, .null),
  (18, .iconst 3, 19, 0, 0, .int 3),
  (19, .if_icmp .ne 7, 22, 26, 0, .null),
  (22, .iconst (-1), 23, 0, 0, .int (-1)),
  (23, .goto 4, 26, 27, 0, .null),
  (26, .iconst 0, 27, 0, 0, .int 0),
  (27, .iadd, 28, 0, 0, .null),
  (28, .istore_n 3, 29, 3, 0, .null),
  (29, .iload_n 1, 30, 1, 0, .null),
  (30, .aload_n 0, 31, 0, 0, .null),
  (31, .getfield 7, 34, 6, 0, .null),
  (34, .iconst 0, 35, 0, 0, .int 0),
  (35, .iaload, 36, 0, 0, .null),
  (36, .idiv, 37, 0, 0, .null),
  (37, .iload_n 2, 38, 2, 0, .null),
  (38, .iconst 2, 39, 0, 0, .int 2),
  (39, .if_icmp .ne 7, 42, 46, 0, .null),
  (42, .iconst 1, 43, 0, 0, .int 1),
  (43, .goto 13, 46, 56, 0, .null),
  (46, .iload_n 2, 47, 2, 0, .null),
  (47, .iconst 4, 48, 0, 0, .int 4),
  (48, .if_icmp .ne 7, 51, 55, 0, .null),
  (51, .iconst (-1), 52, 0, 0, .int (-1)),
  (52, .goto 4, 55, 56, 0, .null),
  (55, .iconst 0, 56, 0, 0, .int 0),
  (56, .iadd, 57, 0, 0, .null),
  (57, .istore 4, 59, 4, 0, .null),
  (59, .iload_n 3, 60, 3, 0, .null),
  (60, .i2l, 61, 0, 0, .null),
  (61, .lconst 0, 62, 0, 0, .long 0),
  (62, .aload_n 0, 63, 0, 0, .null),
  (63, .getfield 7, 66, 6, 0, .null),
  (66, .iconst 0, 67, 0, 0, .int 0),
  (67, .iaload, 68, 0, 0, .null),
  (68, .iconst 1, 69, 0, 0, .int 1),
  (69, .isub, 70, 0, 0, .null),
  (70, .i2l, 71, 0, 0, .null),
  (71, .invokestatic 58, 74, 126, 3, .retAddr 606),
  (74, .ifCond .eq 36, 77, 110, 0, .null),
  (77, .iload 4, 79, 4, 0, .null),
  (79, .i2l, 80, 0, 0, .null),
  (80, .lconst 0, 81, 0, 0, .long 0),
  (81, .aload_n 0, 82, 0, 0, .null),
  (82, .getfield 7, 85, 6, 0, .null),
  (85, .iconst 1, 86, 0, 0, .int 1),
  (86, .iaload, 87, 0, 0, .null),
  (87, .iconst 1, 88, 0, 0, .int 1),
  (88, .isub, 89, 0, 0, .null),
  (89, .i2l, 90, 0, 0, .null),
  (90, .invokestatic 58, 93, 126, 3, .retAddr 606),
  (93, .ifCond .eq 17, 96, 110, 0, .null),
  (96, .iload_n 3, 97, 3, 0, .null),
  (97, .aload_n 0, 98, 0, 0, .null),
  (98, .getfield 7, 101, 6, 0, .null),
  (101, .iconst 0, 102, 0, 0, .int 0),
  (102, .iaload, 103, 0, 0, .null),
  (103, .iload 4, 105, 4, 0, .null),
  (105, .imul, 106, 0, 0, .null),
  (106, .iadd, 107, 0, 0, .null),
  (107, .goto 4, 110, 111, 0, .null),
  (110, .iconst (-1), 111, 0, 0, .int (-1)),
  (111, .ireturn, 112, 0, 0, .null)]
def k_M_shape : List (Nat × Ent) := [
  (0, .lconst 1, 1, 0, 0, .long 1),
  (1, .iload_n 2, 2, 2, 0, .null),
  (2, .lshl, 3, 0, 0, .null),
  (3, .lstore_n 3, 4, 3, 0, .null),
  (4, .iconst 1, 5, 0, 0, .int 1),
  (5, .istore 5, 7, 5, 0, .null),
  (7, .iconst 1, 8, 0, 0, .int 1),
  (8, .istore 6, 10, 6, 0, .null),
  (10, .iload 6, 12, 6, 0, .null),
  (12, .iconst 5, 13, 0, 0, .int 5),
  (13, .if_icmp .ge 132, 16, 145, 0, .null),
  (16, .iload 6, 18, 6, 0, .null),
  (18, .iconst 1, 19, 0, 0, .int 1),
  (19, .if_icmp .ne 21, 22, 40, 0, .null),
  (22, .iload_n 1, 23, 1, 0, .null),
  (23, .iconst 2, 24, 0, 0, .int 2),
  (24, .if_icmp .lt 8, 27, 32, 0, .null),
  (27, .iload_n 1, 28, 1, 0, .null),
  (28, .iconst 4, 29, 0, 0, .int 4),
  (29, .if_icmp .ne 7, 32, 36, 0, .null),
  (32, .iconst 1, 33, 0, 0, .int 1),
  (33, .goto 55, 36, 88, 0, .null),
  (36, .iconst 0, 37, 0, 0, .int 0),
  (37, .goto 51, 40, 88, 0, .null),
  (40, .iload 6, 42, 6, 0, .null),
  (42, .iconst 2, 43, 0, 0, .int 2),
  (43, .if_icmp .ne 16, 46, 59, 0, .null),
  (46, .iload_n 1, 47, 1, 0, .null),
  (47, .iconst 2, 48, 0, 0, .int 2),
  (48, .if_icmp .ne 7, 51, 55, 0, .null),
  (51, .iconst 1, 52, 0, 0, .int 1),
  (52, .goto 36, 55, 88, 0, .null),
  (55, .iconst 0, 56, 0, 0, .int 0),
  (56, .goto 32, 59, 88, 0, .null),
  (59, .iload 6, 61, 6, 0, .null),
  (61, .iconst 3, 62, 0, 0, .int 3),
  (62, .if_icmp .ne 16, 65, 78, 0, .null),
  (65, .iload_n 1, 66, 1, 0, .null),
  (66, .iconst 2, 67, 0, 0, .int 2),
  (67, .if_icmp .ge 7, 70, 74, 0, .null),
  (70, .iconst 1, 71, 0, 0, .int 1),
  (71, .goto 17, 74, 88, 0, .null),
  (74, .iconst 0, 75, 0, 0, .int 0),
  (75, .goto 13, 78, 88, 0, .null),
  (78, .iload_n 1, 79, 1, 0, .null),
  (79, .iconst 1, 80, 0, 0, .int 1),
  (80, .if_icmp .ne 7, 83, 87, 0, .null),
  (83, .iconst 1, 84, 0, 0, .int 1),
  (84, .goto 4, 87, 88, 0, .null),
  (87, .iconst 0, 88, 0, 0, .int 0),
  (88, .istore 7, 90, 7, 0, .null),
  (90, .iload 7, 92, 7, 0, .null),
  (92, .ifCond .eq 47, 95, 139, 0, .null),
  (95, .aload_n 0, 96, 0, 0, .null),
  (96, .iload_n 2, 97, 2, 0, .null),
  (97, .iload 6, 99, 6, 0, .null),
  (99, .invokevirtual 146, 102, 151, 3, .retAddr 506),
  (102, .istore 8, 104, 8, 0, .null),
  (104, .iload 5, 106, 5, 0, .null),
  (106, .ifCond .eq 13, 109, 119, 0, .null),
  (109, .iload 8, 111, 8, 0, .null),
  (111, .iconst (-1), 112, 0, 0, .int (-1)),
  (112, .if_icmp .eq 7, 115, 119, 0, .null),
  (115, .iconst 1, 116, 0, 0, .int 1),
  (116, .goto 4, 119, 120, 0, .null),
  (119, .iconst 0, 120, 0, 0, .int 0),
  (120, .istore 5, 122, 5, 0, .null),
  (122, .lload_n 3, 123, 3, 0, .null),
  (123, .iload 8, 125, 8, 0, .null),
  (125, .iconst (-1), 126, 0, 0, .int (-1)),
  (126, .if_icmp .ne 7, 129, 133, 0, .null),
  (129, .lconst 0, 130, 0, 0, .long 0),
  (130, .goto 7, 133, 137, 0, .null),
  (133, .lconst 1, 134, 0, 0, .long 1),
  (134, .iload 8, 136, 8, 0, .null),
  (136, .lshl, 137, 0, 0, .null),
  (137, .lor, 138, 0, 0, .null),
  (138, .lstore_n 3, 139, 3, 0, .null),
  (139, .iinc 6 1, 142, 6, 0, .int 1),
  (142, .goto (-132), 145, 10, 0, .null),
  (145, .iload 5, 147, 5, 0, .null),
  (147, .ifCond .eq 7, 150, 154, 0, .null),
  (150, .lload_n 3, 151, 3, 0, .null),
  (151, .goto 4, 154, 155, 0, .null),
  (154, .lconst 0, 155, 0, 0, .long 0),
  (155, .lreturn, 156, 0, 0, .null)]
def k_M_dented : List (Nat × Ent) := [
  (0, .lconst 0, 1, 0, 0, .long 0),
  (1, .lstore_n 3, 2, 3, 0, .null),
  (2, .iconst 0, 3, 0, 0, .int 0),
  (3, .istore 5, 5, 5, 0, .null),
  (5, .iload 5, 7, 5, 0, .null),
  (7, .aload_n 0, 8, 0, 0, .null),
  (8, .invokevirtual 135, 11, 146, 1, .retAddr 106),
  (11, .if_icmp .ge 30, 14, 41, 0, .null),
  (14, .lload_n 3, 15, 3, 0, .null),
  (15, .aload_n 1, 16, 1, 0, .null),
  (16, .iconst 0, 17, 0, 0, .int 0),
  (17, .iload 5, 19, 5, 0, .null),
  (19, .iadd, 20, 0, 0, .null),
  (20, .iaload, 21, 0, 0, .null),
  (21, .iload_n 2, 22, 2, 0, .null),
  (22, .if_icmp .lt 10, 25, 32, 0, .null),
  (25, .lconst 1, 26, 0, 0, .long 1),
  (26, .iload 5, 28, 5, 0, .null),
  (28, .lshl, 29, 0, 0, .null),
  (29, .goto 4, 32, 33, 0, .null),
  (32, .lconst 0, 33, 0, 0, .long 0),
  (33, .lor, 34, 0, 0, .null),
  (34, .lstore_n 3, 35, 3, 0, .null),
  (35, .iinc 5 1, 38, 5, 0, .int 1),
  (38, .goto (-33), 41, 5, 0, .null),
  (41, .lload_n 3, 42, 3, 0, .null),
  (42, .lreturn, 43, 0, 0, .null)]
def k_M_mayLie : List (Nat × Ent) := [
  (0, .aload_n 0, 1, 0, 0, .null),
  (1, .iload_n 2, 2, 2, 0, .null),
  (2, .iload_n 3, 3, 3, 0, .null),
  (3, .invokevirtual 150, 6, 152, 3, .retAddr 906),
  (6, .lstore 4, 8, 4, 0, .null),
  (8, .lload 4, 10, 4, 0, .null),
  (10, .lconst 0, 11, 0, 0, .long 0),
  (11, .lcmp, 12, 0, 0, .null),
  (12, .ifCond .eq 26, 15, 38, 0, .null),
  (15, .lload 4, 17, 4, 0, .null),
  (17, .aload_n 0, 18, 0, 0, .null),
  (18, .invokevirtual 138, 21, 149, 1, .retAddr 406),
  (21, .aload_n 0, 22, 0, 0, .null),
  (22, .aload_n 1, 23, 1, 0, .null),
  (23, .iconst 1, 24, 0, 0, .int 1),
  (24, .invokevirtual 154, 27, 153, 3, .retAddr 606),
  (27, .lor, 28, 0, 0, .null),
  (28, .land, 29, 0, 0, .null),
  (29, .lconst 0, 30, 0, 0, .long 0),
  (30, .lcmp, 31, 0, 0, .null),
  (31, .ifCond .ne 7, 34, 38, 0, .null),
  (34, .iconst 1, 35, 0, 0, .int 1),
  (35, .goto 4, 38, 39, 0, .null),
  (38, .iconst 0, 39, 0, 0, .int 0),
  (39, .ireturn, 40, 0, 1, .null)]
def k_M_dents : List (Nat × Ent) := [
  (0, .iconst 0, 1, 0, 0, .int 0),
  (1, .istore 5, 3, 5, 0, .null),
  (3, .iload 5, 5, 5, 0, .null),
  (5, .aload_n 0, 6, 0, 0, .null),
  (6, .invokevirtual 135, 9, 146, 1, .retAddr 106),
  (9, .if_icmp .ge 35, 12, 44, 0, .null),
  (12, .aload_n 1, 13, 1, 0, .null),
  (13, .iconst 0, 14, 0, 0, .int 0),
  (14, .iload 5, 16, 5, 0, .null),
  (16, .iadd, 17, 0, 0, .null),
  (17, .lload_n 2, 18, 2, 0, .null),
  (18, .iload 5, 20, 5, 0, .null),
  (20, .invokestatic 142, 23, 128, 2, .retAddr 306),
  (23, .ifCond .eq 8, 26, 31, 0, .null),
  (26, .iload 4, 28, 4, 0, .null),
  (28, .goto 9, 31, 37, 0, .null),
  (31, .aload_n 1, 32, 1, 0, .null),
  (32, .iconst 0, 33, 0, 0, .int 0),
  (33, .iload 5, 35, 5, 0, .null),
  (35, .iadd, 36, 0, 0, .null),
  (36, .iaload, 37, 0, 0, .null),
  (37, .iastore, 38, 0, 0, .null),
  (38, .iinc 5 1, 41, 5, 0, .int 1),
  (41, .goto (-38), 44, 3, 0, .null),
  (44, .return_, 45, 0, 0, .null)]
def k_M_group : List (Nat × Ent) := [
  (0, .lconst 1, 1, 0, 0, .long 1),
  (1, .iload_n 3, 2, 3, 0, .null),
  (2, .lshl, 3, 0, 0, .null),
  (3, .lstore 4, 5, 4, 0, .null),
  (5, .lconst 0, 6, 0, 0, .long 0),
  (6, .lstore 6, 8, 6, 0, .null),
  (8, .lload 4, 10, 4, 0, .null),
  (10, .lload 6, 12, 6, 0, .null),
  (12, .lcmp, 13, 0, 0, .null),
  (13, .ifCond .eq 91, 16, 104, 0, .null),
  (16, .lload 4, 18, 4, 0, .null),
  (18, .lstore 6, 20, 6, 0, .null),
  (20, .iconst 0, 21, 0, 0, .int 0),
  (21, .istore 8, 23, 8, 0, .null),
  (23, .iload 8, 25, 8, 0, .null),
  (25, .aload_n 0, 26, 0, 0, .null),
  (26, .invokevirtual 135, 29, 146, 1, .retAddr 106),
  (29, .if_icmp .ge 72, 32, 101, 0, .null),
  (32, .iconst 1, 33, 0, 0, .int 1),
  (33, .istore 9, 35, 9, 0, .null),
  (35, .iload 9, 37, 9, 0, .null),
  (37, .iconst 5, 38, 0, 0, .int 5),
  (38, .if_icmp .ge 57, 41, 95, 0, .null),
  (41, .lload 6, 43, 6, 0, .null),
  (43, .iload 8, 45, 8, 0, .null),
  (45, .invokestatic 142, 48, 128, 2, .retAddr 306),
  (48, .ifCond .eq 47, 51, 95, 0, .null),
  (51, .aload_n 0, 52, 0, 0, .null),
  (52, .iload 8, 54, 8, 0, .null),
  (54, .iload 9, 56, 9, 0, .null),
  (56, .invokevirtual 146, 59, 151, 3, .retAddr 506),
  (59, .istore 10, 61, 10, 0, .null),
  (61, .lload 4, 63, 4, 0, .null),
  (63, .iload 10, 65, 10, 0, .null),
  (65, .iconst (-1), 66, 0, 0, .int (-1)),
  (66, .if_icmp .eq 19, 69, 85, 0, .null),
  (69, .lload_n 1, 70, 1, 0, .null),
  (70, .iload 10, 72, 10, 0, .null),
  (72, .invokestatic 142, 75, 128, 2, .retAddr 306),
  (75, .ifCond .eq 10, 78, 85, 0, .null),
  (78, .lconst 1, 79, 0, 0, .long 1),
  (79, .iload 10, 81, 10, 0, .null),
  (81, .lshl, 82, 0, 0, .null),
  (82, .goto 4, 85, 86, 0, .null),
  (85, .lconst 0, 86, 0, 0, .long 0),
  (86, .lor, 87, 0, 0, .null),
  (87, .lstore 4, 89, 4, 0, .null),
  (89, .iinc 9 1, 92, 9, 0, .int 1),
  (92, .goto (-57), 95, 35, 0, .null),
  (95, .iinc 8 1, 98, 8, 0, .int 1),
  (98, .goto (-75), 101, 23, 0, .null),
  (101, .goto (-93), 104, 8, 0, .null),
  (104, .lload 4, 106, 4, 0, .null),
  (106, .lreturn, 107, 0, 0, .null)]
def k_M_lowest : List (Nat × Ent) := [
  (0, .iconst 0, 1, 0, 0, .int 0),
  (1, .istore_n 2, 2, 2, 0, .null),
  (2, .lload_n 0, 3, 0, 0, .null),
  (3, .iload_n 2, 4, 2, 0, .null),
  (4, .invokestatic 142, 7, 128, 2, .retAddr 306),
  (7, .ifCond .ne 9, 10, 16, 0, .null),
  (10, .iinc 2 1, 13, 2, 0, .int 1),
  (13, .goto (-11), 16, 2, 0, .null),
  (16, .iload_n 2, 17, 2, 0, .null),
  (17, .ireturn, 18, 0, 0, .null)]
def k_M_counted : List (Nat × Ent) := [
  (0, .iload_n 0, 1, 0, 0, .null),
  (1, .iconst 3, 2, 0, 0, .int 3),
  (2, .if_icmp .ge 7, 5, 9, 0, .null),
  (5, .iload_n 0, 6, 0, 0, .null),
  (6, .goto 17, 9, 23, 0, .null),
  (9, .iload_n 0, 10, 0, 0, .null),
  (10, .iconst 5, 11, 0, 0, .int 5),
  (11, .if_icmp .ge 7, 14, 18, 0, .null),
  (14, .iconst 1, 15, 0, 0, .int 1),
  (15, .goto 8, 18, 23, 0, .null),
  (18, .iload_n 0, 19, 0, 0, .null),
  (19, .iconst 3, 20, 0, 0, .int 3),
  (20, .idiv, 21, 0, 0, .null),
  (21, .iconst 1, 22, 0, 0, .int 1),
  (22, .iadd, 23, 0, 0, .null),
  (23, .ireturn, 24, 0, 0, .null)]
def k_M_countOn : List (Nat × Ent) := [
  (0, .iconst 0, 1, 0, 0, .int 0),
  (1, .istore_n 2, 2, 2, 0, .null),
  (2, .aload_n 0, 3, 0, 0, .null),
  (3, .aload_n 1, 4, 1, 0, .null),
  (4, .iconst 3, 5, 0, 0, .int 3),
  (5, .invokevirtual 154, 8, 153, 3, .retAddr 606),
  (8, .lstore_n 3, 9, 3, 0, .null),
  (9, .lload_n 3, 10, 3, 0, .null),
  (10, .lconst 0, 11, 0, 0, .long 0),
  (11, .lcmp, 12, 0, 0, .null),
  (12, .ifCond .eq 37, 15, 49, 0, .null),
  (15, .aload_n 0, 16, 0, 0, .null),
  (16, .lload_n 3, 17, 3, 0, .null),
  (17, .lload_n 3, 18, 3, 0, .null),
  (18, .invokestatic 158, 21, 157, 1, .retAddr 306),
  (21, .invokevirtual 162, 24, 156, 3, .retAddr 1106),
  (24, .lstore 5, 26, 5, 0, .null),
  (26, .iload_n 2, 27, 2, 0, .null),
  (27, .lload 5, 29, 5, 0, .null),
  (29, .invokestatic 166, 32, 129, 1, .retAddr 506),
  (32, .invokestatic 169, 35, 158, 1, .retAddr 106),
  (35, .iadd, 36, 0, 0, .null),
  (36, .istore_n 2, 37, 2, 0, .null),
  (37, .lload_n 3, 38, 3, 0, .null),
  (38, .lload 5, 40, 5, 0, .null),
  (40, .ldc2_w 173, 43, 0, 0, .long (-1)),
  (43, .lxor, 44, 0, 0, .null),
  (44, .land, 45, 0, 0, .null),
  (45, .lstore_n 3, 46, 3, 0, .null),
  (46, .goto (-37), 49, 9, 0, .null),
  (49, .iload_n 2, 50, 2, 0, .null),
  (50, .ireturn, 51, 0, 0, .null)]
def k_M_groups : List (Nat × Ent) := [
  (0, .iconst 0, 1, 0, 0, .int 0),
  (1, .istore_n 2, 2, 2, 0, .null),
  (2, .iconst (-1), 3, 0, 0, .int (-1)),
  (3, .istore_n 3, 4, 3, 0, .null),
  (4, .iconst 0, 5, 0, 0, .int 0),
  (5, .istore 4, 7, 4, 0, .null),
  (7, .iconst 0, 8, 0, 0, .int 0),
  (8, .istore 5, 10, 5, 0, .null),
  (10, .aload_n 0, 11, 0, 0, .null),
  (11, .aload_n 0, 12, 0, 0, .null),
  (12, .getfield 16, 15, 6, 2, .null),
  (15, .iconst 3, 16, 0, 0, .int 3),
  (16, .invokevirtual 154, 19, 153, 3, .retAddr 606),
  (19, .lstore 6, 21, 6, 0, .null),
  (21, .lload 6, 23, 6, 0, .null),
  (23, .lconst 0, 24, 0, 0, .long 0),
  (24, .lcmp, 25, 0, 0, .null),
  (25, .ifCond .eq 85, 28, 110, 0, .null),
  (28, .lload 6, 30, 6, 0, .null),
  (30, .invokestatic 158, 33, 157, 1, .retAddr 306),
  (33, .istore 8, 35, 8, 0, .null),
  (35, .aload_n 0, 36, 0, 0, .null),
  (36, .lload 6, 38, 6, 0, .null),
  (38, .iload 8, 40, 8, 0, .null),
  (40, .invokevirtual 162, 43, 156, 3, .retAddr 1106),
  (43, .lstore 9, 45, 9, 0, .null),
  (45, .iinc 2 1, 48, 2, 0, .int 1),
  (48, .lload 9, 50, 9, 0, .null),
  (50, .invokestatic 166, 53, 129, 1, .retAddr 506),
  (53, .iload 4, 55, 4, 0, .null),
  (55, .if_icmp .le 8, 58, 63, 0, .null),
  (58, .iload 8, 60, 8, 0, .null),
  (60, .goto 4, 63, 64, 0, .null),
  (63, .iload_n 3, 64, 3, 0, .null),
  (64, .istore_n 3, 65, 3, 0, .null),
  (65, .iload 4, 67, 4, 0, .null),
  (67, .lload 9, 69, 9, 0, .null),
  (69, .invokestatic 166, 72, 129, 1, .retAddr 506),
  (72, .invokestatic 175, 75, 131, 2, .retAddr 206),
  (75, .istore 4, 77, 4, 0, .null),
  (77, .iload 5, 79, 5, 0, .null),
  (79, .aload_n 0, 80, 0, 0, .null),
  (80, .lload 9, 82, 9, 0, .null),
  (82, .invokevirtual 178, 85, 161, 2, .retAddr 606),
  (85, .ifCond .eq 7, 88, 92, 0, .null),
  (88, .iconst 0, 89, 0, 0, .int 0),
  (89, .goto 4, 92, 93, 0, .null),
  (92, .iconst 1, 93, 0, 0, .int 1),
  (93, .iadd, 94, 0, 0, .null),
  (94, .istore 5, 96, 5, 0, .null),
  (96, .lload 6, 98, 6, 0, .null),
  (98, .lload 9, 100, 9, 0, .null),
  (100, .ldc2_w 173, 103, 0, 0, .long (-1)),
  (103, .lxor, 104, 0, 0, .null),
  (104, .land, 105, 0, 0, .null),
  (105, .lstore 6, 107, 6, 0, .null),
  (107, .goto (-86), 110, 21, 0, .null),
  (110, .iload_n 1, 111, 1, 0, .null),
  (111, .ifCond .ne 7, 114, 118, 0, .null),
  (114, .iload_n 2, 115, 2, 0, .null),
  (115, .goto 14, 118, 129, 0, .null),
  (118, .iload_n 1, 119, 1, 0, .null),
  (119, .iconst 1, 120, 0, 0, .int 1),
  (120, .if_icmp .ne 7, 123, 127, 0, .null),
  (123, .iload_n 3, 124, 3, 0, .null),
  (124, .goto 5, 127, 129, 0, .null),
  (127, .iload 5, 129, 5, 0, .null),
  (129, .ireturn, 130, 0, 0, .null)]
def k_M_isShape : List (Nat × Ent) := [
  (0, .iconst 0, 1, 0, 0, .int 0),
  (1, .istore_n 3, 2, 3, 0, .null),
  (2, .iconst 0, 3, 0, 0, .int 0),
  (3, .istore 4, 5, 4, 0, .null),
  (5, .iload 4, 7, 4, 0, .null),
  (7, .iconst 5, 8, 0, 0, .int 5),
  (8, .if_icmp .ge 50, 11, 58, 0, .null),
  (11, .iconst 0, 12, 0, 0, .int 0),
  (12, .istore 5, 14, 5, 0, .null),
  (14, .iload 5, 16, 5, 0, .null),
  (16, .aload_n 0, 17, 0, 0, .null),
  (17, .invokevirtual 135, 20, 146, 1, .retAddr 106),
  (20, .if_icmp .ge 32, 23, 52, 0, .null),
  (23, .iload_n 3, 24, 3, 0, .null),
  (24, .ifCond .ne 16, 27, 40, 0, .null),
  (27, .aload_n 0, 28, 0, 0, .null),
  (28, .iload 4, 30, 4, 0, .null),
  (30, .iload 5, 32, 5, 0, .null),
  (32, .invokevirtual 150, 35, 152, 3, .retAddr 906),
  (35, .lload_n 1, 36, 1, 0, .null),
  (36, .lcmp, 37, 0, 0, .null),
  (37, .ifCond .ne 7, 40, 44, 0, .null),
  (40, .iconst 1, 41, 0, 0, .int 1),
  (41, .goto 4, 44, 45, 0, .null),
  (44, .iconst 0, 45, 0, 0, .int 0),
  (45, .istore_n 3, 46, 3, 0, .null),
  (46, .iinc 5 1, 49, 5, 0, .int 1),
  (49, .goto (-35), 52, 14, 0, .null),
  (52, .iinc 4 1, 55, 4, 0, .int 1),
  (55, .goto (-50), 58, 5, 0, .null),
  (58, .iload_n 3, 59, 3, 0, .null),
  (59, .ireturn, 60, 0, 1, .null)]
def k_M_isLying : List (Nat × Ent) := [
  (0, .aload_n 0, 1, 0, 0, .null),
  (1, .getfield 16, 4, 6, 2, .null),
  (4, .bipush 49, 6, 0, 0, .int 49),
  (6, .iload_n 1, 7, 1, 0, .null),
  (7, .iadd, 8, 0, 0, .null),
  (8, .iaload, 9, 0, 0, .null),
  (9, .iconst (-1), 10, 0, 0, .int (-1)),
  (10, .if_icmp .eq 7, 13, 17, 0, .null),
  (13, .iconst 1, 14, 0, 0, .int 1),
  (14, .goto 4, 17, 18, 0, .null),
  (17, .iconst 0, 18, 0, 0, .int 0),
  (18, .ireturn, 19, 0, 1, .null)]
def k_M_whoLies : List (Nat × Ent) := [
  (0, .iconst 0, 1, 0, 0, .int 0),
  (1, .istore_n 1, 2, 1, 0, .null),
  (2, .iconst 0, 3, 0, 0, .int 0),
  (3, .istore_n 2, 4, 2, 0, .null),
  (4, .iload_n 2, 5, 2, 0, .null),
  (5, .aload_n 0, 6, 0, 0, .null),
  (6, .getfield 7, 9, 6, 0, .null),
  (9, .iconst 2, 10, 0, 0, .int 2),
  (10, .iaload, 11, 0, 0, .null),
  (11, .if_icmp .ge 27, 14, 38, 0, .null),
  (14, .iload_n 1, 15, 1, 0, .null),
  (15, .aload_n 0, 16, 0, 0, .null),
  (16, .iload_n 2, 17, 2, 0, .null),
  (17, .invokevirtual 182, 20, 162, 2, .retAddr 206),
  (20, .ifCond .eq 9, 23, 29, 0, .null),
  (23, .iconst 1, 24, 0, 0, .int 1),
  (24, .iload_n 2, 25, 2, 0, .null),
  (25, .ishl, 26, 0, 0, .null),
  (26, .goto 4, 29, 30, 0, .null),
  (29, .iconst 0, 30, 0, 0, .int 0),
  (30, .ior, 31, 0, 0, .null),
  (31, .istore_n 1, 32, 1, 0, .null),
  (32, .iinc 2 1, 35, 2, 0, .int 1),
  (35, .goto (-31), 38, 4, 0, .null),
  (38, .iload_n 1, 39, 1, 0, .null),
  (39, .ireturn, 40, 0, 0, .null)]
def k_M_truly : List (Nat × Ent) := [
  (0, .iconst 0, 1, 0, 0, .int 0),
  (1, .istore_n 1, 2, 1, 0, .null),
  (2, .iconst 0, 3, 0, 0, .int 0),
  (3, .istore_n 2, 4, 2, 0, .null),
  (4, .iload_n 2, 5, 2, 0, .null),
  (5, .aload_n 0, 6, 0, 0, .null),
  (6, .getfield 7, 9, 6, 0, .null),
  (9, .iconst 2, 10, 0, 0, .int 2),
  (10, .iaload, 11, 0, 0, .null),
  (11, .if_icmp .ge 41, 14, 52, 0, .null),
  (14, .iload_n 1, 15, 1, 0, .null),
  (15, .aload_n 0, 16, 0, 0, .null),
  (16, .iload_n 2, 17, 2, 0, .null),
  (17, .invokevirtual 182, 20, 162, 2, .retAddr 206),
  (20, .ifCond .ne 7, 23, 27, 0, .null),
  (23, .iconst 0, 24, 0, 0, .int 0),
  (24, .goto 20, 27, 44, 0, .null),
  (27, .aload_n 0, 28, 0, 0, .null),
  (28, .getfield 7, 31, 6, 0, .null),
  (31, .iconst 5, 32, 0, 0, .int 5),
  (32, .iload_n 2, 33, 2, 0, .null),
  (33, .iadd, 34, 0, 0, .null),
  (34, .iaload, 35, 0, 0, .null),
  (35, .iconst 2, 36, 0, 0, .int 2),
  (36, .if_icmp .ne 7, 39, 43, 0, .null),
  (39, .iconst 2, 40, 0, 0, .int 2),
  (40, .goto 4, 43, 44, 0, .null),
  (43, .iconst 1, 44, 0, 0, .int 1),
  (44, .iadd, 45, 0, 0, .null),
  (45, .istore_n 1, 46, 1, 0, .null),
  (46, .iinc 2 1, 49, 2, 0, .int 1),
  (49, .goto (-45), 52, 4, 0, .null),
  (52, .iload_n 1, 53, 1, 0, .null),
  (53, .ireturn, 54, 0, 0, .null)]
def k_M_steps : List (Nat × Ent) := [
  (0, .iload_n 1, 1, 1, 0, .null),
  (1, .aload_n 0, 2, 0, 0, .null),
  (2, .getfield 7, 5, 6, 0, .null),
  (5, .iconst 0, 6, 0, 0, .int 0),
  (6, .iaload, 7, 0, 0, .null),
  (7, .irem, 8, 0, 0, .null),
  (8, .iload_n 2, 9, 2, 0, .null),
  (9, .aload_n 0, 10, 0, 0, .null),
  (10, .getfield 7, 13, 6, 0, .null),
  (13, .iconst 0, 14, 0, 0, .int 0),
  (14, .iaload, 15, 0, 0, .null),
  (15, .irem, 16, 0, 0, .null),
  (16, .isub, 17, 0, 0, .null),
  (17, .istore_n 3, 18, 3, 0, .null),
  (18, .iload_n 1, 19, 1, 0, .null),
  (19, .aload_n 0, 20, 0, 0, .null),
  (20, .getfield 7, 23, 6, 0, .null),
  (23, .iconst 0, 24, 0, 0, .int 0),
  (24, .iaload, 25, 0, 0, .null),
  (25, .idiv, 26, 0, 0, .null),
  (26, .iload_n 2, 27, 2, 0, .null),
  (27, .aload_n 0, 28, 0, 0, .null),
  (28, .getfield 7, 31, 6, 0, .null),
  (31, .iconst 0, 32, 0, 0, .int 0),
  (32, .iaload, 33, 0, 0, .null),
  (33, .idiv, 34, 0, 0, .null),
  (34, .isub, 35, 0, 0, .null),
  (35, .istore 4, 37, 4, 0, .null),
  (37, .iload_n 3, 38, 3, 0, .null),
  (38, .ifCond .ge 8, 41, 46, 0, .null),
  (41, .iload_n 3, 42, 3, 0, .null),
  (42, .ineg, 43, 0, 0, .null),
  (43, .goto 4, 46, 47, 0, .null),
  (46, .iload_n 3, 47, 3, 0, .null),
  (47, .iload 4, 49, 4, 0, .null),
  (49, .ifCond .ge 9, 52, 58, 0, .null),
  (52, .iload 4, 54, 4, 0, .null),
  (54, .ineg, 55, 0, 0, .null),
  (55, .goto 5, 58, 60, 0, .null),
  (58, .iload 4, 60, 4, 0, .null),
  (60, .iadd, 61, 0, 0, .null),
  (61, .ireturn, 62, 0, 0, .null)]
def k_M_farOut : List (Nat × Ent) := [
  (0, .iconst (-1), 1, 0, 0, .int (-1)),
  (1, .istore_n 1, 2, 1, 0, .null),
  (2, .iconst (-1), 3, 0, 0, .int (-1)),
  (3, .istore_n 2, 4, 2, 0, .null),
  (4, .iconst 0, 5, 0, 0, .int 0),
  (5, .istore_n 3, 6, 3, 0, .null),
  (6, .iload_n 3, 7, 3, 0, .null),
  (7, .aload_n 0, 8, 0, 0, .null),
  (8, .getfield 7, 11, 6, 0, .null),
  (11, .iconst 2, 12, 0, 0, .int 2),
  (12, .iaload, 13, 0, 0, .null),
  (13, .if_icmp .ge 109, 16, 122, 0, .null),
  (16, .ldc 185, 18, 0, 0, .int 100000000),
  (18, .istore 4, 20, 4, 0, .null),
  (20, .iconst 0, 21, 0, 0, .int 0),
  (21, .istore 5, 23, 5, 0, .null),
  (23, .iload 5, 25, 5, 0, .null),
  (25, .aload_n 0, 26, 0, 0, .null),
  (26, .getfield 7, 29, 6, 0, .null),
  (29, .iconst 2, 30, 0, 0, .int 2),
  (30, .iaload, 31, 0, 0, .null),
  (31, .if_icmp .ge 67, 34, 98, 0, .null),
  (34, .iload_n 3, 35, 3, 0, .null),
  (35, .iload 5, 37, 5, 0, .null),
  (37, .if_icmp .eq 51, 40, 88, 0, .null),
  (40, .aload_n 0, 41, 0, 0, .null),
  (41, .iload_n 3, 42, 3, 0, .null),
  (42, .invokevirtual 182, 45, 162, 2, .retAddr 206),
  (45, .ifCond .eq 43, 48, 88, 0, .null),
  (48, .aload_n 0, 49, 0, 0, .null),
  (49, .iload 5, 51, 5, 0, .null),
  (51, .invokevirtual 182, 54, 162, 2, .retAddr 206),
  (54, .ifCond .eq 34, 57, 88, 0, .null),
  (57, .iload 4, 59, 4, 0, .null),
  (59, .aload_n 0, 60, 0, 0, .null),
  (60, .aload_n 0, 61, 0, 0, .null),
  (61, .getfield 16, 64, 6, 2, .null),
  (64, .bipush 49, 66, 0, 0, .int 49),
  (66, .iload_n 3, 67, 3, 0, .null),
  (67, .iadd, 68, 0, 0, .null),
  (68, .iaload, 69, 0, 0, .null),
  (69, .aload_n 0, 70, 0, 0, .null),
  (70, .getfield 16, 73, 6, 2, .null),
  (73, .bipush 49, 75, 0, 0, .int 49),
  (75, .iload 5, 77, 5, 0, .null),
  (77, .iadd, 78, 0, 0, .null),
  (78, .iaload, 79, 0, 0, .null),
  (79, .invokevirtual 186, 82, 165, 3, .retAddr 506),
  (82, .invokestatic 189, 85, 130, 2, .retAddr 206),
  (85, .goto 5, 88, 90, 0, .null),
  (88, .iload 4, 90, 4, 0, .null),
  (90, .istore 4, 92, 4, 0, .null),
  (92, .iinc 5 1, 95, 5, 0, .int 1),
  (95, .goto (-72), 98, 23, 0, .null),
  (98, .iload 4, 100, 4, 0, .null),
  (100, .ldc 185, 102, 0, 0, .int 100000000),
  (102, .if_icmp .ge 14, 105, 116, 0, .null),
  (105, .iload 4, 107, 4, 0, .null),
  (107, .iload_n 2, 108, 2, 0, .null),
  (108, .if_icmp .le 8, 111, 116, 0, .null),
  (111, .iload_n 3, 112, 3, 0, .null),
  (112, .istore_n 1, 113, 1, 0, .null),
  (113, .iload 4, 115, 4, 0, .null),
  (115, .istore_n 2, 116, 2, 0, .null),
  (116, .iinc 3 1, 119, 3, 0, .int 1),
  (119, .goto (-113), 122, 6, 0, .null),
  (122, .iload_n 1, 123, 1, 0, .null),
  (123, .ireturn, 124, 0, 0, .null)]
def k_M_layAside : List (Nat × Ent) := [
  (0, .aload_n 0, 1, 0, 0, .null),
  (1, .getfield 16, 4, 6, 2, .null),
  (4, .iconst 0, 5, 0, 0, .int 0),
  (5, .aload_n 0, 6, 0, 0, .null),
  (6, .getfield 19, 9, 6, 3, .null),
  (9, .iconst 0, 10, 0, 0, .int 0),
  (10, .bipush 58, 12, 0, 0, .int 58),
  (12, .invokestatic 131, 15, 132, 5, .retAddr 606),
  (15, .return_, 16, 0, 0, .null)]
def k_M_bare : List (Nat × Ent) := [
  (0, .aload_n 0, 1, 0, 0, .null),
  (1, .invokevirtual 192, 4, 167, 1, .retAddr 106),
  (4, .iconst 0, 5, 0, 0, .int 0),
  (5, .istore_n 1, 6, 1, 0, .null),
  (6, .aload_n 0, 7, 0, 0, .null),
  (7, .aload_n 0, 8, 0, 0, .null),
  (8, .getfield 19, 11, 6, 3, .null),
  (11, .iconst 1, 12, 0, 0, .int 1),
  (12, .invokevirtual 154, 15, 153, 3, .retAddr 606),
  (15, .lconst 0, 16, 0, 0, .long 0),
  (16, .lcmp, 17, 0, 0, .null),
  (17, .ifCond .eq 17, 20, 34, 0, .null),
  (20, .aload_n 0, 21, 0, 0, .null),
  (21, .aload_n 0, 22, 0, 0, .null),
  (22, .getfield 19, 25, 6, 3, .null),
  (25, .invokevirtual 195, 28, 178, 2, .retAddr 706),
  (28, .iinc 1 1, 31, 1, 0, .int 1),
  (31, .goto (-25), 34, 6, 0, .null),
  (34, .iload_n 1, 35, 1, 0, .null),
  (35, .ireturn, 36, 0, 0, .null)]
def k_M_told : List (Nat × Ent) := [
  (0, .iload_n 1, 1, 1, 0, .null),
  (1, .tableswitch 177 0 17 #[87, 87, 87, 87, 94, 99, 107, 115, 120, 129, 134, 140, 146, 152, 157, 162, 167, 172], 88, 0, 0, .null),
  (88, .aload_n 0, 89, 0, 0, .null),
  (89, .getfield 7, 92, 6, 0, .null),
  (92, .iload_n 1, 93, 1, 0, .null),
  (93, .iaload, 94, 0, 0, .null),
  (94, .ireturn, 95, 0, 0, .null),
  (95, .aload_n 0, 96, 0, 0, .null),
  (96, .getfield 74, 99, 6, 11, .null),
  (99, .ireturn, 100, 0, 0, .null),
  (100, .aload_n 0, 101, 0, 0, .null),
  (101, .getfield 16, 104, 6, 2, .null),
  (104, .bipush 56, 106, 0, 0, .int 56),
  (106, .iaload, 107, 0, 0, .null),
  (107, .ireturn, 108, 0, 0, .null),
  (108, .aload_n 0, 109, 0, 0, .null),
  (109, .getfield 16, 112, 6, 2, .null),
  (112, .bipush 57, 114, 0, 0, .int 57),
  (114, .iaload, 115, 0, 0, .null),
  (115, .ireturn, 116, 0, 0, .null),
  (116, .aload_n 0, 117, 0, 0, .null),
  (117, .invokevirtual 199, 120, 163, 1, .retAddr 306),
  (120, .ireturn, 121, 0, 0, .null),
  (121, .aload_n 0, 122, 0, 0, .null),
  (122, .aload_n 0, 123, 0, 0, .null),
  (123, .getfield 16, 126, 6, 2, .null),
  (126, .invokevirtual 202, 129, 159, 2, .retAddr 706),
  (129, .ireturn, 130, 0, 0, .null),
  (130, .aload_n 0, 131, 0, 0, .null),
  (131, .invokevirtual 206, 134, 164, 1, .retAddr 306),
  (134, .ireturn, 135, 0, 0, .null),
  (135, .aload_n 0, 136, 0, 0, .null),
  (136, .iconst 0, 137, 0, 0, .int 0),
  (137, .invokevirtual 209, 140, 160, 2, .retAddr 1106),
  (140, .ireturn, 141, 0, 0, .null),
  (141, .aload_n 0, 142, 0, 0, .null),
  (142, .iconst 1, 143, 0, 0, .int 1),
  (143, .invokevirtual 209, 146, 160, 2, .retAddr 1106),
  (146, .ireturn, 147, 0, 0, .null),
  (147, .aload_n 0, 148, 0, 0, .null),
  (148, .iconst 2, 149, 0, 0, .int 2),
  (149, .invokevirtual 209, 152, 160, 2, .retAddr 1106),
  (152, .ireturn, 153, 0, 0, .null),
  (153, .aload_n 0, 154, 0, 0, .null),
  (154, .invokevirtual 212, 157, 166, 1, .retAddr 606),
  (157, .ireturn, 158, 0, 0, .null),
  (158, .aload_n 0, 159, 0, 0, .null),
  (159, .invokevirtual 215, 162, 168, 1, .retAddr 206),
  (162, .ireturn, 163, 0, 0, .null),
  (163, .aload_n 0, 164, 0, 0, .null),
  (164, .getfield 65, 167, 6, 14, .null),
  (167, .ireturn, 168, 0, 0, .null),
  (168, .aload_n 0, 169, 0, 0, .null),
  (169, .getfield 68, 172, 6, 16, .null),
  (172, .ireturn, 173, 0, 0, .null),
  (173, .aload_n 0, 174, 0, 0, .null),
  (174, .getfield 62, 177, 6, 6, .null),
  (177, .ireturn, 178, 0, 0, .null),
  (178, .ldc 73, 180, 0, 0, .int (-1000000002)),
  (180, .ireturn, 181, 0, 0, .null)]
def k_M_whoIsAt : List (Nat × Ent) := [
  (0, .iconst 0, 1, 0, 0, .int 0),
  (1, .istore_n 2, 2, 2, 0, .null),
  (2, .iload_n 2, 3, 2, 0, .null),
  (3, .aload_n 0, 4, 0, 0, .null),
  (4, .getfield 7, 7, 6, 0, .null),
  (7, .iconst 2, 8, 0, 0, .int 2),
  (8, .iaload, 9, 0, 0, .null),
  (9, .if_icmp .ge 24, 12, 33, 0, .null),
  (12, .aload_n 0, 13, 0, 0, .null),
  (13, .getfield 16, 16, 6, 2, .null),
  (16, .bipush 49, 18, 0, 0, .int 49),
  (18, .iload_n 2, 19, 2, 0, .null),
  (19, .iadd, 20, 0, 0, .null),
  (20, .iaload, 21, 0, 0, .null),
  (21, .iload_n 1, 22, 1, 0, .null),
  (22, .if_icmp .ne 5, 25, 27, 0, .null),
  (25, .iload_n 2, 26, 2, 0, .null),
  (26, .ireturn, 27, 0, 0, .null),
  (27, .iinc 2 1, 30, 2, 0, .int 1),
  (30, .goto (-28), 33, 2, 0, .null),
  (33, .iconst (-1), 34, 0, 0, .int (-1)),
  (34, .ireturn, 35, 0, 0, .null)]
def k_M_cell : List (Nat × Ent) := [
  (0, .aload_n 0, 1, 0, 0, .null),
  (1, .iload_n 1, 2, 1, 0, .null),
  (2, .invokevirtual 218, 5, 147, 2, .retAddr 206),
  (5, .ifCond .ne 6, 8, 11, 0, .null),
  (8, .ldc 221, 10, 0, 0, .int (-1000000001)),
  (10, .ireturn, 11, 0, 0, .null),
  (11, .iload_n 2, 12, 2, 0, .null),
  (12, .tableswitch 95 0 3 #[32, 41, 55, 89], 44, 0, 0, .null),
  (44, .aload_n 0, 45, 0, 0, .null),
  (45, .getfield 16, 48, 6, 2, .null),
  (48, .iconst 0, 49, 0, 0, .int 0),
  (49, .iload_n 1, 50, 1, 0, .null),
  (50, .iadd, 51, 0, 0, .null),
  (51, .iaload, 52, 0, 0, .null),
  (52, .ireturn, 53, 0, 0, .null),
  (53, .aload_n 0, 54, 0, 0, .null),
  (54, .iload_n 1, 55, 1, 0, .null),
  (55, .invokevirtual 222, 58, 150, 2, .retAddr 206),
  (58, .ifCond .eq 7, 61, 65, 0, .null),
  (61, .iconst 1, 62, 0, 0, .int 1),
  (62, .goto 4, 65, 66, 0, .null),
  (65, .iconst 0, 66, 0, 0, .int 0),
  (66, .ireturn, 67, 0, 0, .null),
  (67, .aload_n 0, 68, 0, 0, .null),
  (68, .getfield 16, 71, 6, 2, .null),
  (71, .iconst 0, 72, 0, 0, .int 0),
  (72, .iload_n 1, 73, 1, 0, .null),
  (73, .iadd, 74, 0, 0, .null),
  (74, .iaload, 75, 0, 0, .null),
  (75, .iconst 3, 76, 0, 0, .int 3),
  (76, .if_icmp .ge 7, 79, 83, 0, .null),
  (79, .iconst 0, 80, 0, 0, .int 0),
  (80, .goto 20, 83, 100, 0, .null),
  (83, .aload_n 0, 84, 0, 0, .null),
  (84, .aload_n 0, 85, 0, 0, .null),
  (85, .aload_n 0, 86, 0, 0, .null),
  (86, .getfield 16, 89, 6, 2, .null),
  (89, .iconst 3, 90, 0, 0, .int 3),
  (90, .invokevirtual 154, 93, 153, 3, .retAddr 606),
  (93, .iload_n 1, 94, 1, 0, .null),
  (94, .invokevirtual 162, 97, 156, 3, .retAddr 1106),
  (97, .invokestatic 166, 100, 129, 1, .retAddr 506),
  (100, .ireturn, 101, 0, 0, .null),
  (101, .aload_n 0, 102, 0, 0, .null),
  (102, .iload_n 1, 103, 1, 0, .null),
  (103, .invokevirtual 225, 106, 170, 2, .retAddr 306),
  (106, .ireturn, 107, 0, 0, .null),
  (107, .ldc 73, 109, 0, 0, .int (-1000000002)),
  (109, .ireturn, 110, 0, 0, .null)]
def k_M_shapeOf : List (Nat × Ent) := [
  (0, .aload_n 0, 1, 0, 0, .null),
  (1, .iload_n 1, 2, 1, 0, .null),
  (2, .invokevirtual 182, 5, 162, 2, .retAddr 206),
  (5, .ifCond .eq 27, 8, 32, 0, .null),
  (8, .aload_n 0, 9, 0, 0, .null),
  (9, .aload_n 0, 10, 0, 0, .null),
  (10, .getfield 7, 13, 6, 0, .null),
  (13, .iconst 5, 14, 0, 0, .int 5),
  (14, .iload_n 1, 15, 1, 0, .null),
  (15, .iadd, 16, 0, 0, .null),
  (16, .iaload, 17, 0, 0, .null),
  (17, .aload_n 0, 18, 0, 0, .null),
  (18, .getfield 16, 21, 6, 2, .null),
  (21, .bipush 49, 23, 0, 0, .int 49),
  (23, .iload_n 1, 24, 1, 0, .null),
  (24, .iadd, 25, 0, 0, .null),
  (25, .iaload, 26, 0, 0, .null),
  (26, .invokevirtual 150, 29, 152, 3, .retAddr 906),
  (29, .goto 4, 32, 33, 0, .null),
  (32, .lconst 0, 33, 0, 0, .long 0),
  (33, .lreturn, 34, 0, 0, .null)]
def k_M_person : List (Nat × Ent) := [
  (0, .aload_n 0, 1, 0, 0, .null),
  (1, .iload_n 1, 2, 1, 0, .null),
  (2, .invokevirtual 228, 5, 148, 2, .retAddr 206),
  (5, .ifCond .ne 6, 8, 11, 0, .null),
  (8, .ldc 221, 10, 0, 0, .int (-1000000001)),
  (10, .ireturn, 11, 0, 0, .null),
  (11, .iload_n 2, 12, 2, 0, .null),
  (12, .tableswitch 66 0 2 #[28, 37, 47], 40, 0, 0, .null),
  (40, .aload_n 0, 41, 0, 0, .null),
  (41, .getfield 7, 44, 6, 0, .null),
  (44, .iconst 5, 45, 0, 0, .int 5),
  (45, .iload_n 1, 46, 1, 0, .null),
  (46, .iadd, 47, 0, 0, .null),
  (47, .iaload, 48, 0, 0, .null),
  (48, .ireturn, 49, 0, 0, .null),
  (49, .aload_n 0, 50, 0, 0, .null),
  (50, .getfield 16, 53, 6, 2, .null),
  (53, .bipush 49, 55, 0, 0, .int 49),
  (55, .iload_n 1, 56, 1, 0, .null),
  (56, .iadd, 57, 0, 0, .null),
  (57, .iaload, 58, 0, 0, .null),
  (58, .ireturn, 59, 0, 0, .null),
  (59, .aload_n 0, 60, 0, 0, .null),
  (60, .iload_n 1, 61, 1, 0, .null),
  (61, .invokevirtual 231, 64, 172, 2, .retAddr 206),
  (64, .aload_n 0, 65, 0, 0, .null),
  (65, .aload_n 0, 66, 0, 0, .null),
  (66, .getfield 16, 69, 6, 2, .null),
  (69, .iconst 3, 70, 0, 0, .int 3),
  (70, .invokevirtual 154, 73, 153, 3, .retAddr 606),
  (73, .land, 74, 0, 0, .null),
  (74, .invokestatic 166, 77, 129, 1, .retAddr 506),
  (77, .ireturn, 78, 0, 0, .null),
  (78, .ldc 73, 80, 0, 0, .int (-1000000002)),
  (80, .ireturn, 81, 0, 0, .null)]
def k_M_remember : List (Nat × Ent) := [
  (0, .aload_n 0, 1, 0, 0, .null),
  (1, .getfield 62, 4, 6, 6, .null),
  (4, .bipush 30, 6, 0, 0, .int 30),
  (6, .if_icmp .ne 43, 9, 49, 0, .null),
  (9, .iconst 0, 10, 0, 0, .int 0),
  (10, .istore_n 1, 11, 1, 0, .null),
  (11, .iload_n 1, 12, 1, 0, .null),
  (12, .sipush 1682, 15, 0, 0, .int 1682),
  (15, .if_icmp .ge 24, 18, 39, 0, .null),
  (18, .aload_n 0, 19, 0, 0, .null),
  (19, .getfield 25, 22, 6, 5, .null),
  (22, .iload_n 1, 23, 1, 0, .null),
  (23, .aload_n 0, 24, 0, 0, .null),
  (24, .getfield 25, 27, 6, 5, .null),
  (27, .iload_n 1, 28, 1, 0, .null),
  (28, .bipush 58, 30, 0, 0, .int 58),
  (30, .iadd, 31, 0, 0, .null),
  (31, .iaload, 32, 0, 0, .null),
  (32, .iastore, 33, 0, 0, .null),
  (33, .iinc 1 1, 36, 1, 0, .int 1),
  (36, .goto (-25), 39, 11, 0, .null),
  (39, .aload_n 0, 40, 0, 0, .null),
  (40, .dup, 41, 0, 0, .null),
  (41, .getfield 62, 44, 6, 6, .null),
  (44, .iconst 1, 45, 0, 0, .int 1),
  (45, .isub, 46, 0, 0, .null),
  (46, .putfield 62, 49, 6, 6, .null),
  (49, .aload_n 0, 50, 0, 0, .null),
  (50, .getfield 16, 53, 6, 2, .null),
  (53, .iconst 0, 54, 0, 0, .int 0),
  (54, .aload_n 0, 55, 0, 0, .null),
  (55, .getfield 25, 58, 6, 5, .null),
  (58, .bipush 58, 60, 0, 0, .int 58),
  (60, .aload_n 0, 61, 0, 0, .null),
  (61, .getfield 62, 64, 6, 6, .null),
  (64, .imul, 65, 0, 0, .null),
  (65, .bipush 58, 67, 0, 0, .int 58),
  (67, .invokestatic 131, 70, 132, 5, .retAddr 606),
  (70, .aload_n 0, 71, 0, 0, .null),
  (71, .dup, 72, 0, 0, .null),
  (72, .getfield 62, 75, 6, 6, .null),
  (75, .iconst 1, 76, 0, 0, .int 1),
  (76, .iadd, 77, 0, 0, .null),
  (77, .putfield 62, 80, 6, 6, .null),
  (80, .return_, 81, 0, 0, .null)]
def k_M_lies : List (Nat × Ent) := [
  (0, .aload_n 1, 1, 1, 0, .null),
  (1, .bipush 49, 3, 0, 0, .int 49),
  (3, .iload_n 2, 4, 2, 0, .null),
  (4, .iadd, 5, 0, 0, .null),
  (5, .iload_n 3, 6, 3, 0, .null),
  (6, .iastore, 7, 0, 0, .null),
  (7, .aload_n 0, 8, 0, 0, .null),
  (8, .aload_n 1, 9, 1, 0, .null),
  (9, .aload_n 0, 10, 0, 0, .null),
  (10, .aload_n 0, 11, 0, 0, .null),
  (11, .getfield 7, 14, 6, 0, .null),
  (14, .iconst 5, 15, 0, 0, .int 5),
  (15, .iload_n 2, 16, 2, 0, .null),
  (16, .iadd, 17, 0, 0, .null),
  (17, .iaload, 18, 0, 0, .null),
  (18, .iload_n 3, 19, 3, 0, .null),
  (19, .invokevirtual 150, 22, 152, 3, .retAddr 906),
  (22, .bipush 9, 24, 0, 0, .int 9),
  (24, .invokevirtual 235, 27, 155, 4, .retAddr 606),
  (27, .return_, 28, 0, 0, .null)]
def k_M_lie : List (Nat × Ent) := [
  (0, .aload_n 0, 1, 0, 0, .null),
  (1, .iload_n 1, 2, 1, 0, .null),
  (2, .invokevirtual 228, 5, 148, 2, .retAddr 206),
  (5, .ifCond .eq 11, 8, 16, 0, .null),
  (8, .aload_n 0, 9, 0, 0, .null),
  (9, .iload_n 2, 10, 2, 0, .null),
  (10, .invokevirtual 218, 13, 147, 2, .retAddr 206),
  (13, .ifCond .ne 6, 16, 19, 0, .null),
  (16, .ldc 221, 18, 0, 0, .int (-1000000001)),
  (18, .ireturn, 19, 0, 0, .null),
  (19, .aload_n 0, 20, 0, 0, .null),
  (20, .aload_n 0, 21, 0, 0, .null),
  (21, .getfield 16, 24, 6, 2, .null),
  (24, .aload_n 0, 25, 0, 0, .null),
  (25, .getfield 7, 28, 6, 0, .null),
  (28, .iconst 5, 29, 0, 0, .int 5),
  (29, .iload_n 1, 30, 1, 0, .null),
  (30, .iadd, 31, 0, 0, .null),
  (31, .iaload, 32, 0, 0, .null),
  (32, .iload_n 2, 33, 2, 0, .null),
  (33, .invokevirtual 239, 36, 154, 4, .retAddr 606),
  (36, .ifCond .ne 6, 39, 42, 0, .null),
  (39, .ldc 243, 41, 0, 0, .int (-1000000003)),
  (41, .ireturn, 42, 0, 0, .null),
  (42, .aload_n 0, 43, 0, 0, .null),
  (43, .invokevirtual 244, 46, 174, 1, .retAddr 206),
  (46, .aload_n 0, 47, 0, 0, .null),
  (47, .aload_n 0, 48, 0, 0, .null),
  (48, .getfield 16, 51, 6, 2, .null),
  (51, .iload_n 1, 52, 1, 0, .null),
  (52, .iload_n 2, 53, 2, 0, .null),
  (53, .invokevirtual 247, 56, 175, 4, .retAddr 406),
  (56, .aload_n 0, 57, 0, 0, .null),
  (57, .iload_n 1, 58, 1, 0, .null),
  (58, .invokevirtual 231, 61, 172, 2, .retAddr 206),
  (61, .invokestatic 166, 64, 129, 1, .retAddr 506),
  (64, .ireturn, 65, 0, 0, .null)]
def k_M_rise : List (Nat × Ent) := [
  (0, .aload_n 0, 1, 0, 0, .null),
  (1, .iload_n 1, 2, 1, 0, .null),
  (2, .invokevirtual 228, 5, 148, 2, .retAddr 206),
  (5, .ifCond .ne 6, 8, 11, 0, .null),
  (8, .ldc 221, 10, 0, 0, .int (-1000000001)),
  (10, .ireturn, 11, 0, 0, .null),
  (11, .aload_n 0, 12, 0, 0, .null),
  (12, .iload_n 1, 13, 1, 0, .null),
  (13, .invokevirtual 182, 16, 162, 2, .retAddr 206),
  (16, .ifCond .ne 6, 19, 22, 0, .null),
  (19, .ldc 243, 21, 0, 0, .int (-1000000003)),
  (21, .ireturn, 22, 0, 0, .null),
  (22, .aload_n 0, 23, 0, 0, .null),
  (23, .invokevirtual 244, 26, 174, 1, .retAddr 206),
  (26, .aload_n 0, 27, 0, 0, .null),
  (27, .getfield 16, 30, 6, 2, .null),
  (30, .bipush 49, 32, 0, 0, .int 49),
  (32, .iload_n 1, 33, 1, 0, .null),
  (33, .iadd, 34, 0, 0, .null),
  (34, .iaload, 35, 0, 0, .null),
  (35, .istore_n 2, 36, 2, 0, .null),
  (36, .aload_n 0, 37, 0, 0, .null),
  (37, .getfield 16, 40, 6, 2, .null),
  (40, .bipush 49, 42, 0, 0, .int 49),
  (42, .iload_n 1, 43, 1, 0, .null),
  (43, .iadd, 44, 0, 0, .null),
  (44, .iconst (-1), 45, 0, 0, .int (-1)),
  (45, .iastore, 46, 0, 0, .null),
  (46, .iload_n 2, 47, 2, 0, .null),
  (47, .ireturn, 48, 0, 0, .null)]
def k_M_nightGoes : List (Nat × Ent) := [
  (0, .aload_n 1, 1, 1, 0, .null),
  (1, .iconst 0, 2, 0, 0, .int 0),
  (2, .aload_n 0, 3, 0, 0, .null),
  (3, .getfield 22, 6, 6, 4, .null),
  (6, .iconst 0, 7, 0, 0, .int 0),
  (7, .bipush 49, 9, 0, 0, .int 49),
  (9, .invokestatic 131, 12, 132, 5, .retAddr 606),
  (12, .aload_n 0, 13, 0, 0, .null),
  (13, .invokevirtual 138, 16, 149, 1, .retAddr 406),
  (16, .lstore_n 2, 17, 2, 0, .null),
  (17, .iconst 0, 18, 0, 0, .int 0),
  (18, .istore 4, 20, 4, 0, .null),
  (20, .iload 4, 22, 4, 0, .null),
  (22, .aload_n 0, 23, 0, 0, .null),
  (23, .invokevirtual 135, 26, 146, 1, .retAddr 106),
  (26, .if_icmp .ge 128, 29, 154, 0, .null),
  (29, .aload_n 0, 30, 0, 0, .null),
  (30, .getfield 22, 33, 6, 4, .null),
  (33, .iload 4, 35, 4, 0, .null),
  (35, .iaload, 36, 0, 0, .null),
  (36, .ifCond .le 112, 39, 148, 0, .null),
  (39, .aload_n 1, 40, 1, 0, .null),
  (40, .bipush 57, 42, 0, 0, .int 57),
  (42, .iaload, 43, 0, 0, .null),
  (43, .ifCond .ne 7, 46, 50, 0, .null),
  (46, .iconst (-1), 47, 0, 0, .int (-1)),
  (47, .goto 32, 50, 79, 0, .null),
  (50, .aload_n 0, 51, 0, 0, .null),
  (51, .iload 4, 53, 4, 0, .null),
  (53, .aload_n 1, 54, 1, 0, .null),
  (54, .bipush 57, 56, 0, 0, .int 57),
  (56, .iaload, 57, 0, 0, .null),
  (57, .iconst 3, 58, 0, 0, .int 3),
  (58, .if_icmp .ge 12, 61, 70, 0, .null),
  (61, .aload_n 1, 62, 1, 0, .null),
  (62, .bipush 57, 64, 0, 0, .int 57),
  (64, .iaload, 65, 0, 0, .null),
  (65, .iconst 2, 66, 0, 0, .int 2),
  (66, .iadd, 67, 0, 0, .null),
  (67, .goto 9, 70, 76, 0, .null),
  (70, .aload_n 1, 71, 1, 0, .null),
  (71, .bipush 57, 73, 0, 0, .int 57),
  (73, .iaload, 74, 0, 0, .null),
  (74, .iconst 2, 75, 0, 0, .int 2),
  (75, .isub, 76, 0, 0, .null),
  (76, .invokevirtual 146, 79, 151, 3, .retAddr 506),
  (79, .istore 5, 81, 5, 0, .null),
  (81, .aload_n 1, 82, 1, 0, .null),
  (82, .bipush 57, 84, 0, 0, .int 57),
  (84, .iaload, 85, 0, 0, .null),
  (85, .ifCond .eq 28, 88, 113, 0, .null),
  (88, .iload 5, 90, 5, 0, .null),
  (90, .iconst (-1), 91, 0, 0, .int (-1)),
  (91, .if_icmp .eq 26, 94, 117, 0, .null),
  (94, .lload_n 2, 95, 2, 0, .null),
  (95, .iload 5, 97, 5, 0, .null),
  (97, .invokestatic 142, 100, 128, 2, .retAddr 306),
  (100, .ifCond .ne 13, 103, 113, 0, .null),
  (103, .aload_n 0, 104, 0, 0, .null),
  (104, .getfield 22, 107, 6, 4, .null),
  (107, .iload 5, 109, 5, 0, .null),
  (109, .iaload, 110, 0, 0, .null),
  (110, .ifCond .le 7, 113, 117, 0, .null),
  (113, .iconst 1, 114, 0, 0, .int 1),
  (114, .goto 4, 117, 118, 0, .null),
  (117, .iconst 0, 118, 0, 0, .int 0),
  (118, .istore 6, 120, 6, 0, .null),
  (120, .aload_n 1, 121, 1, 0, .null),
  (121, .iconst 0, 122, 0, 0, .int 0),
  (122, .iload 4, 124, 4, 0, .null),
  (124, .iadd, 125, 0, 0, .null),
  (125, .iconst 0, 126, 0, 0, .int 0),
  (126, .aload_n 0, 127, 0, 0, .null),
  (127, .getfield 22, 130, 6, 4, .null),
  (130, .iload 4, 132, 4, 0, .null),
  (132, .iaload, 133, 0, 0, .null),
  (133, .iload 6, 135, 6, 0, .null),
  (135, .ifCond .eq 7, 138, 142, 0, .null),
  (138, .iconst 1, 139, 0, 0, .int 1),
  (139, .goto 4, 142, 143, 0, .null),
  (142, .iconst 2, 143, 0, 0, .int 2),
  (143, .isub, 144, 0, 0, .null),
  (144, .invokestatic 175, 147, 131, 2, .retAddr 206),
  (147, .iastore, 148, 0, 0, .null),
  (148, .iinc 4 1, 151, 4, 0, .int 1),
  (151, .goto (-131), 154, 20, 0, .null),
  (154, .aload_n 1, 155, 1, 0, .null),
  (155, .bipush 56, 157, 0, 0, .int 56),
  (157, .dup2, 158, 0, 0, .null),
  (158, .iaload, 159, 0, 0, .null),
  (159, .iconst 1, 160, 0, 0, .int 1),
  (160, .iadd, 161, 0, 0, .null),
  (161, .iastore, 162, 0, 0, .null),
  (162, .return_, 163, 0, 0, .null)]
def k_M_refuses : List (Nat × Ent) := [
  (0, .iload_n 1, 1, 1, 0, .null),
  (1, .i2l, 2, 0, 0, .null),
  (2, .lconst 1, 3, 0, 0, .long 1),
  (3, .ldc2_w 251, 6, 0, 0, .long 20),
  (6, .invokestatic 58, 9, 126, 3, .retAddr 606),
  (9, .ifCond .ne 6, 12, 15, 0, .null),
  (12, .ldc 73, 14, 0, 0, .int (-1000000002)),
  (14, .ireturn, 15, 0, 0, .null),
  (15, .aload_n 0, 16, 0, 0, .null),
  (16, .getfield 7, 19, 6, 0, .null),
  (19, .iconst 0, 20, 0, 0, .int 0),
  (20, .iaload, 21, 0, 0, .null),
  (21, .ifCond .ne 8, 24, 29, 0, .null),
  (24, .ldc 243, 26, 0, 0, .int (-1000000003)),
  (26, .goto 22, 29, 48, 0, .null),
  (29, .aload_n 0, 30, 0, 0, .null),
  (30, .getfield 16, 33, 6, 2, .null),
  (33, .bipush 56, 35, 0, 0, .int 56),
  (35, .iaload, 36, 0, 0, .null),
  (36, .sipush 9000, 39, 0, 0, .int 9000),
  (39, .if_icmp .le 8, 42, 47, 0, .null),
  (42, .ldc 77, 44, 0, 0, .int (-1000000004)),
  (44, .goto 4, 47, 48, 0, .null),
  (47, .iconst 0, 48, 0, 0, .int 0),
  (48, .ireturn, 49, 0, 0, .null)]
def k_M_night : List (Nat × Ent) := [
  (0, .aload_n 0, 1, 0, 0, .null),
  (1, .iload_n 1, 2, 1, 0, .null),
  (2, .invokevirtual 253, 5, 179, 2, .retAddr 206),
  (5, .istore_n 2, 6, 2, 0, .null),
  (6, .iload_n 2, 7, 2, 0, .null),
  (7, .ifCond .eq 5, 10, 12, 0, .null),
  (10, .iload_n 2, 11, 2, 0, .null),
  (11, .ireturn, 12, 0, 0, .null),
  (12, .iconst 0, 13, 0, 0, .int 0),
  (13, .istore_n 3, 14, 3, 0, .null),
  (14, .iload_n 3, 15, 3, 0, .null),
  (15, .iload_n 1, 16, 1, 0, .null),
  (16, .if_icmp .ge 21, 19, 37, 0, .null),
  (19, .aload_n 0, 20, 0, 0, .null),
  (20, .invokevirtual 244, 23, 174, 1, .retAddr 206),
  (23, .aload_n 0, 24, 0, 0, .null),
  (24, .aload_n 0, 25, 0, 0, .null),
  (25, .getfield 16, 28, 6, 2, .null),
  (28, .invokevirtual 195, 31, 178, 2, .retAddr 706),
  (31, .iinc 3 1, 34, 3, 0, .int 1),
  (34, .goto (-20), 37, 14, 0, .null),
  (37, .aload_n 0, 38, 0, 0, .null),
  (38, .aload_n 0, 39, 0, 0, .null),
  (39, .getfield 16, 42, 6, 2, .null),
  (42, .invokevirtual 202, 45, 159, 2, .retAddr 706),
  (45, .ireturn, 46, 0, 0, .null)]
def k_M_thaw : List (Nat × Ent) := [
  (0, .aload_n 0, 1, 0, 0, .null),
  (1, .getfield 7, 4, 6, 0, .null),
  (4, .iconst 0, 5, 0, 0, .int 0),
  (5, .iaload, 6, 0, 0, .null),
  (6, .ifCond .ne 6, 9, 12, 0, .null),
  (9, .ldc 243, 11, 0, 0, .int (-1000000003)),
  (11, .ireturn, 12, 0, 0, .null),
  (12, .aload_n 0, 13, 0, 0, .null),
  (13, .invokevirtual 244, 16, 174, 1, .retAddr 206),
  (16, .iconst 0, 17, 0, 0, .int 0),
  (17, .istore_n 1, 18, 1, 0, .null),
  (18, .iload_n 1, 19, 1, 0, .null),
  (19, .aload_n 0, 20, 0, 0, .null),
  (20, .invokevirtual 135, 23, 146, 1, .retAddr 106),
  (23, .if_icmp .ge 31, 26, 54, 0, .null),
  (26, .aload_n 0, 27, 0, 0, .null),
  (27, .getfield 16, 30, 6, 2, .null),
  (30, .iconst 0, 31, 0, 0, .int 0),
  (31, .iload_n 1, 32, 1, 0, .null),
  (32, .iadd, 33, 0, 0, .null),
  (33, .iconst 0, 34, 0, 0, .int 0),
  (34, .aload_n 0, 35, 0, 0, .null),
  (35, .getfield 16, 38, 6, 2, .null),
  (38, .iconst 0, 39, 0, 0, .int 0),
  (39, .iload_n 1, 40, 1, 0, .null),
  (40, .iadd, 41, 0, 0, .null),
  (41, .iaload, 42, 0, 0, .null),
  (42, .iconst 3, 43, 0, 0, .int 3),
  (43, .isub, 44, 0, 0, .null),
  (44, .invokestatic 175, 47, 131, 2, .retAddr 206),
  (47, .iastore, 48, 0, 0, .null),
  (48, .iinc 1 1, 51, 1, 0, .int 1),
  (51, .goto (-33), 54, 18, 0, .null),
  (54, .aload_n 0, 55, 0, 0, .null),
  (55, .aload_n 0, 56, 0, 0, .null),
  (56, .getfield 16, 59, 6, 2, .null),
  (59, .invokevirtual 202, 62, 159, 2, .retAddr 706),
  (62, .ireturn, 63, 0, 0, .null)]
def k_M_snows : List (Nat × Ent) := [
  (0, .iconst 0, 1, 0, 0, .int 0),
  (1, .istore_n 1, 2, 1, 0, .null),
  (2, .iload_n 1, 3, 1, 0, .null),
  (3, .aload_n 0, 4, 0, 0, .null),
  (4, .invokevirtual 135, 7, 146, 1, .retAddr 106),
  (7, .if_icmp .ge 43, 10, 50, 0, .null),
  (10, .aload_n 0, 11, 0, 0, .null),
  (11, .getfield 16, 14, 6, 2, .null),
  (14, .iconst 0, 15, 0, 0, .int 0),
  (15, .iload_n 1, 16, 1, 0, .null),
  (16, .iadd, 17, 0, 0, .null),
  (17, .aload_n 0, 18, 0, 0, .null),
  (18, .getfield 16, 21, 6, 2, .null),
  (21, .iconst 0, 22, 0, 0, .int 0),
  (22, .iload_n 1, 23, 1, 0, .null),
  (23, .iadd, 24, 0, 0, .null),
  (24, .iaload, 25, 0, 0, .null),
  (25, .iconst 5, 26, 0, 0, .int 5),
  (26, .if_icmp .ge 7, 29, 33, 0, .null),
  (29, .iconst 0, 30, 0, 0, .int 0),
  (30, .goto 13, 33, 43, 0, .null),
  (33, .aload_n 0, 34, 0, 0, .null),
  (34, .getfield 16, 37, 6, 2, .null),
  (37, .iconst 0, 38, 0, 0, .int 0),
  (38, .iload_n 1, 39, 1, 0, .null),
  (39, .iadd, 40, 0, 0, .null),
  (40, .iaload, 41, 0, 0, .null),
  (41, .iconst 1, 42, 0, 0, .int 1),
  (42, .isub, 43, 0, 0, .null),
  (43, .iastore, 44, 0, 0, .null),
  (44, .iinc 1 1, 47, 1, 0, .int 1),
  (47, .goto (-45), 50, 2, 0, .null),
  (50, .return_, 51, 0, 0, .null)]
def k_M_snow : List (Nat × Ent) := [
  (0, .aload_n 0, 1, 0, 0, .null),
  (1, .getfield 7, 4, 6, 0, .null),
  (4, .iconst 0, 5, 0, 0, .int 0),
  (5, .iaload, 6, 0, 0, .null),
  (6, .ifCond .ne 6, 9, 12, 0, .null),
  (9, .ldc 243, 11, 0, 0, .int (-1000000003)),
  (11, .ireturn, 12, 0, 0, .null),
  (12, .aload_n 0, 13, 0, 0, .null),
  (13, .invokevirtual 244, 16, 174, 1, .retAddr 206),
  (16, .aload_n 0, 17, 0, 0, .null),
  (17, .invokevirtual 256, 20, 182, 1, .retAddr 206),
  (20, .aload_n 0, 21, 0, 0, .null),
  (21, .aload_n 0, 22, 0, 0, .null),
  (22, .getfield 16, 25, 6, 2, .null),
  (25, .invokevirtual 202, 28, 159, 2, .retAddr 706),
  (28, .ireturn, 29, 0, 0, .null)]
def k_M_runs : List (Nat × Ent) := [
  (0, .aload_n 0, 1, 0, 0, .null),
  (1, .getfield 16, 4, 6, 2, .null),
  (4, .iconst 0, 5, 0, 0, .int 0),
  (5, .iload_n 1, 6, 1, 0, .null),
  (6, .iadd, 7, 0, 0, .null),
  (7, .bipush 9, 9, 0, 0, .int 9),
  (9, .aload_n 0, 10, 0, 0, .null),
  (10, .getfield 16, 13, 6, 2, .null),
  (13, .iconst 0, 14, 0, 0, .int 0),
  (14, .iload_n 1, 15, 1, 0, .null),
  (15, .iadd, 16, 0, 0, .null),
  (16, .iaload, 17, 0, 0, .null),
  (17, .iconst 2, 18, 0, 0, .int 2),
  (18, .iadd, 19, 0, 0, .null),
  (19, .invokestatic 189, 22, 130, 2, .retAddr 206),
  (22, .iastore, 23, 0, 0, .null),
  (23, .return_, 24, 0, 0, .null)]
def k_M_hare : List (Nat × Ent) := [
  (0, .aload_n 0, 1, 0, 0, .null),
  (1, .iload_n 1, 2, 1, 0, .null),
  (2, .invokevirtual 218, 5, 147, 2, .retAddr 206),
  (5, .ifCond .ne 6, 8, 11, 0, .null),
  (8, .ldc 221, 10, 0, 0, .int (-1000000001)),
  (10, .ireturn, 11, 0, 0, .null),
  (11, .aload_n 0, 12, 0, 0, .null),
  (12, .iload_n 1, 13, 1, 0, .null),
  (13, .invokevirtual 222, 16, 150, 2, .retAddr 206),
  (16, .ifCond .eq 6, 19, 22, 0, .null),
  (19, .ldc 243, 21, 0, 0, .int (-1000000003)),
  (21, .ireturn, 22, 0, 0, .null),
  (22, .aload_n 0, 23, 0, 0, .null),
  (23, .invokevirtual 244, 26, 174, 1, .retAddr 206),
  (26, .aload_n 0, 27, 0, 0, .null),
  (27, .iload_n 1, 28, 1, 0, .null),
  (28, .invokevirtual 259, 31, 184, 2, .retAddr 206),
  (31, .aload_n 0, 32, 0, 0, .null),
  (32, .getfield 16, 35, 6, 2, .null),
  (35, .iconst 0, 36, 0, 0, .int 0),
  (36, .iload_n 1, 37, 1, 0, .null),
  (37, .iadd, 38, 0, 0, .null),
  (38, .iaload, 39, 0, 0, .null),
  (39, .ireturn, 40, 0, 0, .null)]
def k_M_pin : List (Nat × Ent) := [
  (0, .iload_n 1, 1, 1, 0, .null),
  (1, .i2l, 2, 0, 0, .null),
  (2, .lconst 0, 3, 0, 0, .long 0),
  (3, .aload_n 0, 4, 0, 0, .null),
  (4, .getfield 7, 7, 6, 0, .null),
  (7, .iconst 1, 8, 0, 0, .int 1),
  (8, .iaload, 9, 0, 0, .null),
  (9, .iconst 1, 10, 0, 0, .int 1),
  (10, .isub, 11, 0, 0, .null),
  (11, .i2l, 12, 0, 0, .null),
  (12, .invokestatic 58, 15, 126, 3, .retAddr 606),
  (15, .ifCond .ne 6, 18, 21, 0, .null),
  (18, .ldc 73, 20, 0, 0, .int (-1000000002)),
  (20, .ireturn, 21, 0, 0, .null),
  (21, .aload_n 0, 22, 0, 0, .null),
  (22, .invokevirtual 244, 25, 174, 1, .retAddr 206),
  (25, .iload_n 1, 26, 1, 0, .null),
  (26, .aload_n 0, 27, 0, 0, .null),
  (27, .getfield 7, 30, 6, 0, .null),
  (30, .iconst 0, 31, 0, 0, .int 0),
  (31, .iaload, 32, 0, 0, .null),
  (32, .imul, 33, 0, 0, .null),
  (33, .istore_n 2, 34, 2, 0, .null),
  (34, .iload_n 2, 35, 2, 0, .null),
  (35, .iload_n 1, 36, 1, 0, .null),
  (36, .iconst 1, 37, 0, 0, .int 1),
  (37, .iadd, 38, 0, 0, .null),
  (38, .aload_n 0, 39, 0, 0, .null),
  (39, .getfield 7, 42, 6, 0, .null),
  (42, .iconst 0, 43, 0, 0, .int 0),
  (43, .iaload, 44, 0, 0, .null),
  (44, .imul, 45, 0, 0, .null),
  (45, .if_icmp .ge 41, 48, 86, 0, .null),
  (48, .aload_n 0, 49, 0, 0, .null),
  (49, .getfield 16, 52, 6, 2, .null),
  (52, .iconst 0, 53, 0, 0, .int 0),
  (53, .iload_n 2, 54, 2, 0, .null),
  (54, .iadd, 55, 0, 0, .null),
  (55, .aload_n 0, 56, 0, 0, .null),
  (56, .iload_n 2, 57, 2, 0, .null),
  (57, .invokevirtual 222, 60, 150, 2, .retAddr 206),
  (60, .ifCond .eq 7, 63, 67, 0, .null),
  (63, .iconst 0, 64, 0, 0, .int 0),
  (64, .goto 15, 67, 79, 0, .null),
  (67, .iconst 5, 68, 0, 0, .int 5),
  (68, .aload_n 0, 69, 0, 0, .null),
  (69, .getfield 16, 72, 6, 2, .null),
  (72, .iconst 0, 73, 0, 0, .int 0),
  (73, .iload_n 2, 74, 2, 0, .null),
  (74, .iadd, 75, 0, 0, .null),
  (75, .iaload, 76, 0, 0, .null),
  (76, .invokestatic 175, 79, 131, 2, .retAddr 206),
  (79, .iastore, 80, 0, 0, .null),
  (80, .iinc 2 1, 83, 2, 0, .int 1),
  (83, .goto (-49), 86, 34, 0, .null),
  (86, .aload_n 0, 87, 0, 0, .null),
  (87, .aload_n 0, 88, 0, 0, .null),
  (88, .getfield 16, 91, 6, 2, .null),
  (91, .invokevirtual 202, 94, 159, 2, .retAddr 706),
  (94, .ireturn, 95, 0, 0, .null)]
def k_M_wind : List (Nat × Ent) := [
  (0, .iload_n 1, 1, 1, 0, .null),
  (1, .i2l, 2, 0, 0, .null),
  (2, .lconst 0, 3, 0, 0, .long 0),
  (3, .ldc2_w 263, 6, 0, 0, .long 4),
  (6, .invokestatic 58, 9, 126, 3, .retAddr 606),
  (9, .ifCond .ne 6, 12, 15, 0, .null),
  (12, .ldc 73, 14, 0, 0, .int (-1000000002)),
  (14, .ireturn, 15, 0, 0, .null),
  (15, .aload_n 0, 16, 0, 0, .null),
  (16, .getfield 7, 19, 6, 0, .null),
  (19, .iconst 0, 20, 0, 0, .int 0),
  (20, .iaload, 21, 0, 0, .null),
  (21, .ifCond .ne 6, 24, 27, 0, .null),
  (24, .ldc 243, 26, 0, 0, .int (-1000000003)),
  (26, .ireturn, 27, 0, 0, .null),
  (27, .aload_n 0, 28, 0, 0, .null),
  (28, .invokevirtual 244, 31, 174, 1, .retAddr 206),
  (31, .aload_n 0, 32, 0, 0, .null),
  (32, .getfield 16, 35, 6, 2, .null),
  (35, .bipush 57, 37, 0, 0, .int 57),
  (37, .iaload, 38, 0, 0, .null),
  (38, .istore_n 2, 39, 2, 0, .null),
  (39, .aload_n 0, 40, 0, 0, .null),
  (40, .getfield 16, 43, 6, 2, .null),
  (43, .bipush 57, 45, 0, 0, .int 57),
  (45, .iload_n 1, 46, 1, 0, .null),
  (46, .iastore, 47, 0, 0, .null),
  (47, .iload_n 2, 48, 2, 0, .null),
  (48, .ireturn, 49, 0, 0, .null)]
def k_M_draw : List (Nat × Ent) := [
  (0, .aload_n 0, 1, 0, 0, .null),
  (1, .aload_n 0, 2, 0, 0, .null),
  (2, .getfield 265, 5, 6, 9, .null),
  (5, .ldc2_w 269, 8, 0, 0, .long 1103515245),
  (8, .lmul, 9, 0, 0, .null),
  (9, .ldc2_w 271, 12, 0, 0, .long 12345),
  (12, .ladd, 13, 0, 0, .null),
  (13, .ldc2_w 273, 16, 0, 0, .long 2147483648),
  (16, .lrem, 17, 0, 0, .null),
  (17, .putfield 265, 20, 6, 9, .null),
  (20, .aload_n 0, 21, 0, 0, .null),
  (21, .getfield 265, 24, 6, 9, .null),
  (24, .ldc2_w 275, 27, 0, 0, .long 65536),
  (27, .ldiv, 28, 0, 0, .null),
  (28, .iload_n 1, 29, 1, 0, .null),
  (29, .i2l, 30, 0, 0, .null),
  (30, .lrem, 31, 0, 0, .null),
  (31, .l2i, 32, 0, 0, .null),
  (32, .ireturn, 33, 0, 0, .null)]
def k_M_draws : List (Nat × Ent) := [
  (0, .aload_n 0, 1, 0, 0, .null),
  (1, .bipush 8, 3, 0, 0, .int 8),
  (3, .invokevirtual 277, 6, 188, 2, .retAddr 206),
  (6, .istore_n 1, 7, 1, 0, .null),
  (7, .iload_n 1, 8, 1, 0, .null),
  (8, .ifCond .ne 65, 11, 73, 0, .null),
  (11, .aload_n 0, 12, 0, 0, .null),
  (12, .getfield 7, 15, 6, 0, .null),
  (15, .iconst 2, 16, 0, 0, .int 2),
  (16, .iaload, 17, 0, 0, .null),
  (17, .ifCond .le 56, 20, 73, 0, .null),
  (20, .aload_n 0, 21, 0, 0, .null),
  (21, .aload_n 0, 22, 0, 0, .null),
  (22, .getfield 7, 25, 6, 0, .null),
  (25, .iconst 2, 26, 0, 0, .int 2),
  (26, .iaload, 27, 0, 0, .null),
  (27, .invokevirtual 277, 30, 188, 2, .retAddr 206),
  (30, .istore_n 2, 31, 2, 0, .null),
  (31, .aload_n 0, 32, 0, 0, .null),
  (32, .aload_n 0, 33, 0, 0, .null),
  (33, .invokevirtual 135, 36, 146, 1, .retAddr 106),
  (36, .invokevirtual 277, 39, 188, 2, .retAddr 206),
  (39, .istore_n 3, 40, 3, 0, .null),
  (40, .aload_n 0, 41, 0, 0, .null),
  (41, .aload_n 0, 42, 0, 0, .null),
  (42, .getfield 16, 45, 6, 2, .null),
  (45, .aload_n 0, 46, 0, 0, .null),
  (46, .getfield 7, 49, 6, 0, .null),
  (49, .iconst 5, 50, 0, 0, .int 5),
  (50, .iload_n 2, 51, 2, 0, .null),
  (51, .iadd, 52, 0, 0, .null),
  (52, .iaload, 53, 0, 0, .null),
  (53, .iload_n 3, 54, 3, 0, .null),
  (54, .invokevirtual 239, 57, 154, 4, .retAddr 606),
  (57, .ifCond .eq 13, 60, 70, 0, .null),
  (60, .aload_n 0, 61, 0, 0, .null),
  (61, .aload_n 0, 62, 0, 0, .null),
  (62, .getfield 16, 65, 6, 2, .null),
  (65, .iload_n 2, 66, 2, 0, .null),
  (66, .iload_n 3, 67, 3, 0, .null),
  (67, .invokevirtual 247, 70, 175, 4, .retAddr 406),
  (70, .goto 62, 73, 132, 0, .null),
  (73, .iload_n 1, 74, 1, 0, .null),
  (74, .iconst 1, 75, 0, 0, .int 1),
  (75, .if_icmp .ne 28, 78, 103, 0, .null),
  (78, .aload_n 0, 79, 0, 0, .null),
  (79, .aload_n 0, 80, 0, 0, .null),
  (80, .invokevirtual 135, 83, 146, 1, .retAddr 106),
  (83, .invokevirtual 277, 86, 188, 2, .retAddr 206),
  (86, .istore_n 2, 87, 2, 0, .null),
  (87, .aload_n 0, 88, 0, 0, .null),
  (88, .iload_n 2, 89, 2, 0, .null),
  (89, .invokevirtual 222, 92, 150, 2, .retAddr 206),
  (92, .ifCond .ne 8, 95, 100, 0, .null),
  (95, .aload_n 0, 96, 0, 0, .null),
  (96, .iload_n 2, 97, 2, 0, .null),
  (97, .invokevirtual 259, 100, 184, 2, .retAddr 206),
  (100, .goto 32, 103, 132, 0, .null),
  (103, .iload_n 1, 104, 1, 0, .null),
  (104, .iconst 2, 105, 0, 0, .int 2),
  (105, .if_icmp .ne 10, 108, 115, 0, .null),
  (108, .aload_n 0, 109, 0, 0, .null),
  (109, .invokevirtual 256, 112, 182, 1, .retAddr 206),
  (112, .goto 20, 115, 132, 0, .null),
  (115, .iload_n 1, 116, 1, 0, .null),
  (116, .iconst 3, 117, 0, 0, .int 3),
  (117, .if_icmp .ne 15, 120, 132, 0, .null),
  (120, .aload_n 0, 121, 0, 0, .null),
  (121, .getfield 16, 124, 6, 2, .null),
  (124, .bipush 57, 126, 0, 0, .int 57),
  (126, .aload_n 0, 127, 0, 0, .null),
  (127, .iconst 5, 128, 0, 0, .int 5),
  (128, .invokevirtual 277, 131, 188, 2, .retAddr 206),
  (131, .iastore, 132, 0, 0, .null),
  (132, .return_, 133, 0, 0, .null)]
def k_M_drift : List (Nat × Ent) := [
  (0, .aload_n 0, 1, 0, 0, .null),
  (1, .iload_n 1, 2, 1, 0, .null),
  (2, .invokevirtual 253, 5, 179, 2, .retAddr 206),
  (5, .istore_n 2, 6, 2, 0, .null),
  (6, .iload_n 2, 7, 2, 0, .null),
  (7, .ifCond .eq 5, 10, 12, 0, .null),
  (10, .iload_n 2, 11, 2, 0, .null),
  (11, .ireturn, 12, 0, 0, .null),
  (12, .iconst 0, 13, 0, 0, .int 0),
  (13, .istore_n 3, 14, 3, 0, .null),
  (14, .iload_n 3, 15, 3, 0, .null),
  (15, .iload_n 1, 16, 1, 0, .null),
  (16, .if_icmp .ge 25, 19, 41, 0, .null),
  (19, .aload_n 0, 20, 0, 0, .null),
  (20, .invokevirtual 244, 23, 174, 1, .retAddr 206),
  (23, .aload_n 0, 24, 0, 0, .null),
  (24, .invokevirtual 280, 27, 189, 1, .retAddr 406),
  (27, .aload_n 0, 28, 0, 0, .null),
  (28, .aload_n 0, 29, 0, 0, .null),
  (29, .getfield 16, 32, 6, 2, .null),
  (32, .invokevirtual 195, 35, 178, 2, .retAddr 706),
  (35, .iinc 3 1, 38, 3, 0, .int 1),
  (38, .goto (-24), 41, 14, 0, .null),
  (41, .aload_n 0, 42, 0, 0, .null),
  (42, .aload_n 0, 43, 0, 0, .null),
  (43, .getfield 16, 46, 6, 2, .null),
  (46, .invokevirtual 202, 49, 159, 2, .retAddr 706),
  (49, .ireturn, 50, 0, 0, .null)]
def k_M_undo : List (Nat × Ent) := [
  (0, .iload_n 1, 1, 1, 0, .null),
  (1, .i2l, 2, 0, 0, .null),
  (2, .lconst 1, 3, 0, 0, .long 1),
  (3, .ldc2_w 283, 6, 0, 0, .long 30),
  (6, .invokestatic 58, 9, 126, 3, .retAddr 606),
  (9, .ifCond .ne 6, 12, 15, 0, .null),
  (12, .ldc 73, 14, 0, 0, .int (-1000000002)),
  (14, .ireturn, 15, 0, 0, .null),
  (15, .iload_n 1, 16, 1, 0, .null),
  (16, .aload_n 0, 17, 0, 0, .null),
  (17, .getfield 62, 20, 6, 6, .null),
  (20, .if_icmp .le 6, 23, 26, 0, .null),
  (23, .ldc 243, 25, 0, 0, .int (-1000000003)),
  (25, .ireturn, 26, 0, 0, .null),
  (26, .aload_n 0, 27, 0, 0, .null),
  (27, .dup, 28, 0, 0, .null),
  (28, .getfield 62, 31, 6, 6, .null),
  (31, .iload_n 1, 32, 1, 0, .null),
  (32, .isub, 33, 0, 0, .null),
  (33, .putfield 62, 36, 6, 6, .null),
  (36, .aload_n 0, 37, 0, 0, .null),
  (37, .getfield 25, 40, 6, 5, .null),
  (40, .bipush 58, 42, 0, 0, .int 58),
  (42, .aload_n 0, 43, 0, 0, .null),
  (43, .getfield 62, 46, 6, 6, .null),
  (46, .imul, 47, 0, 0, .null),
  (47, .aload_n 0, 48, 0, 0, .null),
  (48, .getfield 16, 51, 6, 2, .null),
  (51, .iconst 0, 52, 0, 0, .int 0),
  (52, .bipush 58, 54, 0, 0, .int 58),
  (54, .invokestatic 131, 57, 132, 5, .retAddr 606),
  (57, .aload_n 0, 58, 0, 0, .null),
  (58, .getfield 16, 61, 6, 2, .null),
  (61, .bipush 56, 63, 0, 0, .int 56),
  (63, .iaload, 64, 0, 0, .null),
  (64, .ireturn, 65, 0, 0, .null)]
def k_M_left : List (Nat × Ent) := [
  (0, .aload_n 0, 1, 0, 0, .null),
  (1, .iload_n 1, 2, 1, 0, .null),
  (2, .invokevirtual 218, 5, 147, 2, .retAddr 206),
  (5, .ifCond .ne 6, 8, 11, 0, .null),
  (8, .ldc 221, 10, 0, 0, .int (-1000000001)),
  (10, .ireturn, 11, 0, 0, .null),
  (11, .iload_n 2, 12, 2, 0, .null),
  (12, .i2l, 13, 0, 0, .null),
  (13, .lconst 0, 14, 0, 0, .long 0),
  (14, .ldc2_w 251, 17, 0, 0, .long 20),
  (17, .invokestatic 58, 20, 126, 3, .retAddr 606),
  (20, .ifCond .ne 6, 23, 26, 0, .null),
  (23, .ldc 73, 25, 0, 0, .int (-1000000002)),
  (25, .ireturn, 26, 0, 0, .null),
  (26, .aload_n 0, 27, 0, 0, .null),
  (27, .invokevirtual 192, 30, 167, 1, .retAddr 106),
  (30, .iconst 0, 31, 0, 0, .int 0),
  (31, .istore_n 3, 32, 3, 0, .null),
  (32, .iload_n 3, 33, 3, 0, .null),
  (33, .iload_n 2, 34, 2, 0, .null),
  (34, .if_icmp .ge 17, 37, 51, 0, .null),
  (37, .aload_n 0, 38, 0, 0, .null),
  (38, .aload_n 0, 39, 0, 0, .null),
  (39, .getfield 19, 42, 6, 3, .null),
  (42, .invokevirtual 195, 45, 178, 2, .retAddr 706),
  (45, .iinc 3 1, 48, 3, 0, .int 1),
  (48, .goto (-16), 51, 32, 0, .null),
  (51, .aload_n 0, 52, 0, 0, .null),
  (52, .getfield 19, 55, 6, 3, .null),
  (55, .iconst 0, 56, 0, 0, .int 0),
  (56, .iload_n 1, 57, 1, 0, .null),
  (57, .iadd, 58, 0, 0, .null),
  (58, .iaload, 59, 0, 0, .null),
  (59, .ireturn, 60, 0, 0, .null)]
def k_M_willCount : List (Nat × Ent) := [
  (0, .iload_n 1, 1, 1, 0, .null),
  (1, .i2l, 2, 0, 0, .null),
  (2, .lconst 0, 3, 0, 0, .long 0),
  (3, .ldc2_w 251, 6, 0, 0, .long 20),
  (6, .invokestatic 58, 9, 126, 3, .retAddr 606),
  (9, .ifCond .ne 6, 12, 15, 0, .null),
  (12, .ldc 73, 14, 0, 0, .int (-1000000002)),
  (14, .ireturn, 15, 0, 0, .null),
  (15, .aload_n 0, 16, 0, 0, .null),
  (16, .invokevirtual 192, 19, 167, 1, .retAddr 106),
  (19, .iconst 0, 20, 0, 0, .int 0),
  (20, .istore_n 2, 21, 2, 0, .null),
  (21, .iload_n 2, 22, 2, 0, .null),
  (22, .iload_n 1, 23, 1, 0, .null),
  (23, .if_icmp .ge 17, 26, 40, 0, .null),
  (26, .aload_n 0, 27, 0, 0, .null),
  (27, .aload_n 0, 28, 0, 0, .null),
  (28, .getfield 19, 31, 6, 3, .null),
  (31, .invokevirtual 195, 34, 178, 2, .retAddr 706),
  (34, .iinc 2 1, 37, 2, 0, .int 1),
  (37, .goto (-16), 40, 21, 0, .null),
  (40, .aload_n 0, 41, 0, 0, .null),
  (41, .aload_n 0, 42, 0, 0, .null),
  (42, .getfield 19, 45, 6, 3, .null),
  (45, .invokevirtual 202, 48, 159, 2, .retAddr 706),
  (48, .ireturn, 49, 0, 0, .null)]
def k_M_wrongFirst : List (Nat × Ent) := [
  (0, .aload_n 0, 1, 0, 0, .null),
  (1, .invokevirtual 192, 4, 167, 1, .retAddr 106),
  (4, .aload_n 0, 5, 0, 0, .null),
  (5, .invokevirtual 206, 8, 164, 1, .retAddr 306),
  (8, .istore_n 1, 9, 1, 0, .null),
  (9, .iconst 0, 10, 0, 0, .int 0),
  (10, .istore_n 2, 11, 2, 0, .null),
  (11, .iload_n 2, 12, 2, 0, .null),
  (12, .bipush 21, 14, 0, 0, .int 21),
  (14, .if_icmp .ge 31, 17, 45, 0, .null),
  (17, .aload_n 0, 18, 0, 0, .null),
  (18, .aload_n 0, 19, 0, 0, .null),
  (19, .getfield 19, 22, 6, 3, .null),
  (22, .invokevirtual 202, 25, 159, 2, .retAddr 706),
  (25, .iload_n 1, 26, 1, 0, .null),
  (26, .if_icmp .eq 5, 29, 31, 0, .null),
  (29, .iload_n 2, 30, 2, 0, .null),
  (30, .ireturn, 31, 0, 0, .null),
  (31, .aload_n 0, 32, 0, 0, .null),
  (32, .aload_n 0, 33, 0, 0, .null),
  (33, .getfield 19, 36, 6, 3, .null),
  (36, .invokevirtual 195, 39, 178, 2, .retAddr 706),
  (39, .iinc 2 1, 42, 2, 0, .int 1),
  (42, .goto (-31), 45, 11, 0, .null),
  (45, .iconst (-1), 46, 0, 0, .int (-1)),
  (46, .ireturn, 47, 0, 0, .null)]
def k_M_canLie : List (Nat × Ent) := [
  (0, .aload_n 0, 1, 0, 0, .null),
  (1, .iload_n 1, 2, 1, 0, .null),
  (2, .invokevirtual 228, 5, 148, 2, .retAddr 206),
  (5, .ifCond .ne 6, 8, 11, 0, .null),
  (8, .ldc 221, 10, 0, 0, .int (-1000000001)),
  (10, .ireturn, 11, 0, 0, .null),
  (11, .iload_n 2, 12, 2, 0, .null),
  (12, .i2l, 13, 0, 0, .null),
  (13, .lconst 0, 14, 0, 0, .long 0),
  (14, .ldc2_w 285, 17, 0, 0, .long 3),
  (17, .invokestatic 58, 20, 126, 3, .retAddr 606),
  (20, .ifCond .ne 6, 23, 26, 0, .null),
  (23, .ldc 73, 25, 0, 0, .int (-1000000002)),
  (25, .ireturn, 26, 0, 0, .null),
  (26, .iconst 0, 27, 0, 0, .int 0),
  (27, .istore_n 3, 28, 3, 0, .null),
  (28, .iconst (-1), 29, 0, 0, .int (-1)),
  (29, .istore 4, 31, 4, 0, .null),
  (31, .iconst (-1), 32, 0, 0, .int (-1)),
  (32, .istore 5, 34, 5, 0, .null),
  (34, .iconst (-1), 35, 0, 0, .int (-1)),
  (35, .istore 6, 37, 6, 0, .null),
  (37, .iconst (-1), 38, 0, 0, .int (-1)),
  (38, .istore 7, 40, 7, 0, .null),
  (40, .ldc 185, 42, 0, 0, .int 100000000),
  (42, .istore 8, 44, 8, 0, .null),
  (44, .iconst 0, 45, 0, 0, .int 0),
  (45, .istore 9, 47, 9, 0, .null),
  (47, .iload 9, 49, 9, 0, .null),
  (49, .aload_n 0, 50, 0, 0, .null),
  (50, .invokevirtual 135, 53, 146, 1, .retAddr 106),
  (53, .if_icmp .ge 123, 56, 176, 0, .null),
  (56, .aload_n 0, 57, 0, 0, .null),
  (57, .aload_n 0, 58, 0, 0, .null),
  (58, .getfield 16, 61, 6, 2, .null),
  (61, .aload_n 0, 62, 0, 0, .null),
  (62, .getfield 7, 65, 6, 0, .null),
  (65, .iconst 5, 66, 0, 0, .int 5),
  (66, .iload_n 1, 67, 1, 0, .null),
  (67, .iadd, 68, 0, 0, .null),
  (68, .iaload, 69, 0, 0, .null),
  (69, .iload 9, 71, 9, 0, .null),
  (71, .invokevirtual 239, 74, 154, 4, .retAddr 606),
  (74, .ifCond .eq 96, 77, 170, 0, .null),
  (77, .iinc 3 1, 80, 3, 0, .int 1),
  (80, .iload 4, 82, 4, 0, .null),
  (82, .iconst (-1), 83, 0, 0, .int (-1)),
  (83, .if_icmp .ne 8, 86, 91, 0, .null),
  (86, .iload 9, 88, 9, 0, .null),
  (88, .goto 5, 91, 93, 0, .null),
  (91, .iload 4, 93, 4, 0, .null),
  (93, .istore 4, 95, 4, 0, .null),
  (95, .aload_n 0, 96, 0, 0, .null),
  (96, .invokevirtual 192, 99, 167, 1, .retAddr 106),
  (99, .aload_n 0, 100, 0, 0, .null),
  (100, .aload_n 0, 101, 0, 0, .null),
  (101, .getfield 19, 104, 6, 3, .null),
  (104, .iload_n 1, 105, 1, 0, .null),
  (105, .iload 9, 107, 9, 0, .null),
  (107, .invokevirtual 247, 110, 175, 4, .retAddr 406),
  (110, .aload_n 0, 111, 0, 0, .null),
  (111, .aload_n 0, 112, 0, 0, .null),
  (112, .getfield 19, 115, 6, 3, .null),
  (115, .invokevirtual 202, 118, 159, 2, .retAddr 706),
  (118, .istore 10, 120, 10, 0, .null),
  (120, .iload 10, 122, 10, 0, .null),
  (122, .iload 7, 124, 7, 0, .null),
  (124, .if_icmp .le 8, 127, 132, 0, .null),
  (127, .iload 9, 129, 9, 0, .null),
  (129, .goto 5, 132, 134, 0, .null),
  (132, .iload 5, 134, 5, 0, .null),
  (134, .istore 5, 136, 5, 0, .null),
  (136, .iload 7, 138, 7, 0, .null),
  (138, .iload 10, 140, 10, 0, .null),
  (140, .invokestatic 175, 143, 131, 2, .retAddr 206),
  (143, .istore 7, 145, 7, 0, .null),
  (145, .iload 10, 147, 10, 0, .null),
  (147, .iload 8, 149, 8, 0, .null),
  (149, .if_icmp .ge 8, 152, 157, 0, .null),
  (152, .iload 9, 154, 9, 0, .null),
  (154, .goto 5, 157, 159, 0, .null),
  (157, .iload 6, 159, 6, 0, .null),
  (159, .istore 6, 161, 6, 0, .null),
  (161, .iload 8, 163, 8, 0, .null),
  (163, .iload 10, 165, 10, 0, .null),
  (165, .invokestatic 189, 168, 130, 2, .retAddr 206),
  (168, .istore 8, 170, 8, 0, .null),
  (170, .iinc 9 1, 173, 9, 0, .int 1),
  (173, .goto (-126), 176, 47, 0, .null),
  (176, .iload_n 2, 177, 2, 0, .null),
  (177, .ifCond .ne 7, 180, 184, 0, .null),
  (180, .iload_n 3, 181, 3, 0, .null),
  (181, .goto 25, 184, 206, 0, .null),
  (184, .iload_n 2, 185, 2, 0, .null),
  (185, .iconst 1, 186, 0, 0, .int 1),
  (186, .if_icmp .ne 8, 189, 194, 0, .null),
  (189, .iload 4, 191, 4, 0, .null),
  (191, .goto 15, 194, 206, 0, .null),
  (194, .iload_n 2, 195, 2, 0, .null),
  (195, .iconst 2, 196, 0, 0, .int 2),
  (196, .if_icmp .ne 8, 199, 204, 0, .null),
  (199, .iload 5, 201, 5, 0, .null),
  (201, .goto 5, 204, 206, 0, .null),
  (204, .iload 6, 206, 6, 0, .null),
  (206, .ireturn, 207, 0, 0, .null)]
def k_M_nextOrder : List (Nat × Ent) := [
  (0, .iload_n 1, 1, 1, 0, .null),
  (1, .iconst 2, 2, 0, 0, .int 2),
  (2, .isub, 3, 0, 0, .null),
  (3, .istore_n 2, 4, 2, 0, .null),
  (4, .iload_n 2, 5, 2, 0, .null),
  (5, .ifCond .lt 26, 8, 31, 0, .null),
  (8, .aload_n 0, 9, 0, 0, .null),
  (9, .getfield 48, 12, 6, 23, .null),
  (12, .iload_n 2, 13, 2, 0, .null),
  (13, .iaload, 14, 0, 0, .null),
  (14, .aload_n 0, 15, 0, 0, .null),
  (15, .getfield 48, 18, 6, 23, .null),
  (18, .iload_n 2, 19, 2, 0, .null),
  (19, .iconst 1, 20, 0, 0, .int 1),
  (20, .iadd, 21, 0, 0, .null),
  (21, .iaload, 22, 0, 0, .null),
  (22, .if_icmp .le 9, 25, 31, 0, .null),
  (25, .iinc 2 (-1), 28, 2, 0, .int (-1)),
  (28, .goto (-24), 31, 4, 0, .null),
  (31, .iload_n 2, 32, 2, 0, .null),
  (32, .ifCond .ge 5, 35, 37, 0, .null),
  (35, .iconst 0, 36, 0, 0, .int 0),
  (36, .ireturn, 37, 0, 1, .null),
  (37, .iload_n 1, 38, 1, 0, .null),
  (38, .iconst 1, 39, 0, 0, .int 1),
  (39, .isub, 40, 0, 0, .null),
  (40, .istore_n 3, 41, 3, 0, .null),
  (41, .aload_n 0, 42, 0, 0, .null),
  (42, .getfield 48, 45, 6, 23, .null),
  (45, .iload_n 3, 46, 3, 0, .null),
  (46, .iaload, 47, 0, 0, .null),
  (47, .aload_n 0, 48, 0, 0, .null),
  (48, .getfield 48, 51, 6, 23, .null),
  (51, .iload_n 2, 52, 2, 0, .null),
  (52, .iaload, 53, 0, 0, .null),
  (53, .if_icmp .ge 9, 56, 62, 0, .null),
  (56, .iinc 3 (-1), 59, 3, 0, .int (-1)),
  (59, .goto (-18), 62, 41, 0, .null),
  (62, .aload_n 0, 63, 0, 0, .null),
  (63, .getfield 48, 66, 6, 23, .null),
  (66, .iload_n 2, 67, 2, 0, .null),
  (67, .iaload, 68, 0, 0, .null),
  (68, .istore 4, 70, 4, 0, .null),
  (70, .aload_n 0, 71, 0, 0, .null),
  (71, .getfield 48, 74, 6, 23, .null),
  (74, .iload_n 2, 75, 2, 0, .null),
  (75, .aload_n 0, 76, 0, 0, .null),
  (76, .getfield 48, 79, 6, 23, .null),
  (79, .iload_n 3, 80, 3, 0, .null),
  (80, .iaload, 81, 0, 0, .null),
  (81, .iastore, 82, 0, 0, .null),
  (82, .aload_n 0, 83, 0, 0, .null),
  (83, .getfield 48, 86, 6, 23, .null),
  (86, .iload_n 3, 87, 3, 0, .null),
  (87, .iload 4, 89, 4, 0, .null),
  (89, .iastore, 90, 0, 0, .null),
  (90, .iload_n 2, 91, 2, 0, .null),
  (91, .iconst 1, 92, 0, 0, .int 1),
  (92, .iadd, 93, 0, 0, .null),
  (93, .istore 5, 95, 5, 0, .null),
  (95, .iload_n 1, 96, 1, 0, .null),
  (96, .iconst 1, 97, 0, 0, .int 1),
  (97, .isub, 98, 0, 0, .null),
  (98, .istore 6, 100, 6, 0, .null),
  (100, .iload 5, 102, 5, 0, .null),
  (102, .iload 6, 104, 6, 0, .null),
  (104, .if_icmp .ge 44, 107, 148, 0, .null),
  (107, .aload_n 0, 108, 0, 0, .null),
  (108, .getfield 48, 111, 6, 23, .null),
  (111, .iload 5, 113, 5, 0, .null),
  (113, .iaload, 114, 0, 0, .null),
  (114, .istore 4, 116, 4, 0, .null),
  (116, .aload_n 0, 117, 0, 0, .null),
  (117, .getfield 48, 120, 6, 23, .null),
  (120, .iload 5, 122, 5, 0, .null),
  (122, .aload_n 0, 123, 0, 0, .null),
  (123, .getfield 48, 126, 6, 23, .null),
  (126, .iload 6, 128, 6, 0, .null),
  (128, .iaload, 129, 0, 0, .null),
  (129, .iastore, 130, 0, 0, .null),
  (130, .aload_n 0, 131, 0, 0, .null),
  (131, .getfield 48, 134, 6, 23, .null),
  (134, .iload 6, 136, 6, 0, .null),
  (136, .iload 4, 138, 4, 0, .null),
  (138, .iastore, 139, 0, 0, .null),
  (139, .iinc 5 1, 142, 5, 0, .int 1),
  (142, .iinc 6 (-1), 145, 6, 0, .int (-1)),
  (145, .goto (-45), 148, 100, 0, .null),
  (148, .iconst 1, 149, 0, 0, .int 1),
  (149, .ireturn, 150, 0, 1, .null)]
def k_M_round : List (Nat × Ent) := [
  (0, .aload_n 0, 1, 0, 0, .null),
  (1, .iload_n 1, 2, 1, 0, .null),
  (2, .invokevirtual 218, 5, 147, 2, .retAddr 206),
  (5, .ifCond .eq 23, 8, 28, 0, .null),
  (8, .iload_n 2, 9, 2, 0, .null),
  (9, .i2l, 10, 0, 0, .null),
  (10, .lconst 0, 11, 0, 0, .long 0),
  (11, .iconst 1, 12, 0, 0, .int 1),
  (12, .aload_n 0, 13, 0, 0, .null),
  (13, .getfield 7, 16, 6, 0, .null),
  (16, .iconst 2, 17, 0, 0, .int 2),
  (17, .iaload, 18, 0, 0, .null),
  (18, .ishl, 19, 0, 0, .null),
  (19, .iconst 1, 20, 0, 0, .int 1),
  (20, .isub, 21, 0, 0, .null),
  (21, .i2l, 22, 0, 0, .null),
  (22, .invokestatic 58, 25, 126, 3, .retAddr 606),
  (25, .ifCond .ne 6, 28, 31, 0, .null),
  (28, .ldc 221, 30, 0, 0, .int (-1000000001)),
  (30, .ireturn, 31, 0, 0, .null),
  (31, .iload_n 3, 32, 3, 0, .null),
  (32, .i2l, 33, 0, 0, .null),
  (33, .lconst 0, 34, 0, 0, .long 0),
  (34, .lconst 1, 35, 0, 0, .long 1),
  (35, .invokestatic 58, 38, 126, 3, .retAddr 606),
  (38, .ifCond .ne 6, 41, 44, 0, .null),
  (41, .ldc 73, 43, 0, 0, .int (-1000000002)),
  (43, .ireturn, 44, 0, 0, .null),
  (44, .iconst 0, 45, 0, 0, .int 0),
  (45, .istore 4, 47, 4, 0, .null),
  (47, .iconst 0, 48, 0, 0, .int 0),
  (48, .istore 5, 50, 5, 0, .null),
  (50, .iload 5, 52, 5, 0, .null),
  (52, .aload_n 0, 53, 0, 0, .null),
  (53, .getfield 7, 56, 6, 0, .null),
  (56, .iconst 2, 57, 0, 0, .int 2),
  (57, .iaload, 58, 0, 0, .null),
  (58, .if_icmp .ge 30, 61, 88, 0, .null),
  (61, .iload_n 2, 62, 2, 0, .null),
  (62, .iload 5, 64, 5, 0, .null),
  (64, .invokestatic 287, 67, 127, 2, .retAddr 206),
  (67, .ifCond .eq 15, 70, 82, 0, .null),
  (70, .aload_n 0, 71, 0, 0, .null),
  (71, .getfield 48, 74, 6, 23, .null),
  (74, .iload 4, 76, 4, 0, .null),
  (76, .iload 5, 78, 5, 0, .null),
  (78, .iastore, 79, 0, 0, .null),
  (79, .iinc 4 1, 82, 4, 0, .int 1),
  (82, .iinc 5 1, 85, 5, 0, .int 1),
  (85, .goto (-35), 88, 50, 0, .null),
  (88, .iload 4, 90, 4, 0, .null),
  (90, .i2l, 91, 0, 0, .null),
  (91, .lconst 1, 92, 0, 0, .long 1),
  (92, .ldc2_w 291, 95, 0, 0, .long 5),
  (95, .invokestatic 58, 98, 126, 3, .retAddr 606),
  (98, .ifCond .eq 14, 101, 112, 0, .null),
  (101, .iload_n 2, 102, 2, 0, .null),
  (102, .aload_n 0, 103, 0, 0, .null),
  (103, .invokevirtual 199, 106, 163, 1, .retAddr 306),
  (106, .iconst (-1), 107, 0, 0, .int (-1)),
  (107, .ixor, 108, 0, 0, .null),
  (108, .iand, 109, 0, 0, .null),
  (109, .ifCond .eq 6, 112, 115, 0, .null),
  (112, .ldc 243, 114, 0, 0, .int (-1000000003)),
  (114, .ireturn, 115, 0, 0, .null),
  (115, .ldc 185, 117, 0, 0, .int 100000000),
  (117, .istore 5, 119, 5, 0, .null),
  (119, .iconst 0, 120, 0, 0, .int 0),
  (120, .istore 6, 122, 6, 0, .null),
  (122, .iconst 1, 123, 0, 0, .int 1),
  (123, .istore 7, 125, 7, 0, .null),
  (125, .iload 7, 127, 7, 0, .null),
  (127, .ifCond .eq 124, 130, 251, 0, .null),
  (130, .iconst 0, 131, 0, 0, .int 0),
  (131, .istore 8, 133, 8, 0, .null),
  (133, .iconst 0, 134, 0, 0, .int 0),
  (134, .istore 9, 136, 9, 0, .null),
  (136, .iload_n 1, 137, 1, 0, .null),
  (137, .istore 10, 139, 10, 0, .null),
  (139, .iconst 0, 140, 0, 0, .int 0),
  (140, .istore 11, 142, 11, 0, .null),
  (142, .iload 11, 144, 11, 0, .null),
  (144, .iload 4, 146, 4, 0, .null),
  (146, .if_icmp .ge 69, 149, 215, 0, .null),
  (149, .iload 8, 151, 8, 0, .null),
  (151, .aload_n 0, 152, 0, 0, .null),
  (152, .iload 10, 154, 10, 0, .null),
  (154, .aload_n 0, 155, 0, 0, .null),
  (155, .getfield 16, 158, 6, 2, .null),
  (158, .bipush 49, 160, 0, 0, .int 49),
  (160, .aload_n 0, 161, 0, 0, .null),
  (161, .getfield 48, 164, 6, 23, .null),
  (164, .iload 11, 166, 11, 0, .null),
  (166, .iaload, 167, 0, 0, .null),
  (167, .iadd, 168, 0, 0, .null),
  (168, .iaload, 169, 0, 0, .null),
  (169, .invokevirtual 186, 172, 165, 3, .retAddr 506),
  (172, .iadd, 173, 0, 0, .null),
  (173, .istore 8, 175, 8, 0, .null),
  (175, .aload_n 0, 176, 0, 0, .null),
  (176, .getfield 16, 179, 6, 2, .null),
  (179, .bipush 49, 181, 0, 0, .int 49),
  (181, .aload_n 0, 182, 0, 0, .null),
  (182, .getfield 48, 185, 6, 23, .null),
  (185, .iload 11, 187, 11, 0, .null),
  (187, .iaload, 188, 0, 0, .null),
  (188, .iadd, 189, 0, 0, .null),
  (189, .iaload, 190, 0, 0, .null),
  (190, .istore 10, 192, 10, 0, .null),
  (192, .bipush 10, 194, 0, 0, .int 10),
  (194, .iload 9, 196, 9, 0, .null),
  (196, .imul, 197, 0, 0, .null),
  (197, .aload_n 0, 198, 0, 0, .null),
  (198, .getfield 48, 201, 6, 23, .null),
  (201, .iload 11, 203, 11, 0, .null),
  (203, .iaload, 204, 0, 0, .null),
  (204, .iadd, 205, 0, 0, .null),
  (205, .iconst 1, 206, 0, 0, .int 1),
  (206, .iadd, 207, 0, 0, .null),
  (207, .istore 9, 209, 9, 0, .null),
  (209, .iinc 11 1, 212, 11, 0, .int 1),
  (212, .goto (-70), 215, 142, 0, .null),
  (215, .iload 8, 217, 8, 0, .null),
  (217, .iload 5, 219, 5, 0, .null),
  (219, .if_icmp .ge 8, 222, 227, 0, .null),
  (222, .iload 9, 224, 9, 0, .null),
  (224, .goto 5, 227, 229, 0, .null),
  (227, .iload 6, 229, 6, 0, .null),
  (229, .istore 6, 231, 6, 0, .null),
  (231, .iload 8, 233, 8, 0, .null),
  (233, .iload 5, 235, 5, 0, .null),
  (235, .invokestatic 189, 238, 130, 2, .retAddr 206),
  (238, .istore 5, 240, 5, 0, .null),
  (240, .aload_n 0, 241, 0, 0, .null),
  (241, .iload 4, 243, 4, 0, .null),
  (243, .invokevirtual 293, 246, 196, 2, .retAddr 706),
  (246, .istore 7, 248, 7, 0, .null),
  (248, .goto (-123), 251, 125, 0, .null),
  (251, .iload_n 3, 252, 3, 0, .null),
  (252, .ifCond .ne 8, 255, 260, 0, .null),
  (255, .iload 5, 257, 5, 0, .null),
  (257, .goto 5, 260, 262, 0, .null),
  (260, .iload 6, 262, 6, 0, .null),
  (262, .ireturn, 263, 0, 0, .null)]
def k_M_isBy : List (Nat × Ent) := [
  (0, .lload_n 1, 1, 1, 0, .null),
  (1, .lload_n 3, 2, 3, 0, .null),
  (2, .land, 3, 0, 0, .null),
  (3, .lconst 0, 4, 0, 0, .long 0),
  (4, .lcmp, 5, 0, 0, .null),
  (5, .ifCond .eq 7, 8, 12, 0, .null),
  (8, .iconst 1, 9, 0, 0, .int 1),
  (9, .goto 4, 12, 13, 0, .null),
  (12, .iconst 0, 13, 0, 0, .int 0),
  (13, .istore 5, 15, 5, 0, .null),
  (15, .iconst 0, 16, 0, 0, .int 0),
  (16, .istore 6, 18, 6, 0, .null),
  (18, .iload 6, 20, 6, 0, .null),
  (20, .aload_n 0, 21, 0, 0, .null),
  (21, .invokevirtual 135, 24, 146, 1, .retAddr 106),
  (24, .if_icmp .ge 70, 27, 94, 0, .null),
  (27, .iconst 1, 28, 0, 0, .int 1),
  (28, .istore 7, 30, 7, 0, .null),
  (30, .iload 7, 32, 7, 0, .null),
  (32, .iconst 5, 33, 0, 0, .int 5),
  (33, .if_icmp .ge 55, 36, 88, 0, .null),
  (36, .lload_n 1, 37, 1, 0, .null),
  (37, .iload 6, 39, 6, 0, .null),
  (39, .invokestatic 142, 42, 128, 2, .retAddr 306),
  (42, .ifCond .eq 46, 45, 88, 0, .null),
  (45, .aload_n 0, 46, 0, 0, .null),
  (46, .iload 6, 48, 6, 0, .null),
  (48, .iload 7, 50, 7, 0, .null),
  (50, .invokevirtual 146, 53, 151, 3, .retAddr 506),
  (53, .istore 8, 55, 8, 0, .null),
  (55, .iload 5, 57, 5, 0, .null),
  (57, .ifCond .ne 18, 60, 75, 0, .null),
  (60, .iload 8, 62, 8, 0, .null),
  (62, .iconst (-1), 63, 0, 0, .int (-1)),
  (63, .if_icmp .eq 16, 66, 79, 0, .null),
  (66, .lload_n 3, 67, 3, 0, .null),
  (67, .iload 8, 69, 8, 0, .null),
  (69, .invokestatic 142, 72, 128, 2, .retAddr 306),
  (72, .ifCond .eq 7, 75, 79, 0, .null),
  (75, .iconst 1, 76, 0, 0, .int 1),
  (76, .goto 4, 79, 80, 0, .null),
  (79, .iconst 0, 80, 0, 0, .int 0),
  (80, .istore 5, 82, 5, 0, .null),
  (82, .iinc 7 1, 85, 7, 0, .int 1),
  (85, .goto (-55), 88, 30, 0, .null),
  (88, .iinc 6 1, 91, 6, 0, .int 1),
  (91, .goto (-73), 94, 18, 0, .null),
  (94, .iload 5, 96, 5, 0, .null),
  (96, .ireturn, 97, 0, 1, .null)]
def k_M_touch : List (Nat × Ent) := [
  (0, .iconst 0, 1, 0, 0, .int 0),
  (1, .istore_n 2, 2, 2, 0, .null),
  (2, .iconst (-1), 3, 0, 0, .int (-1)),
  (3, .istore_n 3, 4, 3, 0, .null),
  (4, .iconst 0, 5, 0, 0, .int 0),
  (5, .istore 4, 7, 4, 0, .null),
  (7, .iload 4, 9, 4, 0, .null),
  (9, .aload_n 0, 10, 0, 0, .null),
  (10, .getfield 7, 13, 6, 0, .null),
  (13, .iconst 2, 14, 0, 0, .int 2),
  (14, .iaload, 15, 0, 0, .null),
  (15, .if_icmp .ge 90, 18, 105, 0, .null),
  (18, .iload 4, 20, 4, 0, .null),
  (20, .iconst 1, 21, 0, 0, .int 1),
  (21, .iadd, 22, 0, 0, .null),
  (22, .istore 5, 24, 5, 0, .null),
  (24, .iload 5, 26, 5, 0, .null),
  (26, .aload_n 0, 27, 0, 0, .null),
  (27, .getfield 7, 30, 6, 0, .null),
  (30, .iconst 2, 31, 0, 0, .int 2),
  (31, .iaload, 32, 0, 0, .null),
  (32, .if_icmp .ge 67, 35, 99, 0, .null),
  (35, .aload_n 0, 36, 0, 0, .null),
  (36, .iload 4, 38, 4, 0, .null),
  (38, .invokevirtual 182, 41, 162, 2, .retAddr 206),
  (41, .ifCond .eq 52, 44, 93, 0, .null),
  (44, .aload_n 0, 45, 0, 0, .null),
  (45, .iload 5, 47, 5, 0, .null),
  (47, .invokevirtual 182, 50, 162, 2, .retAddr 206),
  (50, .ifCond .eq 43, 53, 93, 0, .null),
  (53, .aload_n 0, 54, 0, 0, .null),
  (54, .aload_n 0, 55, 0, 0, .null),
  (55, .iload 4, 57, 4, 0, .null),
  (57, .invokevirtual 231, 60, 172, 2, .retAddr 206),
  (60, .aload_n 0, 61, 0, 0, .null),
  (61, .iload 5, 63, 5, 0, .null),
  (63, .invokevirtual 231, 66, 172, 2, .retAddr 206),
  (66, .invokevirtual 296, 69, 198, 3, .retAddr 906),
  (69, .ifCond .eq 24, 72, 93, 0, .null),
  (72, .iload_n 2, 73, 2, 0, .null),
  (73, .iload_n 1, 74, 1, 0, .null),
  (74, .if_icmp .ne 14, 77, 88, 0, .null),
  (77, .bipush 10, 79, 0, 0, .int 10),
  (79, .iload 4, 81, 4, 0, .null),
  (81, .imul, 82, 0, 0, .null),
  (82, .iload 5, 84, 5, 0, .null),
  (84, .iadd, 85, 0, 0, .null),
  (85, .goto 4, 88, 89, 0, .null),
  (88, .iload_n 3, 89, 3, 0, .null),
  (89, .istore_n 3, 90, 3, 0, .null),
  (90, .iinc 2 1, 93, 2, 0, .int 1),
  (93, .iinc 5 1, 96, 5, 0, .int 1),
  (96, .goto (-72), 99, 24, 0, .null),
  (99, .iinc 4 1, 102, 4, 0, .int 1),
  (102, .goto (-95), 105, 7, 0, .null),
  (105, .iload_n 1, 106, 1, 0, .null),
  (106, .iconst (-1), 107, 0, 0, .int (-1)),
  (107, .if_icmp .ne 7, 110, 114, 0, .null),
  (110, .iload_n 2, 111, 2, 0, .null),
  (111, .goto 4, 114, 115, 0, .null),
  (114, .iload_n 3, 115, 3, 0, .null),
  (115, .ireturn, 116, 0, 0, .null)]
def k_M_still : List (Nat × Ent) := [
  (0, .iload_n 1, 1, 1, 0, .null),
  (1, .i2l, 2, 0, 0, .null),
  (2, .lconst 0, 3, 0, 0, .long 0),
  (3, .ldc2_w 300, 6, 0, 0, .long 60),
  (6, .invokestatic 58, 9, 126, 3, .retAddr 606),
  (9, .ifCond .eq 15, 12, 24, 0, .null),
  (12, .iload_n 2, 13, 2, 0, .null),
  (13, .i2l, 14, 0, 0, .null),
  (14, .lconst 0, 15, 0, 0, .long 0),
  (15, .ldc2_w 302, 18, 0, 0, .long 100),
  (18, .invokestatic 58, 21, 126, 3, .retAddr 606),
  (21, .ifCond .ne 6, 24, 27, 0, .null),
  (24, .ldc 73, 26, 0, 0, .int (-1000000002)),
  (26, .ireturn, 27, 0, 0, .null),
  (27, .ldc2_w 304, 30, 0, 0, .long 1000000000),
  (30, .lstore_n 3, 31, 3, 0, .null),
  (31, .iconst 0, 32, 0, 0, .int 0),
  (32, .istore 5, 34, 5, 0, .null),
  (34, .iload 5, 36, 5, 0, .null),
  (36, .iload_n 1, 37, 1, 0, .null),
  (37, .if_icmp .ge 18, 40, 55, 0, .null),
  (40, .lload_n 3, 41, 3, 0, .null),
  (41, .iload_n 2, 42, 2, 0, .null),
  (42, .i2l, 43, 0, 0, .null),
  (43, .lmul, 44, 0, 0, .null),
  (44, .ldc2_w 302, 47, 0, 0, .long 100),
  (47, .ldiv, 48, 0, 0, .null),
  (48, .lstore_n 3, 49, 3, 0, .null),
  (49, .iinc 5 1, 52, 5, 0, .int 1),
  (52, .goto (-18), 55, 34, 0, .null),
  (55, .lload_n 3, 56, 3, 0, .null),
  (56, .l2i, 57, 0, 0, .null),
  (57, .ireturn, 58, 0, 0, .null)]
def k_M_find : List (Nat × Ent) := [
  (0, .aload_n 0, 1, 0, 0, .null),
  (1, .iload_n 1, 2, 1, 0, .null),
  (2, .invokevirtual 218, 5, 147, 2, .retAddr 206),
  (5, .ifCond .ne 6, 8, 11, 0, .null),
  (8, .ldc 221, 10, 0, 0, .int (-1000000001)),
  (10, .ireturn, 11, 0, 0, .null),
  (11, .aload_n 0, 12, 0, 0, .null),
  (12, .getfield 65, 15, 6, 14, .null),
  (15, .bipush 6, 17, 0, 0, .int 6),
  (17, .if_icmp .ne 6, 20, 23, 0, .null),
  (20, .ldc 77, 22, 0, 0, .int (-1000000004)),
  (22, .ireturn, 23, 0, 0, .null),
  (23, .aload_n 0, 24, 0, 0, .null),
  (24, .getfield 42, 27, 6, 13, .null),
  (27, .iconst 2, 28, 0, 0, .int 2),
  (28, .aload_n 0, 29, 0, 0, .null),
  (29, .getfield 65, 32, 6, 14, .null),
  (32, .imul, 33, 0, 0, .null),
  (33, .iload_n 1, 34, 1, 0, .null),
  (34, .iastore, 35, 0, 0, .null),
  (35, .aload_n 0, 36, 0, 0, .null),
  (36, .getfield 42, 39, 6, 13, .null),
  (39, .iconst 2, 40, 0, 0, .int 2),
  (40, .aload_n 0, 41, 0, 0, .null),
  (41, .getfield 65, 44, 6, 14, .null),
  (44, .imul, 45, 0, 0, .null),
  (45, .iconst 1, 46, 0, 0, .int 1),
  (46, .iadd, 47, 0, 0, .null),
  (47, .iload_n 2, 48, 2, 0, .null),
  (48, .ifCond .eq 7, 51, 55, 0, .null),
  (51, .iconst 1, 52, 0, 0, .int 1),
  (52, .goto 4, 55, 56, 0, .null),
  (55, .iconst 0, 56, 0, 0, .int 0),
  (56, .iastore, 57, 0, 0, .null),
  (57, .aload_n 0, 58, 0, 0, .null),
  (58, .dup, 59, 0, 0, .null),
  (59, .getfield 65, 62, 6, 14, .null),
  (62, .iconst 1, 63, 0, 0, .int 1),
  (63, .iadd, 64, 0, 0, .null),
  (64, .putfield 65, 67, 6, 14, .null),
  (67, .aload_n 0, 68, 0, 0, .null),
  (68, .getfield 65, 71, 6, 14, .null),
  (71, .ireturn, 72, 0, 0, .null)]
def k_M_isSo : List (Nat × Ent) := [
  (0, .aload_n 0, 1, 0, 0, .null),
  (1, .iload_n 1, 2, 1, 0, .null),
  (2, .iload_n 2, 3, 2, 0, .null),
  (3, .invokevirtual 150, 6, 152, 3, .retAddr 906),
  (6, .lstore_n 3, 7, 3, 0, .null),
  (7, .lload_n 3, 8, 3, 0, .null),
  (8, .lconst 0, 9, 0, 0, .long 0),
  (9, .lcmp, 10, 0, 0, .null),
  (10, .ifCond .eq 18, 13, 28, 0, .null),
  (13, .lload_n 3, 14, 3, 0, .null),
  (14, .aload_n 0, 15, 0, 0, .null),
  (15, .invokevirtual 138, 18, 149, 1, .retAddr 406),
  (18, .land, 19, 0, 0, .null),
  (19, .lconst 0, 20, 0, 0, .long 0),
  (20, .lcmp, 21, 0, 0, .null),
  (21, .ifCond .ne 7, 24, 28, 0, .null),
  (24, .iconst 1, 25, 0, 0, .int 1),
  (25, .goto 4, 28, 29, 0, .null),
  (28, .iconst 0, 29, 0, 0, .int 0),
  (29, .istore 5, 31, 5, 0, .null),
  (31, .iconst 0, 32, 0, 0, .int 0),
  (32, .istore 6, 34, 6, 0, .null),
  (34, .iload 6, 36, 6, 0, .null),
  (36, .iconst 2, 37, 0, 0, .int 2),
  (37, .aload_n 0, 38, 0, 0, .null),
  (38, .getfield 65, 41, 6, 14, .null),
  (41, .imul, 42, 0, 0, .null),
  (42, .if_icmp .ge 53, 45, 95, 0, .null),
  (45, .iload 5, 47, 5, 0, .null),
  (47, .ifCond .eq 39, 50, 86, 0, .null),
  (50, .lload_n 3, 51, 3, 0, .null),
  (51, .aload_n 0, 52, 0, 0, .null),
  (52, .getfield 42, 55, 6, 13, .null),
  (55, .iload 6, 57, 6, 0, .null),
  (57, .iaload, 58, 0, 0, .null),
  (58, .invokestatic 142, 61, 128, 2, .retAddr 306),
  (61, .aload_n 0, 62, 0, 0, .null),
  (62, .getfield 42, 65, 6, 13, .null),
  (65, .iload 6, 67, 6, 0, .null),
  (67, .iconst 1, 68, 0, 0, .int 1),
  (68, .iadd, 69, 0, 0, .null),
  (69, .iaload, 70, 0, 0, .null),
  (70, .iconst 1, 71, 0, 0, .int 1),
  (71, .if_icmp .ne 7, 74, 78, 0, .null),
  (74, .iconst 1, 75, 0, 0, .int 1),
  (75, .goto 4, 78, 79, 0, .null),
  (78, .iconst 0, 79, 0, 0, .int 0),
  (79, .if_icmp .ne 7, 82, 86, 0, .null),
  (82, .iconst 1, 83, 0, 0, .int 1),
  (83, .goto 4, 86, 87, 0, .null),
  (86, .iconst 0, 87, 0, 0, .int 0),
  (87, .istore 5, 89, 5, 0, .null),
  (89, .iinc 6 2, 92, 6, 0, .int 2),
  (92, .goto (-58), 95, 34, 0, .null),
  (95, .iload 5, 97, 5, 0, .null),
  (97, .ireturn, 98, 0, 1, .null)]
def k_M_fits : List (Nat × Ent) := [
  (0, .iload_n 1, 1, 1, 0, .null),
  (1, .i2l, 2, 0, 0, .null),
  (2, .lconst 0, 3, 0, 0, .long 0),
  (3, .ldc2_w 306, 6, 0, 0, .long 2),
  (6, .invokestatic 58, 9, 126, 3, .retAddr 606),
  (9, .ifCond .ne 6, 12, 15, 0, .null),
  (12, .ldc 73, 14, 0, 0, .int (-1000000002)),
  (14, .ireturn, 15, 0, 0, .null),
  (15, .iconst 0, 16, 0, 0, .int 0),
  (16, .istore_n 2, 17, 2, 0, .null),
  (17, .iconst (-1), 18, 0, 0, .int (-1)),
  (18, .istore_n 3, 19, 3, 0, .null),
  (19, .iconst 0, 20, 0, 0, .int 0),
  (20, .istore 4, 22, 4, 0, .null),
  (22, .iconst 0, 23, 0, 0, .int 0),
  (23, .istore 5, 25, 5, 0, .null),
  (25, .iload 5, 27, 5, 0, .null),
  (27, .iconst 5, 28, 0, 0, .int 5),
  (28, .if_icmp .ge 68, 31, 96, 0, .null),
  (31, .iconst 0, 32, 0, 0, .int 0),
  (32, .istore 6, 34, 6, 0, .null),
  (34, .iload 6, 36, 6, 0, .null),
  (36, .aload_n 0, 37, 0, 0, .null),
  (37, .invokevirtual 135, 40, 146, 1, .retAddr 106),
  (40, .if_icmp .ge 50, 43, 90, 0, .null),
  (43, .aload_n 0, 44, 0, 0, .null),
  (44, .iload 5, 46, 5, 0, .null),
  (46, .iload 6, 48, 6, 0, .null),
  (48, .invokevirtual 308, 51, 202, 3, .retAddr 706),
  (51, .ifCond .eq 33, 54, 84, 0, .null),
  (54, .iinc 2 1, 57, 2, 0, .int 1),
  (57, .iload_n 3, 58, 3, 0, .null),
  (58, .iconst (-1), 59, 0, 0, .int (-1)),
  (59, .if_icmp .ne 14, 62, 73, 0, .null),
  (62, .bipush 100, 64, 0, 0, .int 100),
  (64, .iload 5, 66, 5, 0, .null),
  (66, .imul, 67, 0, 0, .null),
  (67, .iload 6, 69, 6, 0, .null),
  (69, .iadd, 70, 0, 0, .null),
  (70, .goto 4, 73, 74, 0, .null),
  (73, .iload_n 3, 74, 3, 0, .null),
  (74, .istore_n 3, 75, 3, 0, .null),
  (75, .iload 4, 77, 4, 0, .null),
  (77, .iconst 1, 78, 0, 0, .int 1),
  (78, .iload 5, 80, 5, 0, .null),
  (80, .ishl, 81, 0, 0, .null),
  (81, .ior, 82, 0, 0, .null),
  (82, .istore 4, 84, 4, 0, .null),
  (84, .iinc 6 1, 87, 6, 0, .int 1),
  (87, .goto (-53), 90, 34, 0, .null),
  (90, .iinc 5 1, 93, 5, 0, .int 1),
  (93, .goto (-68), 96, 25, 0, .null),
  (96, .iload_n 1, 97, 1, 0, .null),
  (97, .ifCond .ne 7, 100, 104, 0, .null),
  (100, .iload_n 2, 101, 2, 0, .null),
  (101, .goto 14, 104, 115, 0, .null),
  (104, .iload_n 1, 105, 1, 0, .null),
  (105, .iconst 1, 106, 0, 0, .int 1),
  (106, .if_icmp .ne 7, 109, 113, 0, .null),
  (109, .iload_n 3, 110, 3, 0, .null),
  (110, .goto 5, 113, 115, 0, .null),
  (113, .iload 4, 115, 4, 0, .null),
  (115, .ireturn, 116, 0, 0, .null)]
def k_M_look : List (Nat × Ent) := [
  (0, .aload_n 0, 1, 0, 0, .null),
  (1, .iconst 0, 2, 0, 0, .int 0),
  (2, .invokevirtual 311, 5, 203, 2, .retAddr 706),
  (5, .istore_n 1, 6, 1, 0, .null),
  (6, .iload_n 1, 7, 1, 0, .null),
  (7, .istore_n 2, 8, 2, 0, .null),
  (8, .iconst (-1), 9, 0, 0, .int (-1)),
  (9, .istore_n 3, 10, 3, 0, .null),
  (10, .iconst 0, 11, 0, 0, .int 0),
  (11, .istore 4, 13, 4, 0, .null),
  (13, .iload 4, 15, 4, 0, .null),
  (15, .aload_n 0, 16, 0, 0, .null),
  (16, .invokevirtual 135, 19, 146, 1, .retAddr 106),
  (19, .if_icmp .ge 113, 22, 132, 0, .null),
  (22, .iconst 0, 23, 0, 0, .int 0),
  (23, .istore 5, 25, 5, 0, .null),
  (25, .iconst 0, 26, 0, 0, .int 0),
  (26, .istore 6, 28, 6, 0, .null),
  (28, .iload 6, 30, 6, 0, .null),
  (30, .iconst 5, 31, 0, 0, .int 5),
  (31, .if_icmp .ge 64, 34, 95, 0, .null),
  (34, .iconst 0, 35, 0, 0, .int 0),
  (35, .istore 7, 37, 7, 0, .null),
  (37, .iload 7, 39, 7, 0, .null),
  (39, .aload_n 0, 40, 0, 0, .null),
  (40, .invokevirtual 135, 43, 146, 1, .retAddr 106),
  (43, .if_icmp .ge 46, 46, 89, 0, .null),
  (46, .iload 5, 48, 5, 0, .null),
  (48, .aload_n 0, 49, 0, 0, .null),
  (49, .iload 6, 51, 6, 0, .null),
  (51, .iload 7, 53, 7, 0, .null),
  (53, .invokevirtual 308, 56, 202, 3, .retAddr 706),
  (56, .ifCond .eq 23, 59, 79, 0, .null),
  (59, .aload_n 0, 60, 0, 0, .null),
  (60, .iload 6, 62, 6, 0, .null),
  (62, .iload 7, 64, 7, 0, .null),
  (64, .invokevirtual 150, 67, 152, 3, .retAddr 906),
  (67, .iload 4, 69, 4, 0, .null),
  (69, .invokestatic 142, 72, 128, 2, .retAddr 306),
  (72, .ifCond .eq 7, 75, 79, 0, .null),
  (75, .iconst 1, 76, 0, 0, .int 1),
  (76, .goto 4, 79, 80, 0, .null),
  (79, .iconst 0, 80, 0, 0, .int 0),
  (80, .iadd, 81, 0, 0, .null),
  (81, .istore 5, 83, 5, 0, .null),
  (83, .iinc 7 1, 86, 7, 0, .int 1),
  (86, .goto (-49), 89, 37, 0, .null),
  (89, .iinc 6 1, 92, 6, 0, .int 1),
  (92, .goto (-64), 95, 28, 0, .null),
  (95, .iload 5, 97, 5, 0, .null),
  (97, .iload_n 1, 98, 1, 0, .null),
  (98, .iload 5, 100, 5, 0, .null),
  (100, .isub, 101, 0, 0, .null),
  (101, .invokestatic 175, 104, 131, 2, .retAddr 206),
  (104, .istore 6, 106, 6, 0, .null),
  (106, .iload 6, 108, 6, 0, .null),
  (108, .iload_n 2, 109, 2, 0, .null),
  (109, .if_icmp .ge 8, 112, 117, 0, .null),
  (112, .iload 4, 114, 4, 0, .null),
  (114, .goto 4, 117, 118, 0, .null),
  (117, .iload_n 3, 118, 3, 0, .null),
  (118, .istore_n 3, 119, 3, 0, .null),
  (119, .iload 6, 121, 6, 0, .null),
  (121, .iload_n 2, 122, 2, 0, .null),
  (122, .invokestatic 189, 125, 130, 2, .retAddr 206),
  (125, .istore_n 2, 126, 2, 0, .null),
  (126, .iinc 4 1, 129, 4, 0, .int 1),
  (129, .goto (-116), 132, 13, 0, .null),
  (132, .iload_n 3, 133, 3, 0, .null),
  (133, .ireturn, 134, 0, 0, .null)]
def k_M_write : List (Nat × Ent) := [
  (0, .iload_n 1, 1, 1, 0, .null),
  (1, .i2l, 2, 0, 0, .null),
  (2, .lconst 0, 3, 0, 0, .long 0),
  (3, .ldc2_w 314, 6, 0, 0, .long 99),
  (6, .invokestatic 58, 9, 126, 3, .retAddr 606),
  (9, .ifCond .ne 6, 12, 15, 0, .null),
  (12, .ldc 73, 14, 0, 0, .int (-1000000002)),
  (14, .ireturn, 15, 0, 0, .null),
  (15, .aload_n 0, 16, 0, 0, .null),
  (16, .getfield 68, 19, 6, 16, .null),
  (19, .bipush 20, 21, 0, 0, .int 20),
  (21, .if_icmp .ne 6, 24, 27, 0, .null),
  (24, .ldc 77, 26, 0, 0, .int (-1000000004)),
  (26, .ireturn, 27, 0, 0, .null),
  (27, .aload_n 0, 28, 0, 0, .null),
  (28, .getfield 45, 31, 6, 15, .null),
  (31, .aload_n 0, 32, 0, 0, .null),
  (32, .getfield 68, 35, 6, 16, .null),
  (35, .iload_n 1, 36, 1, 0, .null),
  (36, .iastore, 37, 0, 0, .null),
  (37, .aload_n 0, 38, 0, 0, .null),
  (38, .dup, 39, 0, 0, .null),
  (39, .getfield 68, 42, 6, 16, .null),
  (42, .iconst 1, 43, 0, 0, .int 1),
  (43, .iadd, 44, 0, 0, .null),
  (44, .putfield 68, 47, 6, 16, .null),
  (47, .aload_n 0, 48, 0, 0, .null),
  (48, .getfield 68, 51, 6, 16, .null),
  (51, .ireturn, 52, 0, 0, .null)]
def k_M_judge : List (Nat × Ent) := [
  (0, .aload_n 0, 1, 0, 0, .null),
  (1, .aload_n 0, 2, 0, 0, .null),
  (2, .getfield 16, 5, 6, 2, .null),
  (5, .invokevirtual 202, 8, 159, 2, .retAddr 706),
  (8, .istore_n 1, 9, 1, 0, .null),
  (9, .iconst 0, 10, 0, 0, .int 0),
  (10, .istore_n 2, 11, 2, 0, .null),
  (11, .iload_n 2, 12, 2, 0, .null),
  (12, .aload_n 0, 13, 0, 0, .null),
  (13, .getfield 68, 16, 6, 16, .null),
  (16, .if_icmp .ge 21, 19, 37, 0, .null),
  (19, .aload_n 0, 20, 0, 0, .null),
  (20, .getfield 45, 23, 6, 15, .null),
  (23, .iload_n 2, 24, 2, 0, .null),
  (24, .iaload, 25, 0, 0, .null),
  (25, .iload_n 1, 26, 1, 0, .null),
  (26, .if_icmp .eq 5, 29, 31, 0, .null),
  (29, .iload_n 2, 30, 2, 0, .null),
  (30, .ireturn, 31, 0, 0, .null),
  (31, .iinc 2 1, 34, 2, 0, .int 1),
  (34, .goto (-23), 37, 11, 0, .null),
  (37, .iconst (-1), 38, 0, 0, .int (-1)),
  (38, .ireturn, 39, 0, 0, .null)]
def k_M_tear : List (Nat × Ent) := [
  (0, .aload_n 0, 1, 0, 0, .null),
  (1, .getfield 65, 4, 6, 14, .null),
  (4, .aload_n 0, 5, 0, 0, .null),
  (5, .getfield 68, 8, 6, 16, .null),
  (8, .iadd, 9, 0, 0, .null),
  (9, .istore_n 1, 10, 1, 0, .null),
  (10, .aload_n 0, 11, 0, 0, .null),
  (11, .iconst 0, 12, 0, 0, .int 0),
  (12, .putfield 65, 15, 6, 14, .null),
  (15, .aload_n 0, 16, 0, 0, .null),
  (16, .iconst 0, 17, 0, 0, .int 0),
  (17, .putfield 68, 20, 6, 16, .null),
  (20, .iload_n 1, 21, 1, 0, .null),
  (21, .ireturn, 22, 0, 0, .null)]
def k_M_seed : List (Nat × Ent) := [
  (0, .iload_n 1, 1, 1, 0, .null),
  (1, .ifCond .ge 6, 4, 7, 0, .null),
  (4, .ldc 73, 6, 0, 0, .int (-1000000002)),
  (6, .ireturn, 7, 0, 0, .null),
  (7, .aload_n 0, 8, 0, 0, .null),
  (8, .getfield 265, 11, 6, 9, .null),
  (11, .l2i, 12, 0, 0, .null),
  (12, .istore_n 2, 13, 2, 0, .null),
  (13, .aload_n 0, 14, 0, 0, .null),
  (14, .iload_n 1, 15, 1, 0, .null),
  (15, .i2l, 16, 0, 0, .null),
  (16, .putfield 265, 19, 6, 9, .null),
  (19, .iload_n 2, 20, 2, 0, .null),
  (20, .ireturn, 21, 0, 0, .null)]
def k_M_keep : List (Nat × Ent) := [
  (0, .iload_n 1, 1, 1, 0, .null),
  (1, .i2l, 2, 0, 0, .null),
  (2, .lconst 0, 3, 0, 0, .long 0),
  (3, .lconst 1, 4, 0, 0, .long 1),
  (4, .invokestatic 58, 7, 126, 3, .retAddr 606),
  (7, .ifCond .ne 6, 10, 13, 0, .null),
  (10, .ldc 221, 12, 0, 0, .int (-1000000001)),
  (12, .ireturn, 13, 0, 0, .null),
  (13, .aload_n 0, 14, 0, 0, .null),
  (14, .getfield 16, 17, 6, 2, .null),
  (17, .iconst 0, 18, 0, 0, .int 0),
  (18, .aload_n 0, 19, 0, 0, .null),
  (19, .getfield 28, 22, 6, 7, .null),
  (22, .bipush 59, 24, 0, 0, .int 59),
  (24, .iload_n 1, 25, 1, 0, .null),
  (25, .imul, 26, 0, 0, .null),
  (26, .bipush 58, 28, 0, 0, .int 58),
  (28, .invokestatic 131, 31, 132, 5, .retAddr 606),
  (31, .aload_n 0, 32, 0, 0, .null),
  (32, .getfield 28, 35, 6, 7, .null),
  (35, .bipush 59, 37, 0, 0, .int 59),
  (37, .iload_n 1, 38, 1, 0, .null),
  (38, .imul, 39, 0, 0, .null),
  (39, .bipush 58, 41, 0, 0, .int 58),
  (41, .iadd, 42, 0, 0, .null),
  (42, .aload_n 0, 43, 0, 0, .null),
  (43, .getfield 265, 46, 6, 9, .null),
  (46, .l2i, 47, 0, 0, .null),
  (47, .iastore, 48, 0, 0, .null),
  (48, .aload_n 0, 49, 0, 0, .null),
  (49, .getfield 31, 52, 6, 8, .null),
  (52, .iload_n 1, 53, 1, 0, .null),
  (53, .iconst 1, 54, 0, 0, .int 1),
  (54, .bastore, 55, 0, 0, .null),
  (55, .aload_n 0, 56, 0, 0, .null),
  (56, .iconst 0, 57, 0, 0, .int 0),
  (57, .putfield 62, 60, 6, 6, .null),
  (60, .iconst 1, 61, 0, 0, .int 1),
  (61, .ireturn, 62, 0, 0, .null)]
def k_M_goBack : List (Nat × Ent) := [
  (0, .iload_n 1, 1, 1, 0, .null),
  (1, .i2l, 2, 0, 0, .null),
  (2, .lconst 0, 3, 0, 0, .long 0),
  (3, .lconst 1, 4, 0, 0, .long 1),
  (4, .invokestatic 58, 7, 126, 3, .retAddr 606),
  (7, .ifCond .ne 6, 10, 13, 0, .null),
  (10, .ldc 221, 12, 0, 0, .int (-1000000001)),
  (12, .ireturn, 13, 0, 0, .null),
  (13, .aload_n 0, 14, 0, 0, .null),
  (14, .getfield 31, 17, 6, 8, .null),
  (17, .iload_n 1, 18, 1, 0, .null),
  (18, .baload, 19, 0, 0, .null),
  (19, .ifCond .ne 6, 22, 25, 0, .null),
  (22, .ldc 243, 24, 0, 0, .int (-1000000003)),
  (24, .ireturn, 25, 0, 0, .null),
  (25, .aload_n 0, 26, 0, 0, .null),
  (26, .getfield 28, 29, 6, 7, .null),
  (29, .bipush 59, 31, 0, 0, .int 59),
  (31, .iload_n 1, 32, 1, 0, .null),
  (32, .imul, 33, 0, 0, .null),
  (33, .aload_n 0, 34, 0, 0, .null),
  (34, .getfield 16, 37, 6, 2, .null),
  (37, .iconst 0, 38, 0, 0, .int 0),
  (38, .bipush 58, 40, 0, 0, .int 58),
  (40, .invokestatic 131, 43, 132, 5, .retAddr 606),
  (43, .aload_n 0, 44, 0, 0, .null),
  (44, .aload_n 0, 45, 0, 0, .null),
  (45, .getfield 28, 48, 6, 7, .null),
  (48, .bipush 59, 50, 0, 0, .int 59),
  (50, .iload_n 1, 51, 1, 0, .null),
  (51, .imul, 52, 0, 0, .null),
  (52, .bipush 58, 54, 0, 0, .int 58),
  (54, .iadd, 55, 0, 0, .null),
  (55, .iaload, 56, 0, 0, .null),
  (56, .i2l, 57, 0, 0, .null),
  (57, .putfield 265, 60, 6, 9, .null),
  (60, .aload_n 0, 61, 0, 0, .null),
  (61, .iconst 0, 62, 0, 0, .int 0),
  (62, .putfield 62, 65, 6, 6, .null),
  (65, .iconst 1, 66, 0, 0, .int 1),
  (66, .ireturn, 67, 0, 0, .null)]
def k_JI_bitCount : List (Nat × Ent) := [
  (0, .iload_n 0, 1, 0, 0, .null),
  (1, .iload_n 0, 2, 0, 0, .null),
  (2, .iconst 1, 3, 0, 0, .int 1),
  (3, .iushr, 4, 0, 0, .null),
  (4, .ldc_w 265, 7, 0, 0, .int 1431655765),
  (7, .iand, 8, 0, 0, .null),
  (8, .isub, 9, 0, 0, .null),
  (9, .istore_n 0, 10, 0, 0, .null),
  (10, .iload_n 0, 11, 0, 0, .null),
  (11, .ldc_w 266, 14, 0, 0, .int 858993459),
  (14, .iand, 15, 0, 0, .null),
  (15, .iload_n 0, 16, 0, 0, .null),
  (16, .iconst 2, 17, 0, 0, .int 2),
  (17, .iushr, 18, 0, 0, .null),
  (18, .ldc_w 266, 21, 0, 0, .int 858993459),
  (21, .iand, 22, 0, 0, .null),
  (22, .iadd, 23, 0, 0, .null),
  (23, .istore_n 0, 24, 0, 0, .null),
  (24, .iload_n 0, 25, 0, 0, .null),
  (25, .iload_n 0, 26, 0, 0, .null),
  (26, .iconst 4, 27, 0, 0, .int 4),
  (27, .iushr, 28, 0, 0, .null),
  (28, .iadd, 29, 0, 0, .null),
  (29, .ldc_w 267, 32, 0, 0, .int 252645135),
  (32, .iand, 33, 0, 0, .null),
  (33, .istore_n 0, 34, 0, 0, .null),
  (34, .iload_n 0, 35, 0, 0, .null),
  (35, .iload_n 0, 36, 0, 0, .null),
  (36, .bipush 8, 38, 0, 0, .int 8),
  (38, .iushr, 39, 0, 0, .null),
  (39, .iadd, 40, 0, 0, .null),
  (40, .istore_n 0, 41, 0, 0, .null),
  (41, .iload_n 0, 42, 0, 0, .null),
  (42, .iload_n 0, 43, 0, 0, .null),
  (43, .bipush 16, 45, 0, 0, .int 16),
  (45, .iushr, 46, 0, 0, .null),
  (46, .iadd, 47, 0, 0, .null),
  (47, .istore_n 0, 48, 0, 0, .null),
  (48, .iload_n 0, 49, 0, 0, .null),
  (49, .bipush 63, 51, 0, 0, .int 63),
  (51, .iand, 52, 0, 0, .null),
  (52, .ireturn, 53, 0, 0, .null)]
def k_JL_bitCount : List (Nat × Ent) := [
  (0, .lload_n 0, 1, 0, 0, .null),
  (1, .lload_n 0, 2, 0, 0, .null),
  (2, .iconst 1, 3, 0, 0, .int 1),
  (3, .lushr, 4, 0, 0, .null),
  (4, .ldc2_w 314, 7, 0, 0, .long 6148914691236517205),
  (7, .land, 8, 0, 0, .null),
  (8, .lsub, 9, 0, 0, .null),
  (9, .lstore_n 0, 10, 0, 0, .null),
  (10, .lload_n 0, 11, 0, 0, .null),
  (11, .ldc2_w 316, 14, 0, 0, .long 3689348814741910323),
  (14, .land, 15, 0, 0, .null),
  (15, .lload_n 0, 16, 0, 0, .null),
  (16, .iconst 2, 17, 0, 0, .int 2),
  (17, .lushr, 18, 0, 0, .null),
  (18, .ldc2_w 316, 21, 0, 0, .long 3689348814741910323),
  (21, .land, 22, 0, 0, .null),
  (22, .ladd, 23, 0, 0, .null),
  (23, .lstore_n 0, 24, 0, 0, .null),
  (24, .lload_n 0, 25, 0, 0, .null),
  (25, .lload_n 0, 26, 0, 0, .null),
  (26, .iconst 4, 27, 0, 0, .int 4),
  (27, .lushr, 28, 0, 0, .null),
  (28, .ladd, 29, 0, 0, .null),
  (29, .ldc2_w 318, 32, 0, 0, .long 1085102592571150095),
  (32, .land, 33, 0, 0, .null),
  (33, .lstore_n 0, 34, 0, 0, .null),
  (34, .lload_n 0, 35, 0, 0, .null),
  (35, .lload_n 0, 36, 0, 0, .null),
  (36, .bipush 8, 38, 0, 0, .int 8),
  (38, .lushr, 39, 0, 0, .null),
  (39, .ladd, 40, 0, 0, .null),
  (40, .lstore_n 0, 41, 0, 0, .null),
  (41, .lload_n 0, 42, 0, 0, .null),
  (42, .lload_n 0, 43, 0, 0, .null),
  (43, .bipush 16, 45, 0, 0, .int 16),
  (45, .lushr, 46, 0, 0, .null),
  (46, .ladd, 47, 0, 0, .null),
  (47, .lstore_n 0, 48, 0, 0, .null),
  (48, .lload_n 0, 49, 0, 0, .null),
  (49, .lload_n 0, 50, 0, 0, .null),
  (50, .bipush 32, 52, 0, 0, .int 32),
  (52, .lushr, 53, 0, 0, .null),
  (53, .ladd, 54, 0, 0, .null),
  (54, .lstore_n 0, 55, 0, 0, .null),
  (55, .lload_n 0, 56, 0, 0, .null),
  (56, .l2i, 57, 0, 0, .null),
  (57, .bipush 127, 59, 0, 0, .int 127),
  (59, .iand, 60, 0, 0, .null),
  (60, .ireturn, 61, 0, 0, .null)]
def k_JA_fillL : List (Nat × Ent) := [
  (0, .iconst 0, 1, 0, 0, .int 0),
  (1, .istore_n 3, 2, 3, 0, .null),
  (2, .aload_n 0, 3, 0, 0, .null),
  (3, .arraylength, 4, 0, 0, .null),
  (4, .istore 4, 6, 4, 0, .null),
  (6, .iload_n 3, 7, 3, 0, .null),
  (7, .iload 4, 9, 4, 0, .null),
  (9, .if_icmp .ge 13, 12, 22, 0, .null),
  (12, .aload_n 0, 13, 0, 0, .null),
  (13, .iload_n 3, 14, 3, 0, .null),
  (14, .lload_n 1, 15, 1, 0, .null),
  (15, .lastore, 16, 0, 0, .null),
  (16, .iinc 3 1, 19, 3, 0, .int 1),
  (19, .goto (-13), 22, 6, 0, .null),
  (22, .return_, 23, 0, 0, .null)]
def k_JA_fill : List (Nat × Ent) := [
  (0, .iconst 0, 1, 0, 0, .int 0),
  (1, .istore_n 2, 2, 2, 0, .null),
  (2, .aload_n 0, 3, 0, 0, .null),
  (3, .arraylength, 4, 0, 0, .null),
  (4, .istore_n 3, 5, 3, 0, .null),
  (5, .iload_n 2, 6, 2, 0, .null),
  (6, .iload_n 3, 7, 3, 0, .null),
  (7, .if_icmp .ge 13, 10, 20, 0, .null),
  (10, .aload_n 0, 11, 0, 0, .null),
  (11, .iload_n 2, 12, 2, 0, .null),
  (12, .iload_n 1, 13, 1, 0, .null),
  (13, .iastore, 14, 0, 0, .null),
  (14, .iinc 2 1, 17, 2, 0, .int 1),
  (17, .goto (-12), 20, 5, 0, .null),
  (20, .return_, 21, 0, 0, .null)]
def k_W_law_0 : List (Nat × Ent) := [
  (0, .new 7, 3, 5, 0, .null),
  (3, .dup, 4, 0, 0, .null),
  (4, .invokespecial 9, 7, 55, 1, .retAddr 105),
  (7, .astore_n 1, 8, 1, 0, .null),
  (8, .new 10, 11, 6, 0, .null),
  (11, .dup, 12, 0, 0, .null),
  (12, .invokespecial 12, 15, 125, 1, .retAddr 106),
  (15, .astore_n 2, 16, 2, 0, .null),
  (16, .iconst 0, 17, 0, 0, .int 0),
  (17, .istore_n 3, 18, 3, 0, .null),
  (18, .iload_n 3, 19, 3, 0, .null),
  (19, .aload_n 0, 20, 0, 0, .null),
  (20, .arraylength, 21, 0, 0, .null),
  (21, .iconst 4, 22, 0, 0, .int 4),
  (22, .isub, 23, 0, 0, .null),
  (23, .if_icmp .gt 921, 26, 944, 0, .null),
  (26, .aload_n 0, 27, 0, 0, .null),
  (27, .iload_n 3, 28, 3, 0, .null),
  (28, .iaload, 29, 0, 0, .null),
  (29, .bipush 31, 31, 0, 0, .int 31),
  (31, .iand, 32, 0, 0, .null),
  (32, .tableswitch 906 0 31 #[144, 167, 180, 193, 216, 249, 282, 315, 338, 361, 374, 387, 410, 433, 456, 479, 502, 535, 558, 571, 604, 647, 670, 703, 752, 775, 788, 811, 824, 837, 860, 883], 176, 0, 0, .null),
  (176, .aload_n 1, 177, 1, 0, .null),
  (177, .aload_n 0, 178, 0, 0, .null),
  (178, .iload_n 3, 179, 3, 0, .null),
  (179, .iconst 1, 180, 0, 0, .int 1),
  (180, .iadd, 181, 0, 0, .null),
  (181, .iaload, 182, 0, 0, .null),
  (182, .invokevirtual 13, 185, 56, 2, .retAddr 205),
  (185, .aload_n 2, 186, 2, 0, .null),
  (186, .aload_n 0, 187, 0, 0, .null),
  (187, .iload_n 3, 188, 3, 0, .null),
  (188, .iconst 1, 189, 0, 0, .int 1),
  (189, .iadd, 190, 0, 0, .null),
  (190, .iaload, 191, 0, 0, .null),
  (191, .invokevirtual 17, 194, 134, 2, .retAddr 206),
  (194, .if_icmp .eq 744, 197, 938, 0, .null),
  (197, .iconst 0, 198, 0, 0, .int 0),
  (198, .ireturn, 199, 0, 1, .null),
  (199, .aload_n 1, 200, 1, 0, .null)]
def k_W_law_1 : List (Nat × Ent) := [
  (200, .invokevirtual 18, 203, 57, 1, .retAddr 305),
  (203, .aload_n 2, 204, 2, 0, .null),
  (204, .invokevirtual 22, 207, 144, 1, .retAddr 206),
  (207, .if_icmp .eq 731, 210, 938, 0, .null),
  (210, .iconst 0, 211, 0, 0, .int 0),
  (211, .ireturn, 212, 0, 1, .null),
  (212, .aload_n 1, 213, 1, 0, .null),
  (213, .invokevirtual 23, 216, 58, 1, .retAddr 105),
  (216, .aload_n 2, 217, 2, 0, .null),
  (217, .invokevirtual 26, 220, 145, 1, .retAddr 106),
  (220, .if_icmp .eq 718, 223, 938, 0, .null),
  (223, .iconst 0, 224, 0, 0, .int 0),
  (224, .ireturn, 225, 0, 1, .null),
  (225, .aload_n 1, 226, 1, 0, .null),
  (226, .aload_n 0, 227, 0, 0, .null),
  (227, .iload_n 3, 228, 3, 0, .null),
  (228, .iconst 1, 229, 0, 0, .int 1),
  (229, .iadd, 230, 0, 0, .null),
  (230, .iaload, 231, 0, 0, .null),
  (231, .invokevirtual 27, 234, 59, 2, .retAddr 205),
  (234, .aload_n 2, 235, 2, 0, .null),
  (235, .aload_n 0, 236, 0, 0, .null),
  (236, .iload_n 3, 237, 3, 0, .null),
  (237, .iconst 1, 238, 0, 0, .int 1),
  (238, .iadd, 239, 0, 0, .null),
  (239, .iaload, 240, 0, 0, .null),
  (240, .invokevirtual 30, 243, 169, 2, .retAddr 206),
  (243, .if_icmp .eq 695, 246, 938, 0, .null),
  (246, .iconst 0, 247, 0, 0, .int 0),
  (247, .ireturn, 248, 0, 1, .null),
  (248, .aload_n 1, 249, 1, 0, .null),
  (249, .aload_n 0, 250, 0, 0, .null),
  (250, .iload_n 3, 251, 3, 0, .null),
  (251, .iconst 1, 252, 0, 0, .int 1),
  (252, .iadd, 253, 0, 0, .null),
  (253, .iaload, 254, 0, 0, .null),
  (254, .aload_n 0, 255, 0, 0, .null),
  (255, .iload_n 3, 256, 3, 0, .null),
  (256, .iconst 2, 257, 0, 0, .int 2),
  (257, .iadd, 258, 0, 0, .null)]
def k_W_law_2 : List (Nat × Ent) := [
  (258, .iaload, 259, 0, 0, .null),
  (259, .invokevirtual 31, 262, 60, 3, .retAddr 305),
  (262, .aload_n 2, 263, 2, 0, .null),
  (263, .aload_n 0, 264, 0, 0, .null),
  (264, .iload_n 3, 265, 3, 0, .null),
  (265, .iconst 1, 266, 0, 0, .int 1),
  (266, .iadd, 267, 0, 0, .null),
  (267, .iaload, 268, 0, 0, .null),
  (268, .aload_n 0, 269, 0, 0, .null),
  (269, .iload_n 3, 270, 3, 0, .null),
  (270, .iconst 2, 271, 0, 0, .int 2),
  (271, .iadd, 272, 0, 0, .null),
  (272, .iaload, 273, 0, 0, .null),
  (273, .invokevirtual 35, 276, 171, 3, .retAddr 306),
  (276, .if_icmp .eq 662, 279, 938, 0, .null),
  (279, .iconst 0, 280, 0, 0, .int 0),
  (280, .ireturn, 281, 0, 1, .null),
  (281, .aload_n 1, 282, 1, 0, .null),
  (282, .aload_n 0, 283, 0, 0, .null),
  (283, .iload_n 3, 284, 3, 0, .null),
  (284, .iconst 1, 285, 0, 0, .int 1),
  (285, .iadd, 286, 0, 0, .null),
  (286, .iaload, 287, 0, 0, .null),
  (287, .aload_n 0, 288, 0, 0, .null),
  (288, .iload_n 3, 289, 3, 0, .null),
  (289, .iconst 2, 290, 0, 0, .int 2),
  (290, .iadd, 291, 0, 0, .null),
  (291, .iaload, 292, 0, 0, .null),
  (292, .invokevirtual 36, 295, 61, 3, .retAddr 305),
  (295, .aload_n 2, 296, 2, 0, .null),
  (296, .aload_n 0, 297, 0, 0, .null),
  (297, .iload_n 3, 298, 3, 0, .null),
  (298, .iconst 1, 299, 0, 0, .int 1),
  (299, .iadd, 300, 0, 0, .null),
  (300, .iaload, 301, 0, 0, .null),
  (301, .aload_n 0, 302, 0, 0, .null),
  (302, .iload_n 3, 303, 3, 0, .null),
  (303, .iconst 2, 304, 0, 0, .int 2),
  (304, .iadd, 305, 0, 0, .null),
  (305, .iaload, 306, 0, 0, .null)]
def k_W_law_3 : List (Nat × Ent) := [
  (306, .invokevirtual 39, 309, 173, 3, .retAddr 306),
  (309, .if_icmp .eq 629, 312, 938, 0, .null),
  (312, .iconst 0, 313, 0, 0, .int 0),
  (313, .ireturn, 314, 0, 1, .null),
  (314, .aload_n 1, 315, 1, 0, .null),
  (315, .aload_n 0, 316, 0, 0, .null),
  (316, .iload_n 3, 317, 3, 0, .null),
  (317, .iconst 1, 318, 0, 0, .int 1),
  (318, .iadd, 319, 0, 0, .null),
  (319, .iaload, 320, 0, 0, .null),
  (320, .aload_n 0, 321, 0, 0, .null),
  (321, .iload_n 3, 322, 3, 0, .null),
  (322, .iconst 2, 323, 0, 0, .int 2),
  (323, .iadd, 324, 0, 0, .null),
  (324, .iaload, 325, 0, 0, .null),
  (325, .invokevirtual 40, 328, 62, 3, .retAddr 305),
  (328, .aload_n 2, 329, 2, 0, .null),
  (329, .aload_n 0, 330, 0, 0, .null),
  (330, .iload_n 3, 331, 3, 0, .null),
  (331, .iconst 1, 332, 0, 0, .int 1),
  (332, .iadd, 333, 0, 0, .null),
  (333, .iaload, 334, 0, 0, .null),
  (334, .aload_n 0, 335, 0, 0, .null),
  (335, .iload_n 3, 336, 3, 0, .null),
  (336, .iconst 2, 337, 0, 0, .int 2),
  (337, .iadd, 338, 0, 0, .null),
  (338, .iaload, 339, 0, 0, .null),
  (339, .invokevirtual 43, 342, 176, 3, .retAddr 306),
  (342, .if_icmp .eq 596, 345, 938, 0, .null),
  (345, .iconst 0, 346, 0, 0, .int 0),
  (346, .ireturn, 347, 0, 1, .null),
  (347, .aload_n 1, 348, 1, 0, .null),
  (348, .aload_n 0, 349, 0, 0, .null),
  (349, .iload_n 3, 350, 3, 0, .null),
  (350, .iconst 1, 351, 0, 0, .int 1),
  (351, .iadd, 352, 0, 0, .null),
  (352, .iaload, 353, 0, 0, .null),
  (353, .invokevirtual 44, 356, 63, 2, .retAddr 305),
  (356, .aload_n 2, 357, 2, 0, .null),
  (357, .aload_n 0, 358, 0, 0, .null)]
def k_W_law_4 : List (Nat × Ent) := [
  (358, .iload_n 3, 359, 3, 0, .null),
  (359, .iconst 1, 360, 0, 0, .int 1),
  (360, .iadd, 361, 0, 0, .null),
  (361, .iaload, 362, 0, 0, .null),
  (362, .invokevirtual 47, 365, 177, 2, .retAddr 306),
  (365, .if_icmp .eq 573, 368, 938, 0, .null),
  (368, .iconst 0, 369, 0, 0, .int 0),
  (369, .ireturn, 370, 0, 1, .null),
  (370, .aload_n 1, 371, 1, 0, .null),
  (371, .aload_n 0, 372, 0, 0, .null),
  (372, .iload_n 3, 373, 3, 0, .null),
  (373, .iconst 1, 374, 0, 0, .int 1),
  (374, .iadd, 375, 0, 0, .null),
  (375, .iaload, 376, 0, 0, .null),
  (376, .invokevirtual 48, 379, 64, 2, .retAddr 405),
  (379, .aload_n 2, 380, 2, 0, .null),
  (380, .aload_n 0, 381, 0, 0, .null),
  (381, .iload_n 3, 382, 3, 0, .null),
  (382, .iconst 1, 383, 0, 0, .int 1),
  (383, .iadd, 384, 0, 0, .null),
  (384, .iaload, 385, 0, 0, .null),
  (385, .invokevirtual 51, 388, 180, 2, .retAddr 406),
  (388, .if_icmp .eq 550, 391, 938, 0, .null),
  (391, .iconst 0, 392, 0, 0, .int 0),
  (392, .ireturn, 393, 0, 1, .null),
  (393, .aload_n 1, 394, 1, 0, .null),
  (394, .invokevirtual 52, 397, 65, 1, .retAddr 105),
  (397, .aload_n 2, 398, 2, 0, .null),
  (398, .invokevirtual 55, 401, 181, 1, .retAddr 206),
  (401, .if_icmp .eq 537, 404, 938, 0, .null),
  (404, .iconst 0, 405, 0, 0, .int 0),
  (405, .ireturn, 406, 0, 1, .null),
  (406, .aload_n 1, 407, 1, 0, .null),
  (407, .invokevirtual 56, 410, 66, 1, .retAddr 105),
  (410, .aload_n 2, 411, 2, 0, .null),
  (411, .invokevirtual 59, 414, 183, 1, .retAddr 106),
  (414, .if_icmp .eq 524, 417, 938, 0, .null),
  (417, .iconst 0, 418, 0, 0, .int 0),
  (418, .ireturn, 419, 0, 1, .null),
  (419, .aload_n 1, 420, 1, 0, .null)]
def k_W_law_5 : List (Nat × Ent) := [
  (420, .aload_n 0, 421, 0, 0, .null),
  (421, .iload_n 3, 422, 3, 0, .null),
  (422, .iconst 1, 423, 0, 0, .int 1),
  (423, .iadd, 424, 0, 0, .null),
  (424, .iaload, 425, 0, 0, .null),
  (425, .invokevirtual 60, 428, 67, 2, .retAddr 205),
  (428, .aload_n 2, 429, 2, 0, .null),
  (429, .aload_n 0, 430, 0, 0, .null),
  (430, .iload_n 3, 431, 3, 0, .null),
  (431, .iconst 1, 432, 0, 0, .int 1),
  (432, .iadd, 433, 0, 0, .null),
  (433, .iaload, 434, 0, 0, .null),
  (434, .invokevirtual 63, 437, 185, 2, .retAddr 206),
  (437, .if_icmp .eq 501, 440, 938, 0, .null),
  (440, .iconst 0, 441, 0, 0, .int 0),
  (441, .ireturn, 442, 0, 1, .null),
  (442, .aload_n 1, 443, 1, 0, .null),
  (443, .aload_n 0, 444, 0, 0, .null),
  (444, .iload_n 3, 445, 3, 0, .null),
  (445, .iconst 1, 446, 0, 0, .int 1),
  (446, .iadd, 447, 0, 0, .null),
  (447, .iaload, 448, 0, 0, .null),
  (448, .invokevirtual 64, 451, 68, 2, .retAddr 205),
  (451, .aload_n 2, 452, 2, 0, .null),
  (452, .aload_n 0, 453, 0, 0, .null),
  (453, .iload_n 3, 454, 3, 0, .null),
  (454, .iconst 1, 455, 0, 0, .int 1),
  (455, .iadd, 456, 0, 0, .null),
  (456, .iaload, 457, 0, 0, .null),
  (457, .invokevirtual 67, 460, 186, 2, .retAddr 306),
  (460, .if_icmp .eq 478, 463, 938, 0, .null),
  (463, .iconst 0, 464, 0, 0, .int 0),
  (464, .ireturn, 465, 0, 1, .null),
  (465, .aload_n 1, 466, 1, 0, .null),
  (466, .aload_n 0, 467, 0, 0, .null),
  (467, .iload_n 3, 468, 3, 0, .null),
  (468, .iconst 1, 469, 0, 0, .int 1),
  (469, .iadd, 470, 0, 0, .null),
  (470, .iaload, 471, 0, 0, .null),
  (471, .invokevirtual 68, 474, 69, 2, .retAddr 305)]
def k_W_law_6 : List (Nat × Ent) := [
  (474, .aload_n 2, 475, 2, 0, .null),
  (475, .aload_n 0, 476, 0, 0, .null),
  (476, .iload_n 3, 477, 3, 0, .null),
  (477, .iconst 1, 478, 0, 0, .int 1),
  (478, .iadd, 479, 0, 0, .null),
  (479, .iaload, 480, 0, 0, .null),
  (480, .invokevirtual 71, 483, 187, 2, .retAddr 306),
  (483, .if_icmp .eq 455, 486, 938, 0, .null),
  (486, .iconst 0, 487, 0, 0, .int 0),
  (487, .ireturn, 488, 0, 1, .null),
  (488, .aload_n 1, 489, 1, 0, .null),
  (489, .aload_n 0, 490, 0, 0, .null),
  (490, .iload_n 3, 491, 3, 0, .null),
  (491, .iconst 1, 492, 0, 0, .int 1),
  (492, .iadd, 493, 0, 0, .null),
  (493, .iaload, 494, 0, 0, .null),
  (494, .invokevirtual 72, 497, 70, 2, .retAddr 405),
  (497, .aload_n 2, 498, 2, 0, .null),
  (498, .aload_n 0, 499, 0, 0, .null),
  (499, .iload_n 3, 500, 3, 0, .null),
  (500, .iconst 1, 501, 0, 0, .int 1),
  (501, .iadd, 502, 0, 0, .null),
  (502, .iaload, 503, 0, 0, .null),
  (503, .invokevirtual 75, 506, 190, 2, .retAddr 406),
  (506, .if_icmp .eq 432, 509, 938, 0, .null),
  (509, .iconst 0, 510, 0, 0, .int 0),
  (510, .ireturn, 511, 0, 1, .null),
  (511, .aload_n 1, 512, 1, 0, .null),
  (512, .aload_n 0, 513, 0, 0, .null),
  (513, .iload_n 3, 514, 3, 0, .null),
  (514, .iconst 1, 515, 0, 0, .int 1),
  (515, .iadd, 516, 0, 0, .null),
  (516, .iaload, 517, 0, 0, .null),
  (517, .invokevirtual 76, 520, 71, 2, .retAddr 205),
  (520, .aload_n 2, 521, 2, 0, .null),
  (521, .aload_n 0, 522, 0, 0, .null),
  (522, .iload_n 3, 523, 3, 0, .null),
  (523, .iconst 1, 524, 0, 0, .int 1),
  (524, .iadd, 525, 0, 0, .null),
  (525, .iaload, 526, 0, 0, .null)]
def k_W_law_7 : List (Nat × Ent) := [
  (526, .invokevirtual 79, 529, 191, 2, .retAddr 206),
  (529, .if_icmp .eq 409, 532, 938, 0, .null),
  (532, .iconst 0, 533, 0, 0, .int 0),
  (533, .ireturn, 534, 0, 1, .null),
  (534, .aload_n 1, 535, 1, 0, .null),
  (535, .aload_n 0, 536, 0, 0, .null),
  (536, .iload_n 3, 537, 3, 0, .null),
  (537, .iconst 1, 538, 0, 0, .int 1),
  (538, .iadd, 539, 0, 0, .null),
  (539, .iaload, 540, 0, 0, .null),
  (540, .aload_n 0, 541, 0, 0, .null),
  (541, .iload_n 3, 542, 3, 0, .null),
  (542, .iconst 2, 543, 0, 0, .int 2),
  (543, .iadd, 544, 0, 0, .null),
  (544, .iaload, 545, 0, 0, .null),
  (545, .invokevirtual 80, 548, 72, 3, .retAddr 305),
  (548, .aload_n 2, 549, 2, 0, .null),
  (549, .aload_n 0, 550, 0, 0, .null),
  (550, .iload_n 3, 551, 3, 0, .null),
  (551, .iconst 1, 552, 0, 0, .int 1),
  (552, .iadd, 553, 0, 0, .null),
  (553, .iaload, 554, 0, 0, .null),
  (554, .aload_n 0, 555, 0, 0, .null),
  (555, .iload_n 3, 556, 3, 0, .null),
  (556, .iconst 2, 557, 0, 0, .int 2),
  (557, .iadd, 558, 0, 0, .null),
  (558, .iaload, 559, 0, 0, .null),
  (559, .invokevirtual 83, 562, 192, 3, .retAddr 406),
  (562, .if_icmp .eq 376, 565, 938, 0, .null),
  (565, .iconst 0, 566, 0, 0, .int 0),
  (566, .ireturn, 567, 0, 1, .null),
  (567, .aload_n 1, 568, 1, 0, .null),
  (568, .aload_n 0, 569, 0, 0, .null),
  (569, .iload_n 3, 570, 3, 0, .null),
  (570, .iconst 1, 571, 0, 0, .int 1),
  (571, .iadd, 572, 0, 0, .null),
  (572, .iaload, 573, 0, 0, .null),
  (573, .invokevirtual 84, 576, 73, 2, .retAddr 205),
  (576, .aload_n 2, 577, 2, 0, .null),
  (577, .aload_n 0, 578, 0, 0, .null)]
def k_W_law_8 : List (Nat × Ent) := [
  (578, .iload_n 3, 579, 3, 0, .null),
  (579, .iconst 1, 580, 0, 0, .int 1),
  (580, .iadd, 581, 0, 0, .null),
  (581, .iaload, 582, 0, 0, .null),
  (582, .invokevirtual 87, 585, 193, 2, .retAddr 306),
  (585, .if_icmp .eq 353, 588, 938, 0, .null),
  (588, .iconst 0, 589, 0, 0, .int 0),
  (589, .ireturn, 590, 0, 1, .null),
  (590, .aload_n 1, 591, 1, 0, .null),
  (591, .invokevirtual 88, 594, 74, 1, .retAddr 305),
  (594, .aload_n 2, 595, 2, 0, .null),
  (595, .invokevirtual 91, 598, 194, 1, .retAddr 306),
  (598, .if_icmp .eq 340, 601, 938, 0, .null),
  (601, .iconst 0, 602, 0, 0, .int 0),
  (602, .ireturn, 603, 0, 1, .null),
  (603, .aload_n 1, 604, 1, 0, .null),
  (604, .aload_n 0, 605, 0, 0, .null),
  (605, .iload_n 3, 606, 3, 0, .null),
  (606, .iconst 1, 607, 0, 0, .int 1),
  (607, .iadd, 608, 0, 0, .null),
  (608, .iaload, 609, 0, 0, .null),
  (609, .aload_n 0, 610, 0, 0, .null),
  (610, .iload_n 3, 611, 3, 0, .null),
  (611, .iconst 2, 612, 0, 0, .int 2),
  (612, .iadd, 613, 0, 0, .null),
  (613, .iaload, 614, 0, 0, .null),
  (614, .invokevirtual 92, 617, 75, 3, .retAddr 305),
  (617, .aload_n 2, 618, 2, 0, .null),
  (618, .aload_n 0, 619, 0, 0, .null),
  (619, .iload_n 3, 620, 3, 0, .null),
  (620, .iconst 1, 621, 0, 0, .int 1),
  (621, .iadd, 622, 0, 0, .null),
  (622, .iaload, 623, 0, 0, .null),
  (623, .aload_n 0, 624, 0, 0, .null),
  (624, .iload_n 3, 625, 3, 0, .null),
  (625, .iconst 2, 626, 0, 0, .int 2),
  (626, .iadd, 627, 0, 0, .null),
  (627, .iaload, 628, 0, 0, .null),
  (628, .invokevirtual 95, 631, 195, 3, .retAddr 1106),
  (631, .if_icmp .eq 307, 634, 938, 0, .null)]
def k_W_law_9 : List (Nat × Ent) := [
  (634, .iconst 0, 635, 0, 0, .int 0),
  (635, .ireturn, 636, 0, 1, .null),
  (636, .aload_n 1, 637, 1, 0, .null),
  (637, .aload_n 0, 638, 0, 0, .null),
  (638, .iload_n 3, 639, 3, 0, .null),
  (639, .iconst 1, 640, 0, 0, .int 1),
  (640, .iadd, 641, 0, 0, .null),
  (641, .iaload, 642, 0, 0, .null),
  (642, .aload_n 0, 643, 0, 0, .null),
  (643, .iload_n 3, 644, 3, 0, .null),
  (644, .iconst 2, 645, 0, 0, .int 2),
  (645, .iadd, 646, 0, 0, .null),
  (646, .iaload, 647, 0, 0, .null),
  (647, .aload_n 0, 648, 0, 0, .null),
  (648, .iload_n 3, 649, 3, 0, .null),
  (649, .iconst 3, 650, 0, 0, .int 3),
  (650, .iadd, 651, 0, 0, .null),
  (651, .iaload, 652, 0, 0, .null),
  (652, .invokevirtual 96, 655, 76, 4, .retAddr 705),
  (655, .aload_n 2, 656, 2, 0, .null),
  (656, .aload_n 0, 657, 0, 0, .null),
  (657, .iload_n 3, 658, 3, 0, .null),
  (658, .iconst 1, 659, 0, 0, .int 1),
  (659, .iadd, 660, 0, 0, .null),
  (660, .iaload, 661, 0, 0, .null),
  (661, .aload_n 0, 662, 0, 0, .null),
  (662, .iload_n 3, 663, 3, 0, .null),
  (663, .iconst 2, 664, 0, 0, .int 2),
  (664, .iadd, 665, 0, 0, .null),
  (665, .iaload, 666, 0, 0, .null),
  (666, .aload_n 0, 667, 0, 0, .null),
  (667, .iload_n 3, 668, 3, 0, .null),
  (668, .iconst 3, 669, 0, 0, .int 3),
  (669, .iadd, 670, 0, 0, .null),
  (670, .iaload, 671, 0, 0, .null),
  (671, .invokevirtual 100, 674, 197, 4, .retAddr 1206),
  (674, .if_icmp .eq 264, 677, 938, 0, .null),
  (677, .iconst 0, 678, 0, 0, .int 0),
  (678, .ireturn, 679, 0, 1, .null),
  (679, .aload_n 1, 680, 1, 0, .null)]
def k_W_law_10 : List (Nat × Ent) := [
  (680, .aload_n 0, 681, 0, 0, .null),
  (681, .iload_n 3, 682, 3, 0, .null),
  (682, .iconst 1, 683, 0, 0, .int 1),
  (683, .iadd, 684, 0, 0, .null),
  (684, .iaload, 685, 0, 0, .null),
  (685, .invokevirtual 101, 688, 77, 2, .retAddr 705),
  (688, .aload_n 2, 689, 2, 0, .null),
  (689, .aload_n 0, 690, 0, 0, .null),
  (690, .iload_n 3, 691, 3, 0, .null),
  (691, .iconst 1, 692, 0, 0, .int 1),
  (692, .iadd, 693, 0, 0, .null),
  (693, .iaload, 694, 0, 0, .null),
  (694, .invokevirtual 104, 697, 199, 2, .retAddr 606),
  (697, .if_icmp .eq 241, 700, 938, 0, .null),
  (700, .iconst 0, 701, 0, 0, .int 0),
  (701, .ireturn, 702, 0, 1, .null),
  (702, .aload_n 1, 703, 1, 0, .null),
  (703, .aload_n 0, 704, 0, 0, .null),
  (704, .iload_n 3, 705, 3, 0, .null),
  (705, .iconst 1, 706, 0, 0, .int 1),
  (706, .iadd, 707, 0, 0, .null),
  (707, .iaload, 708, 0, 0, .null),
  (708, .aload_n 0, 709, 0, 0, .null),
  (709, .iload_n 3, 710, 3, 0, .null),
  (710, .iconst 2, 711, 0, 0, .int 2),
  (711, .iadd, 712, 0, 0, .null),
  (712, .iaload, 713, 0, 0, .null),
  (713, .invokevirtual 105, 716, 78, 3, .retAddr 605),
  (716, .aload_n 2, 717, 2, 0, .null),
  (717, .aload_n 0, 718, 0, 0, .null),
  (718, .iload_n 3, 719, 3, 0, .null),
  (719, .iconst 1, 720, 0, 0, .int 1),
  (720, .iadd, 721, 0, 0, .null),
  (721, .iaload, 722, 0, 0, .null),
  (722, .aload_n 0, 723, 0, 0, .null),
  (723, .iload_n 3, 724, 3, 0, .null),
  (724, .iconst 2, 725, 0, 0, .int 2),
  (725, .iadd, 726, 0, 0, .null),
  (726, .iaload, 727, 0, 0, .null),
  (727, .invokevirtual 108, 730, 200, 3, .retAddr 606)]
def k_W_law_11 : List (Nat × Ent) := [
  (730, .if_icmp .eq 208, 733, 938, 0, .null),
  (733, .iconst 0, 734, 0, 0, .int 0),
  (734, .ireturn, 735, 0, 1, .null),
  (735, .aload_n 1, 736, 1, 0, .null),
  (736, .aload_n 0, 737, 0, 0, .null),
  (737, .iload_n 3, 738, 3, 0, .null),
  (738, .iconst 1, 739, 0, 0, .int 1),
  (739, .iadd, 740, 0, 0, .null),
  (740, .iaload, 741, 0, 0, .null),
  (741, .aload_n 0, 742, 0, 0, .null),
  (742, .iload_n 3, 743, 3, 0, .null),
  (743, .iconst 2, 744, 0, 0, .int 2),
  (744, .iadd, 745, 0, 0, .null),
  (745, .iaload, 746, 0, 0, .null),
  (746, .ifCond .eq 7, 749, 753, 0, .null),
  (749, .iconst 1, 750, 0, 0, .int 1),
  (750, .goto 4, 753, 754, 0, .null),
  (753, .iconst 0, 754, 0, 0, .int 0),
  (754, .invokevirtual 109, 757, 79, 3, .retAddr 305),
  (757, .aload_n 2, 758, 2, 0, .null),
  (758, .aload_n 0, 759, 0, 0, .null),
  (759, .iload_n 3, 760, 3, 0, .null),
  (760, .iconst 1, 761, 0, 0, .int 1),
  (761, .iadd, 762, 0, 0, .null),
  (762, .iaload, 763, 0, 0, .null),
  (763, .aload_n 0, 764, 0, 0, .null),
  (764, .iload_n 3, 765, 3, 0, .null),
  (765, .iconst 2, 766, 0, 0, .int 2),
  (766, .iadd, 767, 0, 0, .null),
  (767, .iaload, 768, 0, 0, .null),
  (768, .ifCond .eq 7, 771, 775, 0, .null),
  (771, .iconst 1, 772, 0, 0, .int 1),
  (772, .goto 4, 775, 776, 0, .null),
  (775, .iconst 0, 776, 0, 0, .int 0),
  (776, .invokevirtual 113, 779, 201, 3, .retAddr 306),
  (779, .if_icmp .eq 159, 782, 938, 0, .null),
  (782, .iconst 0, 783, 0, 0, .int 0),
  (783, .ireturn, 784, 0, 1, .null),
  (784, .aload_n 1, 785, 1, 0, .null),
  (785, .aload_n 0, 786, 0, 0, .null)]
def k_W_law_12 : List (Nat × Ent) := [
  (786, .iload_n 3, 787, 3, 0, .null),
  (787, .iconst 1, 788, 0, 0, .int 1),
  (788, .iadd, 789, 0, 0, .null),
  (789, .iaload, 790, 0, 0, .null),
  (790, .invokevirtual 114, 793, 80, 2, .retAddr 205),
  (793, .aload_n 2, 794, 2, 0, .null),
  (794, .aload_n 0, 795, 0, 0, .null),
  (795, .iload_n 3, 796, 3, 0, .null),
  (796, .iconst 1, 797, 0, 0, .int 1),
  (797, .iadd, 798, 0, 0, .null),
  (798, .iaload, 799, 0, 0, .null),
  (799, .invokevirtual 117, 802, 203, 2, .retAddr 706),
  (802, .if_icmp .eq 136, 805, 938, 0, .null),
  (805, .iconst 0, 806, 0, 0, .int 0),
  (806, .ireturn, 807, 0, 1, .null),
  (807, .aload_n 1, 808, 1, 0, .null),
  (808, .invokevirtual 118, 811, 81, 1, .retAddr 605),
  (811, .aload_n 2, 812, 2, 0, .null),
  (812, .invokevirtual 121, 815, 204, 1, .retAddr 806),
  (815, .if_icmp .eq 123, 818, 938, 0, .null),
  (818, .iconst 0, 819, 0, 0, .int 0),
  (819, .ireturn, 820, 0, 1, .null),
  (820, .aload_n 1, 821, 1, 0, .null),
  (821, .aload_n 0, 822, 0, 0, .null),
  (822, .iload_n 3, 823, 3, 0, .null),
  (823, .iconst 1, 824, 0, 0, .int 1),
  (824, .iadd, 825, 0, 0, .null),
  (825, .iaload, 826, 0, 0, .null),
  (826, .invokevirtual 122, 829, 82, 2, .retAddr 205),
  (829, .aload_n 2, 830, 2, 0, .null),
  (830, .aload_n 0, 831, 0, 0, .null),
  (831, .iload_n 3, 832, 3, 0, .null),
  (832, .iconst 1, 833, 0, 0, .int 1),
  (833, .iadd, 834, 0, 0, .null),
  (834, .iaload, 835, 0, 0, .null),
  (835, .invokevirtual 125, 838, 205, 2, .retAddr 206),
  (838, .if_icmp .eq 100, 841, 938, 0, .null),
  (841, .iconst 0, 842, 0, 0, .int 0),
  (842, .ireturn, 843, 0, 1, .null),
  (843, .aload_n 1, 844, 1, 0, .null)]
def k_W_law_13 : List (Nat × Ent) := [
  (844, .invokevirtual 126, 847, 83, 1, .retAddr 105),
  (847, .aload_n 2, 848, 2, 0, .null),
  (848, .invokevirtual 129, 851, 206, 1, .retAddr 306),
  (851, .if_icmp .eq 87, 854, 938, 0, .null),
  (854, .iconst 0, 855, 0, 0, .int 0),
  (855, .ireturn, 856, 0, 1, .null),
  (856, .aload_n 1, 857, 1, 0, .null),
  (857, .invokevirtual 130, 860, 84, 1, .retAddr 205),
  (860, .aload_n 2, 861, 2, 0, .null),
  (861, .invokevirtual 133, 864, 207, 1, .retAddr 206),
  (864, .if_icmp .eq 74, 867, 938, 0, .null),
  (867, .iconst 0, 868, 0, 0, .int 0),
  (868, .ireturn, 869, 0, 1, .null),
  (869, .aload_n 1, 870, 1, 0, .null),
  (870, .aload_n 0, 871, 0, 0, .null),
  (871, .iload_n 3, 872, 3, 0, .null),
  (872, .iconst 1, 873, 0, 0, .int 1),
  (873, .iadd, 874, 0, 0, .null),
  (874, .iaload, 875, 0, 0, .null),
  (875, .invokevirtual 134, 878, 85, 2, .retAddr 305),
  (878, .aload_n 2, 879, 2, 0, .null),
  (879, .aload_n 0, 880, 0, 0, .null),
  (880, .iload_n 3, 881, 3, 0, .null),
  (881, .iconst 1, 882, 0, 0, .int 1),
  (882, .iadd, 883, 0, 0, .null),
  (883, .iaload, 884, 0, 0, .null),
  (884, .invokevirtual 137, 887, 208, 2, .retAddr 306),
  (887, .if_icmp .eq 51, 890, 938, 0, .null),
  (890, .iconst 0, 891, 0, 0, .int 0),
  (891, .ireturn, 892, 0, 1, .null),
  (892, .aload_n 1, 893, 1, 0, .null),
  (893, .aload_n 0, 894, 0, 0, .null),
  (894, .iload_n 3, 895, 3, 0, .null),
  (895, .iconst 1, 896, 0, 0, .int 1),
  (896, .iadd, 897, 0, 0, .null),
  (897, .iaload, 898, 0, 0, .null),
  (898, .invokevirtual 138, 901, 86, 2, .retAddr 205),
  (901, .aload_n 2, 902, 2, 0, .null),
  (902, .aload_n 0, 903, 0, 0, .null),
  (903, .iload_n 3, 904, 3, 0, .null)]
def k_W_law_14 : List (Nat × Ent) := [
  (904, .iconst 1, 905, 0, 0, .int 1),
  (905, .iadd, 906, 0, 0, .null),
  (906, .iaload, 907, 0, 0, .null),
  (907, .invokevirtual 141, 910, 209, 2, .retAddr 206),
  (910, .if_icmp .eq 28, 913, 938, 0, .null),
  (913, .iconst 0, 914, 0, 0, .int 0),
  (914, .ireturn, 915, 0, 1, .null),
  (915, .aload_n 1, 916, 1, 0, .null),
  (916, .aload_n 0, 917, 0, 0, .null),
  (917, .iload_n 3, 918, 3, 0, .null),
  (918, .iconst 1, 919, 0, 0, .int 1),
  (919, .iadd, 920, 0, 0, .null),
  (920, .iaload, 921, 0, 0, .null),
  (921, .invokevirtual 142, 924, 87, 2, .retAddr 205),
  (924, .aload_n 2, 925, 2, 0, .null),
  (925, .aload_n 0, 926, 0, 0, .null),
  (926, .iload_n 3, 927, 3, 0, .null),
  (927, .iconst 1, 928, 0, 0, .int 1),
  (928, .iadd, 929, 0, 0, .null),
  (929, .iaload, 930, 0, 0, .null),
  (930, .invokevirtual 145, 933, 210, 2, .retAddr 206),
  (933, .if_icmp .eq 5, 936, 938, 0, .null),
  (936, .iconst 0, 937, 0, 0, .int 0),
  (937, .ireturn, 938, 0, 1, .null),
  (938, .iinc 3 4, 941, 3, 0, .int 4),
  (941, .goto (-923), 944, 18, 0, .null),
  (944, .iconst 1, 945, 0, 0, .int 1),
  (945, .ireturn, 946, 0, 1, .null)]
def k_W_law : List (Nat × Ent) := k_W_law_0 ++ (k_W_law_1 ++ (k_W_law_2 ++ (k_W_law_3 ++ (k_W_law_4 ++ (k_W_law_5 ++ (k_W_law_6 ++ (k_W_law_7 ++ (k_W_law_8 ++ (k_W_law_9 ++ (k_W_law_10 ++ (k_W_law_11 ++ (k_W_law_12 ++ (k_W_law_13 ++ (k_W_law_14))))))))))))))
abbrev Meta : Type := MethodName × ByteArray × Nat × Option FieldType × Nat × Nat × Nat × List (Nat × Ent)
abbrev t_F_init : Meta := (y_F_init, prog_2_method_1_code, 1, none, 0, 2, 0, k_F_init)
abbrev t_F_begin : Meta := (y_F_begin, prog_2_method_2_code, 2, none, 0, 1, 1, k_F_begin)
abbrev t_F_become : Meta := (y_F_become, prog_2_method_3_code, 2, none, 0, 1, 1, k_F_become)
abbrev t_F_dented : Meta := (y_F_dented, prog_2_method_4_code, 1, (some .long), 0, 1, 0, k_F_dented)
abbrev t_F_seen : Meta := (y_F_seen, prog_2_method_5_code, 1, (some .long), 0, 1, 0, k_F_seen)
abbrev t_F_dentedFrom : Meta := (y_F_dentedFrom, prog_2_method_6_code, 5, (some .long), 0, 1, 1, k_F_dentedFrom)
abbrev t_F_press : Meta := (y_F_press, prog_2_method_7_code, 4, none, 0, 1, 1, k_F_press)
abbrev t_F_passNight : Meta := (y_F_passNight, prog_2_method_8_code, 8, none, 0, 1, 1, k_F_passNight)
abbrev t_F_melt : Meta := (y_F_melt, prog_2_method_9_code, 2, none, 0, 1, 0, k_F_melt)
abbrev t_F_snowOver : Meta := (y_F_snowOver, prog_2_method_10_code, 2, none, 0, 1, 0, k_F_snowOver)
abbrev t_F_cross : Meta := (y_F_cross, prog_2_method_11_code, 2, none, 0, 1, 1, k_F_cross)
abbrev t_F_roll : Meta := (y_F_roll, prog_2_method_12_code, 4, none, 0, 1, 1, k_F_roll)
abbrev t_L_init : Meta := (y_L_init, prog_3_method_1_code, 1, none, 1, 2, 0, k_L_init)
abbrev t_L_clear : Meta := (y_L_clear, prog_3_method_2_code, 1, none, 1, 1, 0, k_L_clear)
abbrev t_L_measure : Meta := (y_L_measure, prog_3_method_3_code, 4, none, 1, 1, 2, k_L_measure)
abbrev t_L_cells : Meta := (y_L_cells, prog_3_method_4_code, 1, (some .int), 1, 1, 0, k_L_cells)
abbrev t_L_isRock : Meta := (y_L_isRock, prog_3_method_5_code, 2, (some .boolean), 1, 1, 1, k_L_isRock)
abbrev t_L_row : Meta := (y_L_row, prog_3_method_6_code, 2, (some .long), 1, 1, 1, k_L_row)
abbrev t_L_moved : Meta := (y_L_moved, prog_3_method_7_code, 4, (some .long), 1, 1, 2, k_L_moved)
abbrev t_L_grown : Meta := (y_L_grown, prog_3_method_8_code, 3, (some .long), 1, 1, 1, k_L_grown)
abbrev t_L_steps : Meta := (y_L_steps, prog_3_method_9_code, 3, (some .int), 1, 1, 2, k_L_steps)
abbrev t_L_shape : Meta := (y_L_shape, prog_3_method_10_code, 3, (some .long), 1, 1, 2, k_L_shape)
abbrev t_L_drawShapes : Meta := (y_L_drawShapes, prog_3_method_11_code, 3, none, 1, 1, 0, k_L_drawShapes)
abbrev t_L_drawnShape : Meta := (y_L_drawnShape, prog_3_method_12_code, 10, (some .long), 1, 1, 2, k_L_drawnShape)
abbrev t_L_groupOf : Meta := (y_L_groupOf, prog_3_method_13_code, 10, (some .long), 1, 1, 2, k_L_groupOf)
abbrev t_L_firstGroup : Meta := (y_L_firstGroup, prog_3_method_14_code, 3, (some .long), 1, 1, 1, k_L_firstGroup)
abbrev t_L_groupsIn : Meta := (y_L_groupsIn, prog_3_method_15_code, 6, (some .int), 1, 1, 1, k_L_groupsIn)
abbrev t_L_countOf : Meta := (y_L_countOf, prog_3_method_16_code, 9, (some .int), 1, 1, 1, k_L_countOf)
abbrev t_L_countedAs : Meta := (y_L_countedAs, prog_3_method_17_code, 2, (some .int), 1, 1, 1, k_L_countedAs)
abbrev t_L_greatestIn : Meta := (y_L_greatestIn, prog_3_method_18_code, 10, (some .int), 1, 1, 1, k_L_greatestIn)
abbrev t_L_forgedIn : Meta := (y_L_forgedIn, prog_3_method_19_code, 9, (some .int), 1, 1, 1, k_L_forgedIn)
abbrev t_L_isShape : Meta := (y_L_isShape, prog_3_method_20_code, 4, (some .boolean), 1, 1, 1, k_L_isShape)
abbrev t_N_init : Meta := (y_N_init, prog_4_method_1_code, 1, none, 2, 2, 0, k_N_init)
abbrev t_N_empty : Meta := (y_N_empty, prog_4_method_2_code, 1, none, 2, 1, 0, k_N_empty)
abbrev t_N_addFound : Meta := (y_N_addFound, prog_4_method_3_code, 3, (some .int), 2, 1, 2, k_N_addFound)
abbrev t_N_agreesWith : Meta := (y_N_agreesWith, prog_4_method_4_code, 4, (some .boolean), 2, 1, 1, k_N_agreesWith)
abbrev t_N_addEntry : Meta := (y_N_addEntry, prog_4_method_5_code, 2, (some .int), 2, 1, 1, k_N_addEntry)
abbrev t_N_firstOtherThan : Meta := (y_N_firstOtherThan, prog_4_method_6_code, 3, (some .int), 2, 1, 1, k_N_firstOtherThan)
abbrev t_R_init : Meta := (y_R_init, prog_5_method_1_code, 1, none, 3, 2, 0, k_R_init)
abbrev t_R_add : Meta := (y_R_add, prog_5_method_2_code, 2, (some .int), 3, 1, 1, k_R_add)
abbrev t_R_readInto : Meta := (y_R_readInto, prog_5_method_3_code, 3, none, 3, 1, 1, k_R_readInto)
abbrev t_R_complain : Meta := (y_R_complain, prog_5_method_4_code, 3, none, 3, 1, 2, k_R_complain)
abbrev t_R_skipBlanks : Meta := (y_R_skipBlanks, prog_5_method_5_code, 1, none, 3, 1, 0, k_R_skipBlanks)
abbrev t_R_atFigure : Meta := (y_R_atFigure, prog_5_method_6_code, 1, (some .boolean), 3, 1, 0, k_R_atFigure)
abbrev t_R_readClause : Meta := (y_R_readClause, prog_5_method_7_code, 3, none, 3, 1, 1, k_R_readClause)
abbrev t_R_readEnd : Meta := (y_R_readEnd, prog_5_method_8_code, 1, none, 3, 1, 0, k_R_readEnd)
abbrev t_R_readNumber : Meta := (y_R_readNumber, prog_5_method_9_code, 4, (some .int), 3, 1, 2, k_R_readNumber)
abbrev t_R_readSides : Meta := (y_R_readSides, prog_5_method_10_code, 4, none, 3, 1, 1, k_R_readSides)
abbrev t_R_readPerson : Meta := (y_R_readPerson, prog_5_method_11_code, 3, none, 3, 1, 1, k_R_readPerson)
abbrev t_R_readWind : Meta := (y_R_readWind, prog_5_method_12_code, 3, none, 3, 1, 1, k_R_readWind)
abbrev t_R_readRock : Meta := (y_R_readRock, prog_5_method_13_code, 4, none, 3, 1, 1, k_R_readRock)
abbrev t_R_addRock : Meta := (y_R_addRock, prog_5_method_14_code, 4, none, 3, 1, 2, k_R_addRock)
abbrev t_S_init : Meta := (y_S_init, prog_6_method_1_code, 2, none, 4, 2, 1, k_S_init)
abbrev t_S_put : Meta := (y_S_put, prog_6_method_2_code, 4, none, 4, 1, 2, k_S_put)
abbrev t_S_take : Meta := (y_S_take, prog_6_method_3_code, 4, none, 4, 1, 2, k_S_take)
abbrev t_C_init : Meta := (y_C_init, prog_1_method_1_code, 1, none, 5, 2, 0, k_C_init)
abbrev t_C_feed : Meta := (y_C_feed, prog_1_method_2_code, 2, (some .int), 5, 1, 1, k_C_feed)
abbrev t_C_north : Meta := (y_C_north, prog_1_method_3_code, 3, (some .int), 5, 1, 0, k_C_north)
abbrev t_C_fault : Meta := (y_C_fault, prog_1_method_4_code, 1, (some .int), 5, 1, 0, k_C_fault)
abbrev t_C_told : Meta := (y_C_told, prog_1_method_5_code, 2, (some .int), 5, 1, 1, k_C_told)
abbrev t_C_cell : Meta := (y_C_cell, prog_1_method_6_code, 3, (some .int), 5, 1, 2, k_C_cell)
abbrev t_C_person : Meta := (y_C_person, prog_1_method_7_code, 3, (some .int), 5, 1, 2, k_C_person)
abbrev t_C_lie : Meta := (y_C_lie, prog_1_method_8_code, 3, (some .int), 5, 1, 2, k_C_lie)
abbrev t_C_rise : Meta := (y_C_rise, prog_1_method_9_code, 3, (some .int), 5, 1, 1, k_C_rise)
abbrev t_C_night : Meta := (y_C_night, prog_1_method_10_code, 4, (some .int), 5, 1, 1, k_C_night)
abbrev t_C_thaw : Meta := (y_C_thaw, prog_1_method_11_code, 1, (some .int), 5, 1, 0, k_C_thaw)
abbrev t_C_snow : Meta := (y_C_snow, prog_1_method_12_code, 1, (some .int), 5, 1, 0, k_C_snow)
abbrev t_C_hare : Meta := (y_C_hare, prog_1_method_13_code, 2, (some .int), 5, 1, 1, k_C_hare)
abbrev t_C_pin : Meta := (y_C_pin, prog_1_method_14_code, 2, (some .int), 5, 1, 1, k_C_pin)
abbrev t_C_wind : Meta := (y_C_wind, prog_1_method_15_code, 3, (some .int), 5, 1, 1, k_C_wind)
abbrev t_C_drift : Meta := (y_C_drift, prog_1_method_16_code, 4, (some .int), 5, 1, 1, k_C_drift)
abbrev t_C_undo : Meta := (y_C_undo, prog_1_method_17_code, 2, (some .int), 5, 1, 1, k_C_undo)
abbrev t_C_left : Meta := (y_C_left, prog_1_method_18_code, 3, (some .int), 5, 1, 2, k_C_left)
abbrev t_C_willCount : Meta := (y_C_willCount, prog_1_method_19_code, 2, (some .int), 5, 1, 1, k_C_willCount)
abbrev t_C_wrongFirst : Meta := (y_C_wrongFirst, prog_1_method_20_code, 3, (some .int), 5, 1, 0, k_C_wrongFirst)
abbrev t_C_canLie : Meta := (y_C_canLie, prog_1_method_21_code, 3, (some .int), 5, 1, 2, k_C_canLie)
abbrev t_C_round : Meta := (y_C_round, prog_1_method_22_code, 7, (some .int), 5, 1, 3, k_C_round)
abbrev t_C_touch : Meta := (y_C_touch, prog_1_method_23_code, 7, (some .int), 5, 1, 1, k_C_touch)
abbrev t_C_still : Meta := (y_C_still, prog_1_method_24_code, 6, (some .int), 5, 1, 2, k_C_still)
abbrev t_C_find : Meta := (y_C_find, prog_1_method_25_code, 3, (some .int), 5, 1, 2, k_C_find)
abbrev t_C_fits : Meta := (y_C_fits, prog_1_method_26_code, 2, (some .int), 5, 1, 1, k_C_fits)
abbrev t_C_look : Meta := (y_C_look, prog_1_method_27_code, 6, (some .int), 5, 1, 0, k_C_look)
abbrev t_C_write : Meta := (y_C_write, prog_1_method_28_code, 2, (some .int), 5, 1, 1, k_C_write)
abbrev t_C_judge : Meta := (y_C_judge, prog_1_method_29_code, 1, (some .int), 5, 1, 0, k_C_judge)
abbrev t_C_tear : Meta := (y_C_tear, prog_1_method_30_code, 2, (some .int), 5, 1, 0, k_C_tear)
abbrev t_C_seed : Meta := (y_C_seed, prog_1_method_31_code, 3, (some .int), 5, 1, 1, k_C_seed)
abbrev t_C_keep : Meta := (y_C_keep, prog_1_method_32_code, 2, (some .int), 5, 1, 1, k_C_keep)
abbrev t_C_goBack : Meta := (y_C_goBack, prog_1_method_33_code, 2, (some .int), 5, 1, 1, k_C_goBack)
abbrev t_C_has : Meta := (y_C_has, prog_1_method_34_code, 3, (some .boolean), 5, 0, 2, k_C_has)
abbrev t_C_leastOf : Meta := (y_C_leastOf, prog_1_method_35_code, 2, (some .int), 5, 0, 1, k_C_leastOf)
abbrev t_C_hasNorth : Meta := (y_C_hasNorth, prog_1_method_36_code, 1, (some .boolean), 5, 1, 0, k_C_hasNorth)
abbrev t_C_isCell : Meta := (y_C_isCell, prog_1_method_37_code, 2, (some .boolean), 5, 1, 1, k_C_isCell)
abbrev t_C_isPerson : Meta := (y_C_isPerson, prog_1_method_38_code, 2, (some .boolean), 5, 1, 1, k_C_isPerson)
abbrev t_C_isImage : Meta := (y_C_isImage, prog_1_method_39_code, 2, (some .boolean), 5, 1, 1, k_C_isImage)
abbrev t_C_everybody : Meta := (y_C_everybody, prog_1_method_40_code, 1, (some .int), 5, 1, 0, k_C_everybody)
abbrev t_C_whoLies : Meta := (y_C_whoLies, prog_1_method_41_code, 3, (some .int), 5, 1, 0, k_C_whoLies)
abbrev t_C_whoIsAt : Meta := (y_C_whoIsAt, prog_1_method_42_code, 3, (some .int), 5, 1, 1, k_C_whoIsAt)
abbrev t_C_shapeLeftBy : Meta := (y_C_shapeLeftBy, prog_1_method_43_code, 2, (some .long), 5, 1, 1, k_C_shapeLeftBy)
abbrev t_C_countNow : Meta := (y_C_countNow, prog_1_method_44_code, 1, (some .int), 5, 1, 0, k_C_countNow)
abbrev t_C_truth : Meta := (y_C_truth, prog_1_method_45_code, 3, (some .int), 5, 1, 0, k_C_truth)
abbrev t_C_farOut : Meta := (y_C_farOut, prog_1_method_46_code, 5, (some .int), 5, 1, 0, k_C_farOut)
abbrev t_C_stepsToNearest : Meta := (y_C_stepsToNearest, prog_1_method_47_code, 5, (some .int), 5, 1, 1, k_C_stepsToNearest)
abbrev t_C_refusalOfNights : Meta := (y_C_refusalOfNights, prog_1_method_48_code, 2, (some .int), 5, 1, 1, k_C_refusalOfNights)
abbrev t_C_layDown : Meta := (y_C_layDown, prog_1_method_49_code, 3, none, 5, 1, 2, k_C_layDown)
abbrev t_C_remember : Meta := (y_C_remember, prog_1_method_50_code, 1, none, 5, 1, 0, k_C_remember)
abbrev t_C_placeOfDeed : Meta := (y_C_placeOfDeed, prog_1_method_51_code, 2, (some .int), 5, 1, 1, k_C_placeOfDeed)
abbrev t_C_forgetDeeds : Meta := (y_C_forgetDeeds, prog_1_method_52_code, 1, none, 5, 1, 0, k_C_forgetDeeds)
abbrev t_C_draw : Meta := (y_C_draw, prog_1_method_53_code, 2, (some .int), 5, 1, 1, k_C_draw)
abbrev t_C_happenByDraw : Meta := (y_C_happenByDraw, prog_1_method_54_code, 1, none, 5, 1, 0, k_C_happenByDraw)
abbrev t_C_lieByDraw : Meta := (y_C_lieByDraw, prog_1_method_55_code, 3, none, 5, 1, 0, k_C_lieByDraw)
abbrev t_C_hareByDraw : Meta := (y_C_hareByDraw, prog_1_method_56_code, 2, none, 5, 1, 0, k_C_hareByDraw)
abbrev t_C_canTry : Meta := (y_C_canTry, prog_1_method_57_code, 2, (some .boolean), 5, 1, 1, k_C_canTry)
abbrev t_C_tryNights : Meta := (y_C_tryNights, prog_1_method_58_code, 3, none, 5, 1, 1, k_C_tryNights)
abbrev t_C_bare : Meta := (y_C_bare, prog_1_method_59_code, 2, (some .int), 5, 1, 0, k_C_bare)
abbrev t_C_roomFor : Meta := (y_C_roomFor, prog_1_method_60_code, 9, (some .long), 5, 1, 1, k_C_roomFor)
abbrev t_C_bestRoomFor : Meta := (y_C_bestRoomFor, prog_1_method_61_code, 11, (some .int), 5, 1, 2, k_C_bestRoomFor)
abbrev t_C_shortestRound : Meta := (y_C_shortestRound, prog_1_method_62_code, 15, (some .long), 5, 1, 3, k_C_shortestRound)
abbrev t_C_tenToThe : Meta := (y_C_tenToThe, prog_1_method_63_code, 4, (some .long), 5, 0, 1, k_C_tenToThe)
abbrev t_C_fitsFound : Meta := (y_C_fitsFound, prog_1_method_64_code, 5, (some .boolean), 5, 1, 2, k_C_fitsFound)
abbrev t_C_howManyFit : Meta := (y_C_howManyFit, prog_1_method_65_code, 3, (some .int), 5, 1, 0, k_C_howManyFit)
abbrev t_C_howManyOfKindFit : Meta := (y_C_howManyOfKindFit, prog_1_method_66_code, 4, (some .int), 5, 1, 1, k_C_howManyOfKindFit)
abbrev t_C_tallyFits : Meta := (y_C_tallyFits, prog_1_method_67_code, 3, none, 5, 1, 0, k_C_tallyFits)
abbrev t_C_tallyCells : Meta := (y_C_tallyCells, prog_1_method_68_code, 4, none, 5, 1, 1, k_C_tallyCells)
abbrev t_C_leastFit : Meta := (y_C_leastFit, prog_1_method_69_code, 3, (some .int), 5, 1, 0, k_C_leastFit)
abbrev t_C_kindsThatFit : Meta := (y_C_kindsThatFit, prog_1_method_70_code, 3, (some .int), 5, 1, 0, k_C_kindsThatFit)
abbrev t_M_init : Meta := (y_M_init, prog_8_method_1_code, 1, none, 6, 2, 0, k_M_init)
abbrev t_M_in : Meta := (y_M_in, prog_8_method_3_code, 6, (some .boolean), 6, 0, 3, k_M_in)
abbrev t_M_has : Meta := (y_M_has, prog_8_method_4_code, 2, (some .boolean), 6, 0, 2, k_M_has)
abbrev t_M_holds : Meta := (y_M_holds, prog_8_method_5_code, 3, (some .boolean), 6, 0, 2, k_M_holds)
abbrev t_M_bits : Meta := (y_M_bits, prog_8_method_6_code, 5, (some .int), 6, 0, 1, k_M_bits)
abbrev t_M_lesser : Meta := (y_M_lesser, prog_8_method_7_code, 2, (some .int), 6, 0, 2, k_M_lesser)
abbrev t_M_greater : Meta := (y_M_greater, prog_8_method_8_code, 2, (some .int), 6, 0, 2, k_M_greater)
abbrev t_M_copies : Meta := (y_M_copies, prog_8_method_9_code, 6, none, 6, 0, 5, k_M_copies)
abbrev t_M_begins : Meta := (y_M_begins, prog_8_method_10_code, 2, none, 6, 1, 0, k_M_begins)
abbrev t_M_feed : Meta := (y_M_feed, prog_8_method_11_code, 2, (some .int), 6, 1, 1, k_M_feed)
abbrev t_M_here : Meta := (y_M_here, prog_8_method_12_code, 1, (some .int), 6, 1, 0, k_M_here)
abbrev t_M_step : Meta := (y_M_step, prog_8_method_13_code, 1, none, 6, 1, 0, k_M_step)
abbrev t_M_fails : Meta := (y_M_fails, prog_8_method_14_code, 2, (some .boolean), 6, 1, 1, k_M_fails)
abbrev t_M_number : Meta := (y_M_number, prog_8_method_15_code, 4, (some .boolean), 6, 1, 3, k_M_number)
abbrev t_M_ends : Meta := (y_M_ends, prog_8_method_16_code, 1, (some .boolean), 6, 1, 0, k_M_ends)
abbrev t_M_readsPerson : Meta := (y_M_readsPerson, prog_8_method_17_code, 2, (some .boolean), 6, 1, 0, k_M_readsPerson)
abbrev t_M_readsWind : Meta := (y_M_readsWind, prog_8_method_18_code, 1, (some .boolean), 6, 1, 0, k_M_readsWind)
abbrev t_M_readsRock : Meta := (y_M_readsRock, prog_8_method_19_code, 5, (some .boolean), 6, 1, 0, k_M_readsRock)
abbrev t_M_readsClause : Meta := (y_M_readsClause, prog_8_method_20_code, 1, (some .boolean), 6, 1, 0, k_M_readsClause)
abbrev t_M_north : Meta := (y_M_north, prog_8_method_21_code, 2, (some .int), 6, 1, 0, k_M_north)
abbrev t_M_fault : Meta := (y_M_fault, prog_8_method_22_code, 1, (some .int), 6, 1, 0, k_M_fault)
abbrev t_M_cells : Meta := (y_M_cells, prog_8_method_23_code, 1, (some .int), 6, 1, 0, k_M_cells)
abbrev t_M_isCell : Meta := (y_M_isCell, prog_8_method_24_code, 2, (some .boolean), 6, 1, 1, k_M_isCell)
abbrev t_M_isPerson : Meta := (y_M_isPerson, prog_8_method_25_code, 2, (some .boolean), 6, 1, 1, k_M_isPerson)
abbrev t_M_rocks : Meta := (y_M_rocks, prog_8_method_26_code, 4, (some .long), 6, 1, 0, k_M_rocks)
abbrev t_M_isRock : Meta := (y_M_isRock, prog_8_method_27_code, 2, (some .boolean), 6, 1, 1, k_M_isRock)
abbrev t_M_beside : Meta := (y_M_beside, prog_8_method_28_code, 5, (some .int), 6, 1, 2, k_M_beside)
abbrev t_M_shape : Meta := (y_M_shape, prog_8_method_29_code, 9, (some .long), 6, 1, 2, k_M_shape)
abbrev t_M_dented : Meta := (y_M_dented, prog_8_method_30_code, 6, (some .long), 6, 1, 2, k_M_dented)
abbrev t_M_mayLie : Meta := (y_M_mayLie, prog_8_method_31_code, 6, (some .boolean), 6, 1, 3, k_M_mayLie)
abbrev t_M_dents : Meta := (y_M_dents, prog_8_method_32_code, 6, none, 6, 1, 3, k_M_dents)
abbrev t_M_group : Meta := (y_M_group, prog_8_method_33_code, 11, (some .long), 6, 1, 2, k_M_group)
abbrev t_M_lowest : Meta := (y_M_lowest, prog_8_method_34_code, 3, (some .int), 6, 0, 1, k_M_lowest)
abbrev t_M_counted : Meta := (y_M_counted, prog_8_method_35_code, 1, (some .int), 6, 0, 1, k_M_counted)
abbrev t_M_countOn : Meta := (y_M_countOn, prog_8_method_36_code, 7, (some .int), 6, 1, 1, k_M_countOn)
abbrev t_M_groups : Meta := (y_M_groups, prog_8_method_37_code, 11, (some .int), 6, 1, 1, k_M_groups)
abbrev t_M_isShape : Meta := (y_M_isShape, prog_8_method_38_code, 6, (some .boolean), 6, 1, 1, k_M_isShape)
abbrev t_M_isLying : Meta := (y_M_isLying, prog_8_method_39_code, 2, (some .boolean), 6, 1, 1, k_M_isLying)
abbrev t_M_whoLies : Meta := (y_M_whoLies, prog_8_method_40_code, 3, (some .int), 6, 1, 0, k_M_whoLies)
abbrev t_M_truly : Meta := (y_M_truly, prog_8_method_41_code, 3, (some .int), 6, 1, 0, k_M_truly)
abbrev t_M_steps : Meta := (y_M_steps, prog_8_method_42_code, 5, (some .int), 6, 1, 2, k_M_steps)
abbrev t_M_farOut : Meta := (y_M_farOut, prog_8_method_43_code, 6, (some .int), 6, 1, 0, k_M_farOut)
abbrev t_M_layAside : Meta := (y_M_layAside, prog_8_method_44_code, 1, none, 6, 1, 0, k_M_layAside)
abbrev t_M_bare : Meta := (y_M_bare, prog_8_method_45_code, 2, (some .int), 6, 1, 0, k_M_bare)
abbrev t_M_told : Meta := (y_M_told, prog_8_method_46_code, 2, (some .int), 6, 1, 1, k_M_told)
abbrev t_M_whoIsAt : Meta := (y_M_whoIsAt, prog_8_method_47_code, 3, (some .int), 6, 1, 1, k_M_whoIsAt)
abbrev t_M_cell : Meta := (y_M_cell, prog_8_method_48_code, 3, (some .int), 6, 1, 2, k_M_cell)
abbrev t_M_shapeOf : Meta := (y_M_shapeOf, prog_8_method_49_code, 2, (some .long), 6, 1, 1, k_M_shapeOf)
abbrev t_M_person : Meta := (y_M_person, prog_8_method_50_code, 3, (some .int), 6, 1, 2, k_M_person)
abbrev t_M_remember : Meta := (y_M_remember, prog_8_method_51_code, 2, none, 6, 1, 0, k_M_remember)
abbrev t_M_lies : Meta := (y_M_lies, prog_8_method_52_code, 4, none, 6, 1, 3, k_M_lies)
abbrev t_M_lie : Meta := (y_M_lie, prog_8_method_53_code, 3, (some .int), 6, 1, 2, k_M_lie)
abbrev t_M_rise : Meta := (y_M_rise, prog_8_method_54_code, 3, (some .int), 6, 1, 1, k_M_rise)
abbrev t_M_nightGoes : Meta := (y_M_nightGoes, prog_8_method_55_code, 7, none, 6, 1, 1, k_M_nightGoes)
abbrev t_M_refuses : Meta := (y_M_refuses, prog_8_method_56_code, 2, (some .int), 6, 1, 1, k_M_refuses)
abbrev t_M_night : Meta := (y_M_night, prog_8_method_57_code, 4, (some .int), 6, 1, 1, k_M_night)
abbrev t_M_thaw : Meta := (y_M_thaw, prog_8_method_58_code, 2, (some .int), 6, 1, 0, k_M_thaw)
abbrev t_M_snows : Meta := (y_M_snows, prog_8_method_59_code, 2, none, 6, 1, 0, k_M_snows)
abbrev t_M_snow : Meta := (y_M_snow, prog_8_method_60_code, 1, (some .int), 6, 1, 0, k_M_snow)
abbrev t_M_runs : Meta := (y_M_runs, prog_8_method_61_code, 2, none, 6, 1, 1, k_M_runs)
abbrev t_M_hare : Meta := (y_M_hare, prog_8_method_62_code, 2, (some .int), 6, 1, 1, k_M_hare)
abbrev t_M_pin : Meta := (y_M_pin, prog_8_method_63_code, 3, (some .int), 6, 1, 1, k_M_pin)
abbrev t_M_wind : Meta := (y_M_wind, prog_8_method_64_code, 3, (some .int), 6, 1, 1, k_M_wind)
abbrev t_M_draw : Meta := (y_M_draw, prog_8_method_65_code, 2, (some .int), 6, 1, 1, k_M_draw)
abbrev t_M_draws : Meta := (y_M_draws, prog_8_method_66_code, 4, none, 6, 1, 0, k_M_draws)
abbrev t_M_drift : Meta := (y_M_drift, prog_8_method_67_code, 4, (some .int), 6, 1, 1, k_M_drift)
abbrev t_M_undo : Meta := (y_M_undo, prog_8_method_68_code, 2, (some .int), 6, 1, 1, k_M_undo)
abbrev t_M_left : Meta := (y_M_left, prog_8_method_69_code, 4, (some .int), 6, 1, 2, k_M_left)
abbrev t_M_willCount : Meta := (y_M_willCount, prog_8_method_70_code, 3, (some .int), 6, 1, 1, k_M_willCount)
abbrev t_M_wrongFirst : Meta := (y_M_wrongFirst, prog_8_method_71_code, 3, (some .int), 6, 1, 0, k_M_wrongFirst)
abbrev t_M_canLie : Meta := (y_M_canLie, prog_8_method_72_code, 11, (some .int), 6, 1, 2, k_M_canLie)
abbrev t_M_nextOrder : Meta := (y_M_nextOrder, prog_8_method_73_code, 7, (some .boolean), 6, 1, 1, k_M_nextOrder)
abbrev t_M_round : Meta := (y_M_round, prog_8_method_74_code, 12, (some .int), 6, 1, 3, k_M_round)
abbrev t_M_isBy : Meta := (y_M_isBy, prog_8_method_75_code, 9, (some .boolean), 6, 1, 2, k_M_isBy)
abbrev t_M_touch : Meta := (y_M_touch, prog_8_method_76_code, 6, (some .int), 6, 1, 1, k_M_touch)
abbrev t_M_still : Meta := (y_M_still, prog_8_method_77_code, 6, (some .int), 6, 1, 2, k_M_still)
abbrev t_M_find : Meta := (y_M_find, prog_8_method_78_code, 3, (some .int), 6, 1, 2, k_M_find)
abbrev t_M_isSo : Meta := (y_M_isSo, prog_8_method_79_code, 7, (some .boolean), 6, 1, 2, k_M_isSo)
abbrev t_M_fits : Meta := (y_M_fits, prog_8_method_80_code, 7, (some .int), 6, 1, 1, k_M_fits)
abbrev t_M_look : Meta := (y_M_look, prog_8_method_81_code, 8, (some .int), 6, 1, 0, k_M_look)
abbrev t_M_write : Meta := (y_M_write, prog_8_method_82_code, 2, (some .int), 6, 1, 1, k_M_write)
abbrev t_M_judge : Meta := (y_M_judge, prog_8_method_83_code, 3, (some .int), 6, 1, 0, k_M_judge)
abbrev t_M_tear : Meta := (y_M_tear, prog_8_method_84_code, 2, (some .int), 6, 1, 0, k_M_tear)
abbrev t_M_seed : Meta := (y_M_seed, prog_8_method_85_code, 3, (some .int), 6, 1, 1, k_M_seed)
abbrev t_M_keep : Meta := (y_M_keep, prog_8_method_86_code, 2, (some .int), 6, 1, 1, k_M_keep)
abbrev t_M_goBack : Meta := (y_M_goBack, prog_8_method_87_code, 2, (some .int), 6, 1, 1, k_M_goBack)
abbrev t_JI_bitCount : Meta := (y_JI_bitCount, prog_9_method_49_code, 1, (some .int), 8, 0, 1, k_JI_bitCount)
abbrev t_JL_bitCount : Meta := (y_JL_bitCount, prog_10_method_50_code, 2, (some .int), 9, 0, 1, k_JL_bitCount)
abbrev t_JA_fillL : Meta := (y_JA_fillL, prog_13_method_101_code, 5, none, 11, 0, 2, k_JA_fillL)
abbrev t_JA_fill : Meta := (y_JA_fill, prog_13_method_103_code, 4, none, 11, 0, 2, k_JA_fill)
abbrev t_W_law : Meta := (y_W_law, code, 4, (some .boolean), 7, 1, 1, k_W_law)
def mt_0 : List Meta := [t_F_init, t_F_begin, t_F_become, t_F_dented, t_F_seen, t_F_dentedFrom, t_F_press, t_F_passNight, t_F_melt, t_F_snowOver, t_F_cross, t_F_roll, t_L_init, t_L_clear, t_L_measure, t_L_cells]
def mt_1 : List Meta := [t_L_isRock, t_L_row, t_L_moved, t_L_grown, t_L_steps, t_L_shape, t_L_drawShapes, t_L_drawnShape, t_L_groupOf, t_L_firstGroup, t_L_groupsIn, t_L_countOf, t_L_countedAs, t_L_greatestIn, t_L_forgedIn, t_L_isShape]
def mt_2 : List Meta := [t_N_init, t_N_empty, t_N_addFound, t_N_agreesWith, t_N_addEntry, t_N_firstOtherThan, t_R_init, t_R_add, t_R_readInto, t_R_complain, t_R_skipBlanks, t_R_atFigure, t_R_readClause, t_R_readEnd, t_R_readNumber, t_R_readSides]
def mt_3 : List Meta := [t_R_readPerson, t_R_readWind, t_R_readRock, t_R_addRock, t_S_init, t_S_put, t_S_take, t_C_init, t_C_feed, t_C_north, t_C_fault, t_C_told, t_C_cell, t_C_person, t_C_lie, t_C_rise]
def mt_4 : List Meta := [t_C_night, t_C_thaw, t_C_snow, t_C_hare, t_C_pin, t_C_wind, t_C_drift, t_C_undo, t_C_left, t_C_willCount, t_C_wrongFirst, t_C_canLie, t_C_round, t_C_touch, t_C_still, t_C_find]
def mt_5 : List Meta := [t_C_fits, t_C_look, t_C_write, t_C_judge, t_C_tear, t_C_seed, t_C_keep, t_C_goBack, t_C_has, t_C_leastOf, t_C_hasNorth, t_C_isCell, t_C_isPerson, t_C_isImage, t_C_everybody, t_C_whoLies]
def mt_6 : List Meta := [t_C_whoIsAt, t_C_shapeLeftBy, t_C_countNow, t_C_truth, t_C_farOut, t_C_stepsToNearest, t_C_refusalOfNights, t_C_layDown, t_C_remember, t_C_placeOfDeed, t_C_forgetDeeds, t_C_draw, t_C_happenByDraw, t_C_lieByDraw, t_C_hareByDraw, t_C_canTry]
def mt_7 : List Meta := [t_C_tryNights, t_C_bare, t_C_roomFor, t_C_bestRoomFor, t_C_shortestRound, t_C_tenToThe, t_C_fitsFound, t_C_howManyFit, t_C_howManyOfKindFit, t_C_tallyFits, t_C_tallyCells, t_C_leastFit, t_C_kindsThatFit, t_M_init, t_M_in, t_M_has]
def mt_8 : List Meta := [t_M_holds, t_M_bits, t_M_lesser, t_M_greater, t_M_copies, t_M_begins, t_M_feed, t_M_here, t_M_step, t_M_fails, t_M_number, t_M_ends, t_M_readsPerson, t_M_readsWind, t_M_readsRock, t_M_readsClause]
def mt_9 : List Meta := [t_M_north, t_M_fault, t_M_cells, t_M_isCell, t_M_isPerson, t_M_rocks, t_M_isRock, t_M_beside, t_M_shape, t_M_dented, t_M_mayLie, t_M_dents, t_M_group, t_M_lowest, t_M_counted, t_M_countOn]
def mt_10 : List Meta := [t_M_groups, t_M_isShape, t_M_isLying, t_M_whoLies, t_M_truly, t_M_steps, t_M_farOut, t_M_layAside, t_M_bare, t_M_told, t_M_whoIsAt, t_M_cell, t_M_shapeOf, t_M_person, t_M_remember, t_M_lies]
def mt_11 : List Meta := [t_M_lie, t_M_rise, t_M_nightGoes, t_M_refuses, t_M_night, t_M_thaw, t_M_snows, t_M_snow, t_M_runs, t_M_hare, t_M_pin, t_M_wind, t_M_draw, t_M_draws, t_M_drift, t_M_undo]
def mt_12 : List Meta := [t_M_left, t_M_willCount, t_M_wrongFirst, t_M_canLie, t_M_nextOrder, t_M_round, t_M_isBy, t_M_touch, t_M_still, t_M_find, t_M_isSo, t_M_fits, t_M_look, t_M_write, t_M_judge, t_M_tear]
def mt_13 : List Meta := [t_M_seed, t_M_keep, t_M_goBack, t_JI_bitCount, t_JL_bitCount, t_JA_fillL, t_JA_fill, t_W_law]
def mts : List (List Meta) := [mt_0, mt_1, mt_2, mt_3, mt_4, mt_5, mt_6, mt_7, mt_8, mt_9, mt_10, mt_11, mt_12, mt_13]
end
section
/-! the methods by their numbers -/
def gC : List (Nat × Ent) → Nat → Option Ent
  | [], _ => none
  | (j, e) :: r, i => bif Nat.beq j i then some e else gC r i
def mt (M : Nat) : Option Meta := (mts.getD (M / 16) [])[M % 16]?
def cMt (pc : Nat) : Option Meta → Option Ent
  | some (_, _, _, _, _, _, _, k) => gC k pc
  | none => none
def cAt (M pc : Nat) : Option Ent := cMt pc (mt M)
end
section
/-! the links, and that the tables have them -/
def FT (o : Nat) : List (Nat × Nat × Nat × Nat) := match o with
  | 0 => [(55, 1, 4, 1), (45, 1, 7, 1), (9, 0, 0, 0), (15, 0, 1, 0), (24, 0, 2, 0), (28, 0, 3, 0)]
  | 1 => [(19, 1, 0, 0), (23, 1, 1, 0), (26, 1, 2, 0), (29, 1, 3, 0), (32, 1, 4, 0), (36, 1, 5, 0), (39, 1, 6, 0), (42, 1, 7, 0), (9, 1, 8, 0), (15, 1, 9, 0)]
  | 2 => [(9, 2, 0, 0), (15, 2, 1, 0), (19, 2, 2, 0), (22, 2, 3, 0), (26, 2, 4, 0)]
  | 3 => [(9, 3, 0, 0), (19, 3, 1, 0), (23, 3, 2, 0), (15, 3, 3, 0), (26, 3, 4, 0), (70, 3, 5, 0), (29, 3, 6, 0), (48, 1, 0, 1), (103, 1, 1, 1), (84, 1, 2, 1), (90, 1, 3, 1), (93, 1, 7, 1), (87, 1, 8, 1)]
  | 4 => [(25, 0, 0, 1), (36, 0, 1, 1), (39, 0, 2, 1), (42, 0, 3, 1), (15, 4, 0, 0), (21, 4, 1, 0)]
  | 5 => [(113, 3, 1, 1), (75, 3, 2, 1), (94, 3, 3, 1), (97, 1, 0, 1), (100, 1, 1, 1), (91, 1, 2, 1), (79, 1, 3, 1), (103, 1, 7, 1), (181, 1, 8, 1), (165, 0, 0, 1), (184, 0, 1, 1), (119, 0, 2, 1), (116, 0, 3, 1), (151, 2, 3, 1), (154, 2, 4, 1), (10, 5, 0, 0), (19, 5, 1, 0), (23, 5, 2, 0), (29, 5, 3, 0), (33, 5, 4, 0), (41, 5, 5, 0), (341, 5, 6, 0), (157, 5, 7, 0), (45, 5, 8, 0), (48, 5, 9, 0), (52, 5, 10, 0), (59, 5, 11, 0), (63, 5, 12, 0), (319, 5, 13, 0)]
  | 6 => [(7, 6, 0, 0), (13, 6, 1, 0), (16, 6, 2, 0), (19, 6, 3, 0), (22, 6, 4, 0), (25, 6, 5, 0), (62, 6, 6, 0), (28, 6, 7, 0), (31, 6, 8, 0), (265, 6, 9, 0), (35, 6, 10, 0), (74, 6, 11, 0), (38, 6, 12, 0), (42, 6, 13, 0), (65, 6, 14, 0), (45, 6, 15, 0), (68, 6, 16, 0), (78, 6, 17, 0), (85, 6, 18, 0), (88, 6, 19, 0), (91, 6, 20, 0), (94, 6, 21, 0), (101, 6, 22, 0), (48, 6, 23, 0)]
  | _ => []
def XT (o : Nat) : List (Nat × Nat × Nat) := match o with
  | 0 => [(18, 214, 0), (37, 5, 0), (51, 3, 0), (58, 18, 1), (41, 88, 1)]
  | 1 => [(45, 213, 0), (67, 15, 0), (71, 23, 0), (57, 18, 0), (86, 25, 0), (82, 24, 0), (78, 19, 0), (89, 212, 0), (95, 28, 0), (98, 89, 1), (101, 31, 0), (51, 88, 1)]
  | 2 => [(30, 88, 1)]
  | 3 => [(33, 13, 1), (38, 42, 0), (41, 44, 0), (51, 41, 0), (55, 47, 0), (77, 46, 0), (73, 43, 0), (81, 14, 1), (58, 48, 0), (61, 49, 0), (64, 50, 0), (97, 212, 0), (106, 51, 0), (67, 45, 0), (45, 22, 1)]
  | 5 => [(9, 38, 1), (18, 12, 1), (28, 0, 1), (38, 52, 1), (58, 32, 1), (67, 39, 1), (71, 40, 1), (82, 1, 1), (85, 33, 1), (88, 106, 0), (107, 212, 0), (122, 95, 0), (126, 98, 0), (132, 4, 1), (254, 27, 1), (129, 99, 0), (136, 26, 1), (139, 29, 1), (142, 30, 1), (145, 100, 0), (328, 101, 0), (331, 20, 1), (148, 113, 0), (257, 2, 1), (356, 3, 1), (213, 7, 1), (160, 91, 0), (305, 15, 1), (168, 16, 1), (171, 24, 1), (175, 96, 0), (178, 92, 0), (187, 97, 0), (206, 21, 1), (191, 114, 0), (194, 88, 0), (199, 104, 0), (241, 105, 0), (325, 53, 1), (202, 103, 0), (338, 6, 1), (210, 102, 0), (216, 90, 0), (220, 8, 1), (223, 9, 1), (226, 10, 1), (229, 17, 1), (234, 11, 1), (238, 108, 0), (347, 107, 0), (350, 109, 0), (353, 110, 0), (244, 54, 1), (248, 111, 0), (251, 112, 0), (261, 89, 0), (264, 115, 0), (268, 94, 0), (271, 211, 0), (275, 116, 0), (359, 117, 0), (281, 19, 1), (289, 34, 1), (293, 119, 0), (370, 120, 0), (373, 118, 0), (366, 35, 1), (296, 123, 0), (299, 124, 0), (302, 121, 0), (377, 214, 0), (383, 122, 0), (313, 36, 1), (316, 37, 1), (322, 93, 0)]
  | 6 => [(51, 133, 0), (58, 126, 0), (104, 136, 0), (81, 135, 0), (128, 143, 0), (107, 137, 0), (111, 138, 0), (115, 139, 0), (119, 140, 0), (122, 141, 0), (125, 142, 0), (131, 132, 0), (199, 163, 0), (182, 162, 0), (202, 159, 0), (154, 153, 0), (135, 146, 0), (158, 157, 0), (142, 128, 0), (162, 156, 0), (146, 151, 0), (166, 129, 0), (169, 158, 0), (206, 164, 0), (209, 160, 0), (175, 131, 0), (178, 161, 0), (150, 152, 0), (212, 166, 0), (186, 165, 0), (189, 130, 0), (215, 168, 0), (192, 167, 0), (195, 178, 0), (138, 149, 0), (218, 147, 0), (222, 150, 0), (225, 170, 0), (228, 148, 0), (231, 172, 0), (239, 154, 0), (244, 174, 0), (247, 175, 0), (235, 155, 0), (253, 179, 0), (256, 182, 0), (259, 184, 0), (280, 189, 0), (277, 188, 0), (287, 127, 0), (293, 196, 0), (296, 198, 0), (308, 202, 0), (311, 203, 0)]
  | 7 => [(9, 55, 0), (13, 56, 0), (18, 57, 0), (23, 58, 0), (27, 59, 0), (31, 60, 0), (36, 61, 0), (40, 62, 0), (44, 63, 0), (48, 64, 0), (52, 65, 0), (56, 66, 0), (60, 67, 0), (64, 68, 0), (68, 69, 0), (72, 70, 0), (76, 71, 0), (80, 72, 0), (84, 73, 0), (88, 74, 0), (92, 75, 0), (96, 76, 0), (101, 77, 0), (105, 78, 0), (109, 79, 0), (114, 80, 0), (118, 81, 0), (122, 82, 0), (126, 83, 0), (130, 84, 0), (134, 85, 0), (138, 86, 0), (142, 87, 0), (12, 125, 0), (17, 134, 0), (22, 144, 0), (26, 145, 0), (30, 169, 0), (35, 171, 0), (39, 173, 0), (43, 176, 0), (47, 177, 0), (51, 180, 0), (55, 181, 0), (59, 183, 0), (63, 185, 0), (67, 186, 0), (71, 187, 0), (75, 190, 0), (79, 191, 0), (83, 192, 0), (87, 193, 0), (91, 194, 0), (95, 195, 0), (100, 197, 0), (104, 199, 0), (108, 200, 0), (113, 201, 0), (117, 203, 0), (121, 204, 0), (125, 205, 0), (129, 206, 0), (133, 207, 0), (137, 208, 0), (141, 209, 0), (145, 210, 0)]
  | _ => []
def KI (o : Nat) : List (Nat × Int32) := match o with
  | 2 => [(29, (-1000000004))]
  | 3 => [(22, (-1000000004))]
  | 5 => [(66, (-1000000002)), (164, (-1000000001)), (198, (-1000000003)), (337, (-1000000004)), (344, 1103515245), (345, 2147483647), (346, 65536)]
  | 6 => [(73, (-1000000002)), (77, (-1000000004)), (185, 100000000), (221, (-1000000001)), (243, (-1000000003))]
  | 8 => [(265, 1431655765), (266, 858993459), (267, 252645135)]
  | _ => []
def KL (o : Nat) : List (Nat × Int64) := match o with
  | 1 => [(55, (-1))]
  | 5 => [(232, (-1)), (364, 10), (279, 1000000), (285, 1000000000), (287, 100)]
  | 6 => [(54, 49), (56, 55), (71, 255), (97, 48), (99, 57), (173, (-1)), (251, 20), (263, 4), (269, 1103515245), (271, 12345), (273, 2147483648), (275, 65536), (283, 30), (285, 3), (291, 5), (300, 60), (302, 100), (304, 1000000000), (306, 2), (314, 99)]
  | 9 => [(314, 6148914691236517205), (316, 3689348814741910323), (318, 1085102592571150095)]
  | _ => []
def CT (o : Nat) : List (Nat × Nat) := match o with
  | 5 => [(7, 3), (16, 1), (26, 0), (36, 4), (56, 2)]
  | 7 => [(7, 5), (10, 6)]
  | _ => []
def OB (o : Nat) : List Nat := match o with
  | 0 => [3]
  | 1 => [3]
  | 2 => [3]
  | 3 => [3]
  | 4 => [3]
  | 5 => [1]
  | 6 => [1]
  | _ => []
def AC (o : Nat) : List (Nat × Nat) := match o with
  | 0 => [(31, 998), (62, 990), (68, 991)]
  | 1 => [(61, 992)]
  | 4 => [(9, 990), (30, 998)]
  | 5 => [(334, 991), (362, 993), (308, 990)]
  | _ => []
def clR (ci : Nat) : String := match ci with
  | 0 => RX0
  | 1 => RX1
  | 2 => RX2
  | 3 => RX3
  | 4 => RX4
  | 5 => RX5
  | _ => RX6
def clT (ci : Nat) : u_T := match ci with
  | 0 => TX0
  | 1 => TX1
  | 2 => TX2
  | 3 => TX3
  | 4 => TX4
  | 5 => TX5
  | _ => TX6
def yOf (M : Nat) : MethodName := match mt M with
  | some (y, _) => y
  | none => objectInit
def fW (o : Nat) (q : Nat × Nat × Nat × Nat) : Cond := bif Nat.beq q.2.2.2 0 then .fieldLink (own o) q.1 (clR q.2.1) (clT q.2.1 q.2.2.1).2.1 (clT q.2.1 q.2.2.1).2.2.1 else .fieldLinkNest (own o) q.1 (clR q.2.1) (clT q.2.1 q.2.2.1).2.1 (clT q.2.1 q.2.2.1).2.2.1 "WingCensus"
def xW (o : Nat) (q : Nat × Nat × Nat) : Cond := bif Nat.beq q.2.2 0 then .methodLink (own o) q.1 (yOf q.2.1) else .methodLinkNest (own o) q.1 (yOf q.2.1) "WingCensus"
def kW (o : Nat) (q : Nat × Int32) : Cond := .constant (own o) q.1 q.2
def kWL (o : Nat) (q : Nat × Int64) : Cond := .constantLong (own o) q.1 q.2
def cWd (o : Nat) (q : Nat × Nat) : Cond := .classLink (own o) q.1 (clR q.2)
def oW (o : Nat) (i : Nat) : Cond := .methodLink (own o) i objectInit
def spY (a : Nat) : MethodName := match a with
  | 990 => Lib.Math.max.name
  | 991 => Lib.Math.min.name
  | 992 => Lib.Math.abs.name
  | 993 => Lib.MathLoose.min_long.x
  | _ => arraycopyName
def aW (o : Nat) (i : Nat × Nat) : Cond := .methodLink (own o) i.1 (spY i.2)
theorem mem_tb {α : Type} {l : List α} {f : α → Cond} {ps : List Nat} (h : l.map f = ps.filterMap (fun i => lw_tbl[i]?)) : ∀ q ∈ l, f q ∈ lw_tbl := by
  intro q hq
  have h1 : f q ∈ l.map f := List.mem_map.mpr ⟨q, hq, rfl⟩
  rw [h] at h1
  obtain ⟨i, -, hi⟩ := List.mem_filterMap.mp h1
  exact List.mem_of_getElem? hi
theorem FT_ok_0 : ∀ q ∈ FT 0, fW 0 q ∈ lw_tbl := mem_tb (ps := [200, 205, 242, 245, 248, 251]) (by decide +kernel)
theorem FT_ok_1 : ∀ q ∈ FT 1, fW 1 q ∈ lw_tbl := mem_tb (ps := [187, 190, 193, 196, 199, 201, 202, 203, 207, 210]) (by decide +kernel)
theorem FT_ok_2 : ∀ q ∈ FT 2, fW 2 q ∈ lw_tbl := mem_tb (ps := [285, 286, 287, 288, 290]) (by decide +kernel)
theorem FT_ok_3 : ∀ q ∈ FT 3, fW 3 q ∈ lw_tbl := mem_tb (ps := [155, 156, 158, 160, 162, 163, 164, 189, 192, 195, 198, 206, 209]) (by decide +kernel)
theorem FT_ok_4 : ∀ q ∈ FT 4, fW 4 q ∈ lw_tbl := mem_tb (ps := [243, 246, 249, 252, 272, 273]) (by decide +kernel)
theorem FT_ok_5 : ∀ q ∈ FT 5, fW 5 q ∈ lw_tbl := mem_tb (ps := [157, 159, 161, 188, 191, 194, 197, 204, 208, 244, 247, 250, 253, 289, 291, 304, 305, 306, 307, 308, 309, 310, 311, 312, 313, 314, 315, 316, 317]) (by decide +kernel)
theorem FT_ok_6 : ∀ q ∈ FT 6, fW 6 q ∈ lw_tbl := mem_tb (ps := [895, 896, 897, 898, 899, 900, 901, 902, 903, 904, 905, 906, 907, 908, 909, 910, 911, 912, 913, 914, 915, 916, 917, 918]) (by decide +kernel)
theorem FT_ok (o : Nat) : ∀ q ∈ FT o, fW o q ∈ lw_tbl := match o with
  | 0 => FT_ok_0
  | 1 => FT_ok_1
  | 2 => FT_ok_2
  | 3 => FT_ok_3
  | 4 => FT_ok_4
  | 5 => FT_ok_5
  | 6 => FT_ok_6
  | 7 => fun q h => by cases h
  | 8 => fun q h => by cases h
  | 9 => fun q h => by cases h
  | 10 => fun q h => by cases h
  | 11 => fun q h => by cases h
  | n + 12 => fun q h => by cases h
theorem XT_ok_0 : ∀ q ∈ XT 0, xW 0 q ∈ lw_tbl := mem_tb (ps := [239, 478, 563, 564, 565]) (by decide +kernel)
theorem XT_ok_1 : ∀ q ∈ XT 1, xW 1 q ∈ lw_tbl := mem_tb (ps := [369, 430, 434, 440, 486, 490, 494, 498, 499, 515, 522, 583]) (by decide +kernel)
theorem XT_ok_2 : ∀ q ∈ XT 2, xW 2 q ∈ lw_tbl := mem_tb (ps := [821]) (by decide +kernel)
theorem XT_ok_3 : ∀ q ∈ XT 3, xW 3 q ∈ lw_tbl := mem_tb (ps := [365, 372, 376, 380, 384, 388, 392, 396, 400, 404, 408, 412, 418, 422, 426]) (by decide +kernel)
theorem XT_ok_5 : ∀ q ∈ XT 5, xW 5 q ∈ lw_tbl := mem_tb (ps := [151, 183, 235, 265, 281, 352, 361, 445, 449, 453, 465, 466, 470, 474, 482, 503, 507, 511, 518, 526, 530, 534, 544, 548, 555, 559, 573, 577, 579, 584, 585, 593, 597, 601, 609, 613, 615, 619, 623, 628, 632, 644, 648, 657, 665, 673, 682, 687, 699, 703, 710, 714, 722, 730, 734, 750, 751, 759, 763, 769, 773, 785, 796, 805, 809, 813, 817, 822, 826, 834, 838, 839, 848, 856, 872]) (by decide +kernel)
theorem XT_ok_6 : ∀ q ∈ XT 6, xW 6 q ∈ lw_tbl := mem_tb (ps := [886, 892, 979, 983, 989, 993, 997, 1001, 1005, 1009, 1013, 1017, 1028, 1032, 1036, 1040, 1044, 1048, 1051, 1054, 1058, 1062, 1065, 1069, 1073, 1077, 1080, 1084, 1088, 1093, 1097, 1100, 1104, 1108, 1112, 1120, 1125, 1129, 1137, 1141, 1149, 1154, 1158, 1162, 1174, 1187, 1195, 1212, 1216, 1250, 1254, 1262, 1282, 1290]) (by decide +kernel)
theorem XT_ok_7 : ∀ q ∈ XT 7, xW 7 q ∈ lw_tbl := mem_tb (ps := [143, 347, 357, 457, 461, 569, 589, 605, 636, 640, 653, 661, 669, 678, 691, 695, 718, 726, 738, 742, 746, 755, 781, 786, 792, 801, 830, 844, 852, 860, 864, 868, 876, 882, 968, 975, 1020, 1024, 1116, 1133, 1145, 1166, 1170, 1179, 1183, 1191, 1199, 1203, 1208, 1224, 1229, 1233, 1237, 1241, 1246, 1258, 1266, 1273, 1277, 1286, 1291, 1296, 1300, 1304, 1308, 1312]) (by decide +kernel)
theorem XT_ok (o : Nat) : ∀ q ∈ XT o, xW o q ∈ lw_tbl := match o with
  | 0 => XT_ok_0
  | 1 => XT_ok_1
  | 2 => XT_ok_2
  | 3 => XT_ok_3
  | 5 => XT_ok_5
  | 6 => XT_ok_6
  | 7 => XT_ok_7
  | 4 => fun q h => by cases h
  | 8 => fun q h => by cases h
  | 9 => fun q h => by cases h
  | 10 => fun q h => by cases h
  | 11 => fun q h => by cases h
  | n + 12 => fun q h => by cases h
theorem KI_ok_2 : ∀ q ∈ KI 2, kW 2 q ∈ lw_tbl := mem_tb (ps := [800]) (by decide +kernel)
theorem KI_ok_3 : ∀ q ∈ KI 3, kW 3 q ∈ lw_tbl := mem_tb (ps := [356]) (by decide +kernel)
theorem KI_ok_5 : ∀ q ∈ KI 5, kW 5 q ∈ lw_tbl := mem_tb (ps := [351, 578, 614, 652, 707, 708, 709]) (by decide +kernel)
theorem KI_ok_6 : ∀ q ∈ KI 6, kW 6 q ∈ lw_tbl := mem_tb (ps := [973, 974, 1092, 1124, 1153]) (by decide +kernel)
theorem KI_ok_8 : ∀ q ∈ KI 8, kW 8 q ∈ lw_tbl := mem_tb (ps := [766, 767, 768]) (by decide +kernel)
theorem KI_ok (o : Nat) : ∀ q ∈ KI o, kW o q ∈ lw_tbl := match o with
  | 2 => KI_ok_2
  | 3 => KI_ok_3
  | 5 => KI_ok_5
  | 6 => KI_ok_6
  | 8 => KI_ok_8
  | 0 => fun q h => by cases h
  | 1 => fun q h => by cases h
  | 4 => fun q h => by cases h
  | 7 => fun q h => by cases h
  | 9 => fun q h => by cases h
  | 10 => fun q h => by cases h
  | 11 => fun q h => by cases h
  | n + 12 => fun q h => by cases h
theorem KL_ok_1 : ∀ q ∈ KL 1, kWL 1 q ∈ lw_tbl := mem_tb (ps := [444]) (by decide +kernel)
theorem KL_ok_5 : ∀ q ∈ KL 5, kWL 5 q ∈ lw_tbl := mem_tb (ps := [686, 776, 777, 790, 791]) (by decide +kernel)
theorem KL_ok_6 : ∀ q ∈ KL 6, kWL 6 q ∈ lw_tbl := mem_tb (ps := [890, 891, 972, 987, 988, 1068, 1178, 1207, 1220, 1221, 1222, 1223, 1228, 1245, 1253, 1270, 1271, 1272, 1281, 1295]) (by decide +kernel)
theorem KL_ok_9 : ∀ q ∈ KL 9, kWL 9 q ∈ lw_tbl := mem_tb (ps := [415, 416, 417]) (by decide +kernel)
theorem KL_ok (o : Nat) : ∀ q ∈ KL o, kWL o q ∈ lw_tbl := match o with
  | 1 => KL_ok_1
  | 5 => KL_ok_5
  | 6 => KL_ok_6
  | 9 => KL_ok_9
  | 0 => fun q h => by cases h
  | 2 => fun q h => by cases h
  | 3 => fun q h => by cases h
  | 4 => fun q h => by cases h
  | 7 => fun q h => by cases h
  | 8 => fun q h => by cases h
  | 10 => fun q h => by cases h
  | 11 => fun q h => by cases h
  | n + 12 => fun q h => by cases h
theorem CT_ok_5 : ∀ q ∈ CT 5, cWd 5 q ∈ lw_tbl := mem_tb (ps := [149, 181, 233, 263, 279]) (by decide +kernel)
theorem CT_ok_7 : ∀ q ∈ CT 7, cWd 7 q ∈ lw_tbl := mem_tb (ps := [141, 880]) (by decide +kernel)
theorem CT_ok (o : Nat) : ∀ q ∈ CT o, cWd o q ∈ lw_tbl := match o with
  | 5 => CT_ok_5
  | 7 => CT_ok_7
  | 0 => fun q h => by cases h
  | 1 => fun q h => by cases h
  | 2 => fun q h => by cases h
  | 3 => fun q h => by cases h
  | 4 => fun q h => by cases h
  | 6 => fun q h => by cases h
  | 8 => fun q h => by cases h
  | 9 => fun q h => by cases h
  | 10 => fun q h => by cases h
  | 11 => fun q h => by cases h
  | n + 12 => fun q h => by cases h
theorem OB_ok_0 : ∀ q ∈ OB 0, oW 0 q ∈ lw_tbl := mem_tb (ps := [238]) (by decide +kernel)
theorem OB_ok_1 : ∀ q ∈ OB 1, oW 1 q ∈ lw_tbl := mem_tb (ps := [186]) (by decide +kernel)
theorem OB_ok_2 : ∀ q ∈ OB 2, oW 2 q ∈ lw_tbl := mem_tb (ps := [284]) (by decide +kernel)
theorem OB_ok_3 : ∀ q ∈ OB 3, oW 3 q ∈ lw_tbl := mem_tb (ps := [154]) (by decide +kernel)
theorem OB_ok_4 : ∀ q ∈ OB 4, oW 4 q ∈ lw_tbl := mem_tb (ps := [268]) (by decide +kernel)
theorem OB_ok_5 : ∀ q ∈ OB 5, oW 5 q ∈ lw_tbl := mem_tb (ps := [146]) (by decide +kernel)
theorem OB_ok_6 : ∀ q ∈ OB 6, oW 6 q ∈ lw_tbl := mem_tb (ps := [885]) (by decide +kernel)
theorem OB_ok (o : Nat) : ∀ q ∈ OB o, oW o q ∈ lw_tbl := match o with
  | 0 => OB_ok_0
  | 1 => OB_ok_1
  | 2 => OB_ok_2
  | 3 => OB_ok_3
  | 4 => OB_ok_4
  | 5 => OB_ok_5
  | 6 => OB_ok_6
  | 7 => fun q h => by cases h
  | 8 => fun q h => by cases h
  | 9 => fun q h => by cases h
  | 10 => fun q h => by cases h
  | 11 => fun q h => by cases h
  | n + 12 => fun q h => by cases h
theorem AC_ok_0 : ∀ q ∈ AC 0, aW 0 q ∈ lw_tbl := mem_tb (ps := [552, 568, 677]) (by decide +kernel)
theorem AC_ok_1 : ∀ q ∈ AC 1, aW 1 q ∈ lw_tbl := mem_tb (ps := [538]) (by decide +kernel)
theorem AC_ok_4 : ∀ q ∈ AC 4, aW 4 q ∈ lw_tbl := mem_tb (ps := [269, 627]) (by decide +kernel)
theorem AC_ok_5 : ∀ q ∈ AC 5, aW 5 q ∈ lw_tbl := mem_tb (ps := [541, 778, 843]) (by decide +kernel)
theorem AC_ok (o : Nat) : ∀ q ∈ AC o, aW o q ∈ lw_tbl := match o with
  | 0 => AC_ok_0
  | 1 => AC_ok_1
  | 4 => AC_ok_4
  | 5 => AC_ok_5
  | 2 => fun q h => by cases h
  | 3 => fun q h => by cases h
  | 6 => fun q h => by cases h
  | 7 => fun q h => by cases h
  | 8 => fun q h => by cases h
  | 9 => fun q h => by cases h
  | 10 => fun q h => by cases h
  | 11 => fun q h => by cases h
  | n + 12 => fun q h => by cases h
theorem w_oi : Cond.instanceMethod objectInit ∈ lw_tbl := by decide +kernel
theorem w_oc : Cond.code objectInit ⟨#[0xb1]⟩ 1 none ∈ lw_tbl := by decide +kernel
theorem w_an : Cond.native arraycopyName ∈ lw_tbl := by decide +kernel
theorem w_as : Cond.static arraycopyName ∈ lw_tbl := by decide +kernel
theorem w_ai : Cond.initialized "java/lang/System" ∈ lw_tbl := by decide +kernel
theorem w_mi : Cond.initialized "java/lang/Math" ∈ lw_tbl := by decide +kernel
theorem w_m0s : Cond.static Lib.Math.max.name ∈ lw_tbl := by decide +kernel
theorem w_m0c : Cond.code Lib.Math.max.name Lib.Math.max.code 2 (some .int) ∈ lw_tbl := by decide +kernel
theorem w_m1s : Cond.static Lib.Math.min.name ∈ lw_tbl := by decide +kernel
theorem w_m1c : Cond.code Lib.Math.min.name Lib.Math.min.code 2 (some .int) ∈ lw_tbl := by decide +kernel
theorem w_m2s : Cond.static Lib.Math.abs.name ∈ lw_tbl := by decide +kernel
theorem w_m2c : Cond.code Lib.Math.abs.name Lib.Math.abs.code 1 (some .int) ∈ lw_tbl := by decide +kernel
theorem w_m3s : Cond.static Lib.MathLoose.min_long.x ∈ lw_tbl := by decide +kernel
theorem w_m3c : Cond.code Lib.MathLoose.min_long.x Lib.MathLoose.min_long.code 4 (some .long) ∈ lw_tbl := by decide +kernel
theorem w_li : Cond.fieldLinkNest "WingCensus$Land" 75 "WingCensus" "LIMBS" "[I" "WingCensus" ∈ lw_tbl := by decide +kernel
theorem w_ls : Cond.laysStatic "WingCensus" "LIMBS" "[I" ∈ lw_tbl := by decide +kernel
theorem w_a0 : Cond.arrayClass .int ∈ lw_tbl := by decide +kernel
theorem w_a1 : Cond.arrayClass .long ∈ lw_tbl := by decide +kernel
theorem w_a2 : Cond.arrayClass .boolean ∈ lw_tbl := by decide +kernel
/-- the words that a called method may count on -/
def gw (w : Cond) : Bool := goodWord w || match w with
  | .fieldLinkNest .. => true
  | .methodLinkNest .. => true
  | _ => false
def wT : List Cond := lw_tbl.filter gw
theorem mem_wT {w : Cond} (h : w ∈ lw_tbl) (hg : gw w = true) : w ∈ wT := List.mem_filter.mpr ⟨h, hg⟩
end
section
/-! each method's table is its bytecode, with links that the tables have -/
def ilen (ins : Instr) : Nat := match ins with
  | .bipush _ => 2
  | .ldc _ => 2
  | .iload _ => 2
  | .lload _ => 2
  | .aload _ => 2
  | .istore _ => 2
  | .lstore _ => 2
  | .astore _ => 2
  | .newarray _ => 2
  | .sipush _ => 3
  | .ldc_w _ => 3
  | .ldc2_w _ => 3
  | .getfield _ => 3
  | .putfield _ => 3
  | .getstatic _ => 3
  | .invokevirtual _ => 3
  | .invokestatic _ => 3
  | .invokespecial _ => 3
  | .new _ => 3
  | .goto _ => 3
  | .ifCond _ _ => 3
  | .if_icmp _ _ => 3
  | .iinc _ _ => 3
  | _ => 1
def isSw (ins : Instr) : Bool := match ins with
  | .tableswitch _ _ _ _ => true
  | .lookupswitch _ _ => true
  | _ => false
def kOk (i : Nat) (v : Value) (l : List (Nat × Int32)) : Bool := match v with
  | .int x => decide ((i, x) ∈ l)
  | _ => false
def kOkL (i : Nat) (v : Value) (l : List (Nat × Int64)) : Bool := match v with
  | .long x => decide ((i, x) ∈ l)
  | _ => false
def cOk (o i a b kind : Nat) (v : Value) : Bool := match mt a with
  | some (_, _, ml, _, o', k', np, _) => Nat.beq k' kind && (Nat.beq b (bif Nat.beq kind 0 then np else np + 1) && ((decide ((i, a, 0) ∈ XT o) || decide ((i, a, 1) ∈ XT o)) && (match v with
    | .retAddr z => Nat.beq (z / 100) ml && (bif Nat.beq kind 1 then Nat.beq (z % 100) o' && Nat.blt o' 7 else true)
    | _ => false)))
  | none => false
def lnk (o maxL : Nat) (rt : Option FieldType) (ini : Bool) (pc : Nat) (ins : Instr) (a b : Nat) (v : Value) : Bool := match ins with
  | .iconst n => decide (v = .int (Int32.ofInt n))
  | .bipush n => decide (v = .int (Int8.ofInt n).toInt32)
  | .sipush n => decide (v = .int (Int16.ofInt n).toInt32)
  | .lconst n => decide (v = .long (Int64.ofNat (n : Nat)))
  | .ldc i => kOk i v (KI o)
  | .ldc_w i => kOk i v (KI o)
  | .ldc2_w i => kOkL i v (KL o)
  | .getstatic i => decide (v = .ref 1001) && (Nat.beq i 75 && Nat.beq o 1)
  | .iload i => Nat.beq a i
  | .iload_n i => Nat.beq a i
  | .lload i => Nat.beq a i
  | .lload_n i => Nat.beq a i
  | .aload i => Nat.beq a i
  | .aload_n i => Nat.beq a i
  | .istore i => Nat.beq a i && Nat.blt i maxL
  | .istore_n i => Nat.beq a i && Nat.blt i maxL
  | .lstore i => Nat.beq a i && Nat.blt (i + 1) maxL
  | .lstore_n i => Nat.beq a i && Nat.blt (i + 1) maxL
  | .astore i => Nat.beq a i && Nat.blt i maxL
  | .astore_n i => Nat.beq a i && Nat.blt i maxL
  | .iinc i n => Nat.beq a i && (Nat.blt i maxL && decide (v = .int (Int32.ofInt n)))
  | .goto off => decide ((pc : Int) + off = (a : Int))
  | .ifCond _ off => decide ((pc : Int) + off = (a : Int))
  | .if_icmp _ off => decide ((pc : Int) + off = (a : Int))
  | .tableswitch d _ _ offs => decide (0 ≤ (pc : Int) + d) && offs.toList.all (fun off => decide (0 ≤ (pc : Int) + off))
  | .lookupswitch d ps => (ps.toList.zip (ps.toList.drop 1)).all (fun (a, next) => a.1 < next.1) && (decide (0 ≤ (pc : Int) + d) && ps.toList.all (fun q => decide (0 ≤ (pc : Int) + q.2)))
  | .getfield i => decide ((i, a, b, 0) ∈ FT o) || decide ((i, a, b, 1) ∈ FT o)
  | .putfield i => bif (clT a b).2.2.2 then decide ((i, a, b, 0) ∈ FT o) && (ini && Nat.beq a o) else (decide ((i, a, b, 0) ∈ FT o) || decide ((i, a, b, 1) ∈ FT o))
  | .newarray t => (match t with
    | .int => Nat.beq a 0
    | .long => Nat.beq a 1
    | .boolean => Nat.beq a 2
    | _ => false)
  | .new i => decide ((i, a) ∈ CT o)
  | .invokevirtual i => cOk o i a b 1 v
  | .invokestatic i => bif Nat.ble 990 a then decide ((i, a) ∈ AC o) else cOk o i a b 0 v
  | .invokespecial i => bif Nat.beq a 999 then decide (i ∈ OB o) else cOk o i a b 2 v
  | .ireturn => decide (rt = some .int ∧ b = 0 ∨ rt = some .boolean ∧ b = 1)
  | .lreturn => decide (rt = some .long)
  | .return_ => decide (rt = none)
  | _ => true
def chkE (o maxL : Nat) (rt : Option FieldType) (ini : Bool) (cc : ByteArray) (q : Nat × Ent) : Bool := match q with
  | (pc, ins, nx, a, b, v) => decide (decode cc pc = .ok (ins, nx - pc)) && ((isSw ins || Nat.beq nx (pc + ilen ins)) && lnk o maxL rt ini pc ins a b v)
def chkH (t : Meta) : Bool := match t with
  | (y, _, ml, _, o, kind, np, _) => plainName y.cls && (decide (y.cls = own o) && (Nat.ble ml 20 && (decide (y.cls ≠ "java/lang/invoke/MethodHandle" ∧ y.cls ≠ "java/lang/invoke/VarHandle") && (decide ((parseMethodDescriptor y.desc).map (fun d => d.parameters.length) = some np) && (Nat.ble kind 2 && (!(Nat.beq kind 2) || decide (y.name = "<init>")))))))
/-- the words on a method as it is called -/
def mW (t : Meta) : List Cond := match t with
  | (y, cc, ml, rt, _, kind, _, _) => .code y cc ml rt :: .initialized y.cls :: (bif Nat.beq kind 0 then [.static y] else bif Nat.beq kind 1 then [.instanceMethod y, .selects y.cls y y] else [.instanceMethod y])
def chkB (t : Meta) : Bool := match t with
  | (y, cc, ml, rt, o, _, _, k) => k.all (chkE o ml rt (decide (y.name = "<init>")) cc)
def okM (t : Meta) : Prop := chkH t = true ∧ chkB t = true ∧ (t.2.2.2.2.1 = 7 ∨ ∀ w ∈ mW t, w ∈ lw_tbl)
theorem mem_ps {l : List Cond} {ps : List Nat} (h : l = ps.filterMap (fun i => lw_tbl[i]?)) : ∀ w ∈ l, w ∈ lw_tbl := by
  intro q hq
  rw [h] at hq
  obtain ⟨i, -, hi⟩ := List.mem_filterMap.mp hq
  exact List.mem_of_getElem? hi
theorem ok_F_init : okM t_F_init := ⟨by decide +kernel, by decide +kernel, Or.inr (mem_ps (ps := [237, 132, 236]) (by decide +kernel))⟩
theorem ok_F_begin : okM t_F_begin := ⟨by decide +kernel, by decide +kernel, Or.inr (mem_ps (ps := [448, 132, 447, 19]) (by decide +kernel))⟩
theorem ok_F_become : okM t_F_become := ⟨by decide +kernel, by decide +kernel, Or.inr (mem_ps (ps := [551, 132, 550, 40]) (by decide +kernel))⟩
theorem ok_F_dented : okM t_F_dented := ⟨by decide +kernel, by decide +kernel, Or.inr (mem_ps (ps := [558, 132, 557, 41]) (by decide +kernel))⟩
theorem ok_F_seen : okM t_F_seen := ⟨by decide +kernel, by decide +kernel, Or.inr (mem_ps (ps := [477, 132, 476, 24]) (by decide +kernel))⟩
theorem ok_F_dentedFrom : okM t_F_dentedFrom := ⟨by decide +kernel, by decide +kernel, Or.inr (mem_ps (ps := [481, 132, 480, 25]) (by decide +kernel))⟩
theorem ok_F_press : okM t_F_press := ⟨by decide +kernel, by decide +kernel, Or.inr (mem_ps (ps := [635, 132, 634, 54]) (by decide +kernel))⟩
theorem ok_F_passNight : okM t_F_passNight := ⟨by decide +kernel, by decide +kernel, Or.inr (mem_ps (ps := [562, 132, 561, 42]) (by decide +kernel))⟩
theorem ok_F_melt : okM t_F_melt := ⟨by decide +kernel, by decide +kernel, Or.inr (mem_ps (ps := [660, 132, 659, 57]) (by decide +kernel))⟩
theorem ok_F_snowOver : okM t_F_snowOver := ⟨by decide +kernel, by decide +kernel, Or.inr (mem_ps (ps := [668, 132, 667, 58]) (by decide +kernel))⟩
theorem ok_F_cross : okM t_F_cross := ⟨by decide +kernel, by decide +kernel, Or.inr (mem_ps (ps := [676, 132, 675, 59]) (by decide +kernel))⟩
theorem ok_F_roll : okM t_F_roll := ⟨by decide +kernel, by decide +kernel, Or.inr (mem_ps (ps := [690, 132, 689, 61]) (by decide +kernel))⟩
theorem ok_L_init : okM t_L_init := ⟨by decide +kernel, by decide +kernel, Or.inr (mem_ps (ps := [185, 131, 184]) (by decide +kernel))⟩
theorem ok_L_clear : okM t_L_clear := ⟨by decide +kernel, by decide +kernel, Or.inr (mem_ps (ps := [368, 131, 367, 2]) (by decide +kernel))⟩
theorem ok_L_measure : okM t_L_measure := ⟨by decide +kernel, by decide +kernel, Or.inr (mem_ps (ps := [399, 131, 398, 9]) (by decide +kernel))⟩
theorem ok_L_cells : okM t_L_cells := ⟨by decide +kernel, by decide +kernel, Or.inr (mem_ps (ps := [433, 131, 432, 16]) (by decide +kernel))⟩
theorem okg_0 : ∀ t ∈ mt_0, okM t := List.forall_mem_cons.mpr ⟨ok_F_init, List.forall_mem_cons.mpr ⟨ok_F_begin, List.forall_mem_cons.mpr ⟨ok_F_become, List.forall_mem_cons.mpr ⟨ok_F_dented, List.forall_mem_cons.mpr ⟨ok_F_seen, List.forall_mem_cons.mpr ⟨ok_F_dentedFrom, List.forall_mem_cons.mpr ⟨ok_F_press, List.forall_mem_cons.mpr ⟨ok_F_passNight, List.forall_mem_cons.mpr ⟨ok_F_melt, List.forall_mem_cons.mpr ⟨ok_F_snowOver, List.forall_mem_cons.mpr ⟨ok_F_cross, List.forall_mem_cons.mpr ⟨ok_F_roll, List.forall_mem_cons.mpr ⟨ok_L_init, List.forall_mem_cons.mpr ⟨ok_L_clear, List.forall_mem_cons.mpr ⟨ok_L_measure, List.forall_mem_cons.mpr ⟨ok_L_cells, fun t h => by cases h⟩⟩⟩⟩⟩⟩⟩⟩⟩⟩⟩⟩⟩⟩⟩⟩
theorem ok_L_isRock : okM t_L_isRock := ⟨by decide +kernel, by decide +kernel, Or.inr (mem_ps (ps := [582, 131, 581, 44]) (by decide +kernel))⟩
theorem ok_L_row : okM t_L_row := ⟨by decide +kernel, by decide +kernel, Or.inr (mem_ps (ps := [685, 131, 684, 60]) (by decide +kernel))⟩
theorem ok_L_moved : okM t_L_moved := ⟨by decide +kernel, by decide +kernel, Or.inr (mem_ps (ps := [443, 131, 442, 18]) (by decide +kernel))⟩
theorem ok_L_grown : okM t_L_grown := ⟨by decide +kernel, by decide +kernel, Or.inr (mem_ps (ps := [497, 131, 496, 29]) (by decide +kernel))⟩
theorem ok_L_steps : okM t_L_steps := ⟨by decide +kernel, by decide +kernel, Or.inr (mem_ps (ps := [537, 131, 536, 38]) (by decide +kernel))⟩
theorem ok_L_shape : okM t_L_shape := ⟨by decide +kernel, by decide +kernel, Or.inr (mem_ps (ps := [604, 131, 603, 48]) (by decide +kernel))⟩
theorem ok_L_drawShapes : okM t_L_drawShapes := ⟨by decide +kernel, by decide +kernel, Or.inr (mem_ps (ps := [429, 131, 428, 15]) (by decide +kernel))⟩
theorem ok_L_drawnShape : okM t_L_drawnShape := ⟨by decide +kernel, by decide +kernel, Or.inr (mem_ps (ps := [437, 131, 436, 17]) (by decide +kernel))⟩
theorem ok_L_groupOf : okM t_L_groupOf := ⟨by decide +kernel, by decide +kernel, Or.inr (mem_ps (ps := [493, 131, 492, 28]) (by decide +kernel))⟩
theorem ok_L_firstGroup : okM t_L_firstGroup := ⟨by decide +kernel, by decide +kernel, Or.inr (mem_ps (ps := [489, 131, 488, 27]) (by decide +kernel))⟩
theorem ok_L_groupsIn : okM t_L_groupsIn := ⟨by decide +kernel, by decide +kernel, Or.inr (mem_ps (ps := [510, 131, 509, 32]) (by decide +kernel))⟩
theorem ok_L_countOf : okM t_L_countOf := ⟨by decide +kernel, by decide +kernel, Or.inr (mem_ps (ps := [485, 131, 484, 26]) (by decide +kernel))⟩
theorem ok_L_countedAs : okM t_L_countedAs := ⟨by decide +kernel, by decide +kernel, Or.inr (mem_ps (ps := [502, 131, 501, 30]) (by decide +kernel))⟩
theorem ok_L_greatestIn : okM t_L_greatestIn := ⟨by decide +kernel, by decide +kernel, Or.inr (mem_ps (ps := [514, 131, 513, 33]) (by decide +kernel))⟩
theorem ok_L_forgedIn : okM t_L_forgedIn := ⟨by decide +kernel, by decide +kernel, Or.inr (mem_ps (ps := [521, 131, 520, 34]) (by decide +kernel))⟩
theorem ok_L_isShape : okM t_L_isShape := ⟨by decide +kernel, by decide +kernel, Or.inr (mem_ps (ps := [525, 131, 524, 35]) (by decide +kernel))⟩
theorem okg_1 : ∀ t ∈ mt_1, okM t := List.forall_mem_cons.mpr ⟨ok_L_isRock, List.forall_mem_cons.mpr ⟨ok_L_row, List.forall_mem_cons.mpr ⟨ok_L_moved, List.forall_mem_cons.mpr ⟨ok_L_grown, List.forall_mem_cons.mpr ⟨ok_L_steps, List.forall_mem_cons.mpr ⟨ok_L_shape, List.forall_mem_cons.mpr ⟨ok_L_drawShapes, List.forall_mem_cons.mpr ⟨ok_L_drawnShape, List.forall_mem_cons.mpr ⟨ok_L_groupOf, List.forall_mem_cons.mpr ⟨ok_L_firstGroup, List.forall_mem_cons.mpr ⟨ok_L_groupsIn, List.forall_mem_cons.mpr ⟨ok_L_countOf, List.forall_mem_cons.mpr ⟨ok_L_countedAs, List.forall_mem_cons.mpr ⟨ok_L_greatestIn, List.forall_mem_cons.mpr ⟨ok_L_forgedIn, List.forall_mem_cons.mpr ⟨ok_L_isShape, fun t h => by cases h⟩⟩⟩⟩⟩⟩⟩⟩⟩⟩⟩⟩⟩⟩⟩⟩
theorem ok_N_init : okM t_N_init := ⟨by decide +kernel, by decide +kernel, Or.inr (mem_ps (ps := [283, 136, 282]) (by decide +kernel))⟩
theorem ok_N_empty : okM t_N_empty := ⟨by decide +kernel, by decide +kernel, Or.inr (mem_ps (ps := [452, 136, 451, 20]) (by decide +kernel))⟩
theorem ok_N_addFound : okM t_N_addFound := ⟨by decide +kernel, by decide +kernel, Or.inr (mem_ps (ps := [799, 136, 798, 72]) (by decide +kernel))⟩
theorem ok_N_agreesWith : okM t_N_agreesWith := ⟨by decide +kernel, by decide +kernel, Or.inr (mem_ps (ps := [820, 136, 819, 76]) (by decide +kernel))⟩
theorem ok_N_addEntry : okM t_N_addEntry := ⟨by decide +kernel, by decide +kernel, Or.inr (mem_ps (ps := [851, 136, 850, 81]) (by decide +kernel))⟩
theorem ok_N_firstOtherThan : okM t_N_firstOtherThan := ⟨by decide +kernel, by decide +kernel, Or.inr (mem_ps (ps := [859, 136, 858, 82]) (by decide +kernel))⟩
theorem ok_R_init : okM t_R_init := ⟨by decide +kernel, by decide +kernel, Or.inr (mem_ps (ps := [153, 130, 152]) (by decide +kernel))⟩
theorem ok_R_add : okM t_R_add := ⟨by decide +kernel, by decide +kernel, Or.inr (mem_ps (ps := [355, 130, 354, 0]) (by decide +kernel))⟩
theorem ok_R_readInto : okM t_R_readInto := ⟨by decide +kernel, by decide +kernel, Or.inr (mem_ps (ps := [364, 130, 363, 1]) (by decide +kernel))⟩
theorem ok_R_complain : okM t_R_complain := ⟨by decide +kernel, by decide +kernel, Or.inr (mem_ps (ps := [383, 130, 382, 5]) (by decide +kernel))⟩
theorem ok_R_skipBlanks : okM t_R_skipBlanks := ⟨by decide +kernel, by decide +kernel, Or.inr (mem_ps (ps := [375, 130, 374, 3]) (by decide +kernel))⟩
theorem ok_R_atFigure : okM t_R_atFigure := ⟨by decide +kernel, by decide +kernel, Or.inr (mem_ps (ps := [395, 130, 394, 8]) (by decide +kernel))⟩
theorem ok_R_readClause : okM t_R_readClause := ⟨by decide +kernel, by decide +kernel, Or.inr (mem_ps (ps := [379, 130, 378, 4]) (by decide +kernel))⟩
theorem ok_R_readEnd : okM t_R_readEnd := ⟨by decide +kernel, by decide +kernel, Or.inr (mem_ps (ps := [425, 130, 424, 14]) (by decide +kernel))⟩
theorem ok_R_readNumber : okM t_R_readNumber := ⟨by decide +kernel, by decide +kernel, Or.inr (mem_ps (ps := [391, 130, 390, 7]) (by decide +kernel))⟩
theorem ok_R_readSides : okM t_R_readSides := ⟨by decide +kernel, by decide +kernel, Or.inr (mem_ps (ps := [387, 130, 386, 6]) (by decide +kernel))⟩
theorem okg_2 : ∀ t ∈ mt_2, okM t := List.forall_mem_cons.mpr ⟨ok_N_init, List.forall_mem_cons.mpr ⟨ok_N_empty, List.forall_mem_cons.mpr ⟨ok_N_addFound, List.forall_mem_cons.mpr ⟨ok_N_agreesWith, List.forall_mem_cons.mpr ⟨ok_N_addEntry, List.forall_mem_cons.mpr ⟨ok_N_firstOtherThan, List.forall_mem_cons.mpr ⟨ok_R_init, List.forall_mem_cons.mpr ⟨ok_R_add, List.forall_mem_cons.mpr ⟨ok_R_readInto, List.forall_mem_cons.mpr ⟨ok_R_complain, List.forall_mem_cons.mpr ⟨ok_R_skipBlanks, List.forall_mem_cons.mpr ⟨ok_R_atFigure, List.forall_mem_cons.mpr ⟨ok_R_readClause, List.forall_mem_cons.mpr ⟨ok_R_readEnd, List.forall_mem_cons.mpr ⟨ok_R_readNumber, List.forall_mem_cons.mpr ⟨ok_R_readSides, fun t h => by cases h⟩⟩⟩⟩⟩⟩⟩⟩⟩⟩⟩⟩⟩⟩⟩⟩
theorem ok_R_readPerson : okM t_R_readPerson := ⟨by decide +kernel, by decide +kernel, Or.inr (mem_ps (ps := [403, 130, 402, 10]) (by decide +kernel))⟩
theorem ok_R_readWind : okM t_R_readWind := ⟨by decide +kernel, by decide +kernel, Or.inr (mem_ps (ps := [407, 130, 406, 11]) (by decide +kernel))⟩
theorem ok_R_readRock : okM t_R_readRock := ⟨by decide +kernel, by decide +kernel, Or.inr (mem_ps (ps := [411, 130, 410, 12]) (by decide +kernel))⟩
theorem ok_R_addRock : okM t_R_addRock := ⟨by decide +kernel, by decide +kernel, Or.inr (mem_ps (ps := [421, 130, 420, 13]) (by decide +kernel))⟩
theorem ok_S_init : okM t_S_init := ⟨by decide +kernel, by decide +kernel, Or.inr (mem_ps (ps := [267, 134, 266]) (by decide +kernel))⟩
theorem ok_S_put : okM t_S_put := ⟨by decide +kernel, by decide +kernel, Or.inr (mem_ps (ps := [626, 134, 625, 52]) (by decide +kernel))⟩
theorem ok_S_take : okM t_S_take := ⟨by decide +kernel, by decide +kernel, Or.inr (mem_ps (ps := [725, 134, 724, 66]) (by decide +kernel))⟩
theorem ok_C_init : okM t_C_init := ⟨by decide +kernel, by decide +kernel, Or.inr (mem_ps (ps := [145, 129, 144]) (by decide +kernel))⟩
theorem ok_C_feed : okM t_C_feed := ⟨by decide +kernel, by decide +kernel, Or.inr (mem_ps (ps := [350, 129, 348, 349]) (by decide +kernel))⟩
theorem ok_C_north : okM t_C_north := ⟨by decide +kernel, by decide +kernel, Or.inr (mem_ps (ps := [360, 129, 358, 359]) (by decide +kernel))⟩
theorem ok_C_fault : okM t_C_fault := ⟨by decide +kernel, by decide +kernel, Or.inr (mem_ps (ps := [460, 129, 458, 459]) (by decide +kernel))⟩
theorem ok_C_told : okM t_C_told := ⟨by decide +kernel, by decide +kernel, Or.inr (mem_ps (ps := [464, 129, 462, 463]) (by decide +kernel))⟩
theorem ok_C_cell : okM t_C_cell := ⟨by decide +kernel, by decide +kernel, Or.inr (mem_ps (ps := [572, 129, 570, 571]) (by decide +kernel))⟩
theorem ok_C_person : okM t_C_person := ⟨by decide +kernel, by decide +kernel, Or.inr (mem_ps (ps := [592, 129, 590, 591]) (by decide +kernel))⟩
theorem ok_C_lie : okM t_C_lie := ⟨by decide +kernel, by decide +kernel, Or.inr (mem_ps (ps := [608, 129, 606, 607]) (by decide +kernel))⟩
theorem ok_C_rise : okM t_C_rise := ⟨by decide +kernel, by decide +kernel, Or.inr (mem_ps (ps := [639, 129, 637, 638]) (by decide +kernel))⟩
theorem okg_3 : ∀ t ∈ mt_3, okM t := List.forall_mem_cons.mpr ⟨ok_R_readPerson, List.forall_mem_cons.mpr ⟨ok_R_readWind, List.forall_mem_cons.mpr ⟨ok_R_readRock, List.forall_mem_cons.mpr ⟨ok_R_addRock, List.forall_mem_cons.mpr ⟨ok_S_init, List.forall_mem_cons.mpr ⟨ok_S_put, List.forall_mem_cons.mpr ⟨ok_S_take, List.forall_mem_cons.mpr ⟨ok_C_init, List.forall_mem_cons.mpr ⟨ok_C_feed, List.forall_mem_cons.mpr ⟨ok_C_north, List.forall_mem_cons.mpr ⟨ok_C_fault, List.forall_mem_cons.mpr ⟨ok_C_told, List.forall_mem_cons.mpr ⟨ok_C_cell, List.forall_mem_cons.mpr ⟨ok_C_person, List.forall_mem_cons.mpr ⟨ok_C_lie, List.forall_mem_cons.mpr ⟨ok_C_rise, fun t h => by cases h⟩⟩⟩⟩⟩⟩⟩⟩⟩⟩⟩⟩⟩⟩⟩⟩
theorem ok_C_night : okM t_C_night := ⟨by decide +kernel, by decide +kernel, Or.inr (mem_ps (ps := [643, 129, 641, 642]) (by decide +kernel))⟩
theorem ok_C_thaw : okM t_C_thaw := ⟨by decide +kernel, by decide +kernel, Or.inr (mem_ps (ps := [656, 129, 654, 655]) (by decide +kernel))⟩
theorem ok_C_snow : okM t_C_snow := ⟨by decide +kernel, by decide +kernel, Or.inr (mem_ps (ps := [664, 129, 662, 663]) (by decide +kernel))⟩
theorem ok_C_hare : okM t_C_hare := ⟨by decide +kernel, by decide +kernel, Or.inr (mem_ps (ps := [672, 129, 670, 671]) (by decide +kernel))⟩
theorem ok_C_pin : okM t_C_pin := ⟨by decide +kernel, by decide +kernel, Or.inr (mem_ps (ps := [681, 129, 679, 680]) (by decide +kernel))⟩
theorem ok_C_wind : okM t_C_wind := ⟨by decide +kernel, by decide +kernel, Or.inr (mem_ps (ps := [694, 129, 692, 693]) (by decide +kernel))⟩
theorem ok_C_drift : okM t_C_drift := ⟨by decide +kernel, by decide +kernel, Or.inr (mem_ps (ps := [698, 129, 696, 697]) (by decide +kernel))⟩
theorem ok_C_undo : okM t_C_undo := ⟨by decide +kernel, by decide +kernel, Or.inr (mem_ps (ps := [721, 129, 719, 720]) (by decide +kernel))⟩
theorem ok_C_left : okM t_C_left := ⟨by decide +kernel, by decide +kernel, Or.inr (mem_ps (ps := [729, 129, 727, 728]) (by decide +kernel))⟩
theorem ok_C_willCount : okM t_C_willCount := ⟨by decide +kernel, by decide +kernel, Or.inr (mem_ps (ps := [741, 129, 739, 740]) (by decide +kernel))⟩
theorem ok_C_wrongFirst : okM t_C_wrongFirst := ⟨by decide +kernel, by decide +kernel, Or.inr (mem_ps (ps := [745, 129, 743, 744]) (by decide +kernel))⟩
theorem ok_C_canLie : okM t_C_canLie := ⟨by decide +kernel, by decide +kernel, Or.inr (mem_ps (ps := [749, 129, 747, 748]) (by decide +kernel))⟩
theorem ok_C_round : okM t_C_round := ⟨by decide +kernel, by decide +kernel, Or.inr (mem_ps (ps := [758, 129, 756, 757]) (by decide +kernel))⟩
theorem ok_C_touch : okM t_C_touch := ⟨by decide +kernel, by decide +kernel, Or.inr (mem_ps (ps := [784, 129, 782, 783]) (by decide +kernel))⟩
theorem ok_C_still : okM t_C_still := ⟨by decide +kernel, by decide +kernel, Or.inr (mem_ps (ps := [789, 129, 787, 788]) (by decide +kernel))⟩
theorem ok_C_find : okM t_C_find := ⟨by decide +kernel, by decide +kernel, Or.inr (mem_ps (ps := [795, 129, 793, 794]) (by decide +kernel))⟩
theorem okg_4 : ∀ t ∈ mt_4, okM t := List.forall_mem_cons.mpr ⟨ok_C_night, List.forall_mem_cons.mpr ⟨ok_C_thaw, List.forall_mem_cons.mpr ⟨ok_C_snow, List.forall_mem_cons.mpr ⟨ok_C_hare, List.forall_mem_cons.mpr ⟨ok_C_pin, List.forall_mem_cons.mpr ⟨ok_C_wind, List.forall_mem_cons.mpr ⟨ok_C_drift, List.forall_mem_cons.mpr ⟨ok_C_undo, List.forall_mem_cons.mpr ⟨ok_C_left, List.forall_mem_cons.mpr ⟨ok_C_willCount, List.forall_mem_cons.mpr ⟨ok_C_wrongFirst, List.forall_mem_cons.mpr ⟨ok_C_canLie, List.forall_mem_cons.mpr ⟨ok_C_round, List.forall_mem_cons.mpr ⟨ok_C_touch, List.forall_mem_cons.mpr ⟨ok_C_still, List.forall_mem_cons.mpr ⟨ok_C_find, fun t h => by cases h⟩⟩⟩⟩⟩⟩⟩⟩⟩⟩⟩⟩⟩⟩⟩⟩
theorem ok_C_fits : okM t_C_fits := ⟨by decide +kernel, by decide +kernel, Or.inr (mem_ps (ps := [804, 129, 802, 803]) (by decide +kernel))⟩
theorem ok_C_look : okM t_C_look := ⟨by decide +kernel, by decide +kernel, Or.inr (mem_ps (ps := [833, 129, 831, 832]) (by decide +kernel))⟩
theorem ok_C_write : okM t_C_write := ⟨by decide +kernel, by decide +kernel, Or.inr (mem_ps (ps := [847, 129, 845, 846]) (by decide +kernel))⟩
theorem ok_C_judge : okM t_C_judge := ⟨by decide +kernel, by decide +kernel, Or.inr (mem_ps (ps := [855, 129, 853, 854]) (by decide +kernel))⟩
theorem ok_C_tear : okM t_C_tear := ⟨by decide +kernel, by decide +kernel, Or.inr (mem_ps (ps := [863, 129, 861, 862]) (by decide +kernel))⟩
theorem ok_C_seed : okM t_C_seed := ⟨by decide +kernel, by decide +kernel, Or.inr (mem_ps (ps := [867, 129, 865, 866]) (by decide +kernel))⟩
theorem ok_C_keep : okM t_C_keep := ⟨by decide +kernel, by decide +kernel, Or.inr (mem_ps (ps := [871, 129, 869, 870]) (by decide +kernel))⟩
theorem ok_C_goBack : okM t_C_goBack := ⟨by decide +kernel, by decide +kernel, Or.inr (mem_ps (ps := [879, 129, 877, 878]) (by decide +kernel))⟩
theorem ok_C_has : okM t_C_has := ⟨by decide +kernel, by decide +kernel, Or.inr (mem_ps (ps := [567, 129, 566]) (by decide +kernel))⟩
theorem ok_C_leastOf : okM t_C_leastOf := ⟨by decide +kernel, by decide +kernel, Or.inr (mem_ps (ps := [517, 129, 516]) (by decide +kernel))⟩
theorem ok_C_hasNorth : okM t_C_hasNorth := ⟨by decide +kernel, by decide +kernel, Or.inr (mem_ps (ps := [651, 129, 650, 56]) (by decide +kernel))⟩
theorem ok_C_isCell : okM t_C_isCell := ⟨by decide +kernel, by decide +kernel, Or.inr (mem_ps (ps := [576, 129, 575, 43]) (by decide +kernel))⟩
theorem ok_C_isPerson : okM t_C_isPerson := ⟨by decide +kernel, by decide +kernel, Or.inr (mem_ps (ps := [596, 129, 595, 46]) (by decide +kernel))⟩
theorem ok_C_isImage : okM t_C_isImage := ⟨by decide +kernel, by decide +kernel, Or.inr (mem_ps (ps := [875, 129, 874, 83]) (by decide +kernel))⟩
theorem ok_C_everybody : okM t_C_everybody := ⟨by decide +kernel, by decide +kernel, Or.inr (mem_ps (ps := [762, 129, 761, 70]) (by decide +kernel))⟩
theorem ok_C_whoLies : okM t_C_whoLies := ⟨by decide +kernel, by decide +kernel, Or.inr (mem_ps (ps := [469, 129, 468, 22]) (by decide +kernel))⟩
theorem okg_5 : ∀ t ∈ mt_5, okM t := List.forall_mem_cons.mpr ⟨ok_C_fits, List.forall_mem_cons.mpr ⟨ok_C_look, List.forall_mem_cons.mpr ⟨ok_C_write, List.forall_mem_cons.mpr ⟨ok_C_judge, List.forall_mem_cons.mpr ⟨ok_C_tear, List.forall_mem_cons.mpr ⟨ok_C_seed, List.forall_mem_cons.mpr ⟨ok_C_keep, List.forall_mem_cons.mpr ⟨ok_C_goBack, List.forall_mem_cons.mpr ⟨ok_C_has, List.forall_mem_cons.mpr ⟨ok_C_leastOf, List.forall_mem_cons.mpr ⟨ok_C_hasNorth, List.forall_mem_cons.mpr ⟨ok_C_isCell, List.forall_mem_cons.mpr ⟨ok_C_isPerson, List.forall_mem_cons.mpr ⟨ok_C_isImage, List.forall_mem_cons.mpr ⟨ok_C_everybody, List.forall_mem_cons.mpr ⟨ok_C_whoLies, fun t h => by cases h⟩⟩⟩⟩⟩⟩⟩⟩⟩⟩⟩⟩⟩⟩⟩⟩
theorem ok_C_whoIsAt : okM t_C_whoIsAt := ⟨by decide +kernel, by decide +kernel, Or.inr (mem_ps (ps := [588, 129, 587, 45]) (by decide +kernel))⟩
theorem ok_C_shapeLeftBy : okM t_C_shapeLeftBy := ⟨by decide +kernel, by decide +kernel, Or.inr (mem_ps (ps := [600, 129, 599, 47]) (by decide +kernel))⟩
theorem ok_C_countNow : okM t_C_countNow := ⟨by decide +kernel, by decide +kernel, Or.inr (mem_ps (ps := [473, 129, 472, 23]) (by decide +kernel))⟩
theorem ok_C_truth : okM t_C_truth := ⟨by decide +kernel, by decide +kernel, Or.inr (mem_ps (ps := [506, 129, 505, 31]) (by decide +kernel))⟩
theorem ok_C_farOut : okM t_C_farOut := ⟨by decide +kernel, by decide +kernel, Or.inr (mem_ps (ps := [529, 129, 528, 36]) (by decide +kernel))⟩
theorem ok_C_stepsToNearest : okM t_C_stepsToNearest := ⟨by decide +kernel, by decide +kernel, Or.inr (mem_ps (ps := [533, 129, 532, 37]) (by decide +kernel))⟩
theorem ok_C_refusalOfNights : okM t_C_refusalOfNights := ⟨by decide +kernel, by decide +kernel, Or.inr (mem_ps (ps := [647, 129, 646, 55]) (by decide +kernel))⟩
theorem ok_C_layDown : okM t_C_layDown := ⟨by decide +kernel, by decide +kernel, Or.inr (mem_ps (ps := [631, 129, 630, 53]) (by decide +kernel))⟩
theorem ok_C_remember : okM t_C_remember := ⟨by decide +kernel, by decide +kernel, Or.inr (mem_ps (ps := [618, 129, 617, 50]) (by decide +kernel))⟩
theorem ok_C_placeOfDeed : okM t_C_placeOfDeed := ⟨by decide +kernel, by decide +kernel, Or.inr (mem_ps (ps := [622, 129, 621, 51]) (by decide +kernel))⟩
theorem ok_C_forgetDeeds : okM t_C_forgetDeeds := ⟨by decide +kernel, by decide +kernel, Or.inr (mem_ps (ps := [456, 129, 455, 21]) (by decide +kernel))⟩
theorem ok_C_draw : okM t_C_draw := ⟨by decide +kernel, by decide +kernel, Or.inr (mem_ps (ps := [706, 129, 705, 63]) (by decide +kernel))⟩
theorem ok_C_happenByDraw : okM t_C_happenByDraw := ⟨by decide +kernel, by decide +kernel, Or.inr (mem_ps (ps := [702, 129, 701, 62]) (by decide +kernel))⟩
theorem ok_C_lieByDraw : okM t_C_lieByDraw := ⟨by decide +kernel, by decide +kernel, Or.inr (mem_ps (ps := [713, 129, 712, 64]) (by decide +kernel))⟩
theorem ok_C_hareByDraw : okM t_C_hareByDraw := ⟨by decide +kernel, by decide +kernel, Or.inr (mem_ps (ps := [717, 129, 716, 65]) (by decide +kernel))⟩
theorem ok_C_canTry : okM t_C_canTry := ⟨by decide +kernel, by decide +kernel, Or.inr (mem_ps (ps := [733, 129, 732, 67]) (by decide +kernel))⟩
theorem okg_6 : ∀ t ∈ mt_6, okM t := List.forall_mem_cons.mpr ⟨ok_C_whoIsAt, List.forall_mem_cons.mpr ⟨ok_C_shapeLeftBy, List.forall_mem_cons.mpr ⟨ok_C_countNow, List.forall_mem_cons.mpr ⟨ok_C_truth, List.forall_mem_cons.mpr ⟨ok_C_farOut, List.forall_mem_cons.mpr ⟨ok_C_stepsToNearest, List.forall_mem_cons.mpr ⟨ok_C_refusalOfNights, List.forall_mem_cons.mpr ⟨ok_C_layDown, List.forall_mem_cons.mpr ⟨ok_C_remember, List.forall_mem_cons.mpr ⟨ok_C_placeOfDeed, List.forall_mem_cons.mpr ⟨ok_C_forgetDeeds, List.forall_mem_cons.mpr ⟨ok_C_draw, List.forall_mem_cons.mpr ⟨ok_C_happenByDraw, List.forall_mem_cons.mpr ⟨ok_C_lieByDraw, List.forall_mem_cons.mpr ⟨ok_C_hareByDraw, List.forall_mem_cons.mpr ⟨ok_C_canTry, fun t h => by cases h⟩⟩⟩⟩⟩⟩⟩⟩⟩⟩⟩⟩⟩⟩⟩⟩
end
section
/-! the law's own code, some of it -/
theorem okp_0 : (k_W_law_0).all (chkE 7 4 (some .boolean) (decide (y_W_law.name = "<init>")) code) = true := by decide +kernel
theorem okp_1 : (k_W_law_1).all (chkE 7 4 (some .boolean) (decide (y_W_law.name = "<init>")) code) = true := by decide +kernel
theorem okp_2 : (k_W_law_2).all (chkE 7 4 (some .boolean) (decide (y_W_law.name = "<init>")) code) = true := by decide +kernel
end
section
/-! the law's own code, some of it -/
theorem okp_3 : (k_W_law_3).all (chkE 7 4 (some .boolean) (decide (y_W_law.name = "<init>")) code) = true := by decide +kernel
theorem okp_4 : (k_W_law_4).all (chkE 7 4 (some .boolean) (decide (y_W_law.name = "<init>")) code) = true := by decide +kernel
theorem okp_5 : (k_W_law_5).all (chkE 7 4 (some .boolean) (decide (y_W_law.name = "<init>")) code) = true := by decide +kernel
end
section
/-! the law's own code, some of it -/
theorem okp_6 : (k_W_law_6).all (chkE 7 4 (some .boolean) (decide (y_W_law.name = "<init>")) code) = true := by decide +kernel
theorem okp_7 : (k_W_law_7).all (chkE 7 4 (some .boolean) (decide (y_W_law.name = "<init>")) code) = true := by decide +kernel
theorem okp_8 : (k_W_law_8).all (chkE 7 4 (some .boolean) (decide (y_W_law.name = "<init>")) code) = true := by decide +kernel
end
section
/-! the law's own code, some of it -/
theorem okp_9 : (k_W_law_9).all (chkE 7 4 (some .boolean) (decide (y_W_law.name = "<init>")) code) = true := by decide +kernel
theorem okp_10 : (k_W_law_10).all (chkE 7 4 (some .boolean) (decide (y_W_law.name = "<init>")) code) = true := by decide +kernel
theorem okp_11 : (k_W_law_11).all (chkE 7 4 (some .boolean) (decide (y_W_law.name = "<init>")) code) = true := by decide +kernel
end
section
/-! the law's own code, some of it -/
theorem okp_12 : (k_W_law_12).all (chkE 7 4 (some .boolean) (decide (y_W_law.name = "<init>")) code) = true := by decide +kernel
theorem okp_13 : (k_W_law_13).all (chkE 7 4 (some .boolean) (decide (y_W_law.name = "<init>")) code) = true := by decide +kernel
theorem okp_14 : (k_W_law_14).all (chkE 7 4 (some .boolean) (decide (y_W_law.name = "<init>")) code) = true := by decide +kernel
end
section
/-! more of the same -/
theorem ok_C_tryNights : okM t_C_tryNights := ⟨by decide +kernel, by decide +kernel, Or.inr (mem_ps (ps := [737, 129, 736, 68]) (by decide +kernel))⟩
theorem ok_C_bare : okM t_C_bare := ⟨by decide +kernel, by decide +kernel, Or.inr (mem_ps (ps := [547, 129, 546, 39]) (by decide +kernel))⟩
theorem ok_C_roomFor : okM t_C_roomFor := ⟨by decide +kernel, by decide +kernel, Or.inr (mem_ps (ps := [612, 129, 611, 49]) (by decide +kernel))⟩
theorem ok_C_bestRoomFor : okM t_C_bestRoomFor := ⟨by decide +kernel, by decide +kernel, Or.inr (mem_ps (ps := [754, 129, 753, 69]) (by decide +kernel))⟩
theorem ok_C_shortestRound : okM t_C_shortestRound := ⟨by decide +kernel, by decide +kernel, Or.inr (mem_ps (ps := [772, 129, 771, 71]) (by decide +kernel))⟩
theorem ok_C_tenToThe : okM t_C_tenToThe := ⟨by decide +kernel, by decide +kernel, Or.inr (mem_ps (ps := [775, 129, 774]) (by decide +kernel))⟩
theorem ok_C_fitsFound : okM t_C_fitsFound := ⟨by decide +kernel, by decide +kernel, Or.inr (mem_ps (ps := [816, 129, 815, 75]) (by decide +kernel))⟩
theorem ok_C_howManyFit : okM t_C_howManyFit := ⟨by decide +kernel, by decide +kernel, Or.inr (mem_ps (ps := [808, 129, 807, 73]) (by decide +kernel))⟩
theorem ok_C_howManyOfKindFit : okM t_C_howManyOfKindFit := ⟨by decide +kernel, by decide +kernel, Or.inr (mem_ps (ps := [812, 129, 811, 74]) (by decide +kernel))⟩
theorem ok_C_tallyFits : okM t_C_tallyFits := ⟨by decide +kernel, by decide +kernel, Or.inr (mem_ps (ps := [837, 129, 836, 79]) (by decide +kernel))⟩
theorem ok_C_tallyCells : okM t_C_tallyCells := ⟨by decide +kernel, by decide +kernel, Or.inr (mem_ps (ps := [842, 129, 841, 80]) (by decide +kernel))⟩
theorem ok_C_leastFit : okM t_C_leastFit := ⟨by decide +kernel, by decide +kernel, Or.inr (mem_ps (ps := [825, 129, 824, 77]) (by decide +kernel))⟩
theorem ok_C_kindsThatFit : okM t_C_kindsThatFit := ⟨by decide +kernel, by decide +kernel, Or.inr (mem_ps (ps := [829, 129, 828, 78]) (by decide +kernel))⟩
theorem ok_M_init : okM t_M_init := ⟨by decide +kernel, by decide +kernel, Or.inr (mem_ps (ps := [884, 137, 883]) (by decide +kernel))⟩
theorem ok_M_in : okM t_M_in := ⟨by decide +kernel, by decide +kernel, Or.inr (mem_ps (ps := [894, 137, 893]) (by decide +kernel))⟩
theorem ok_M_has : okM t_M_has := ⟨by decide +kernel, by decide +kernel, Or.inr (mem_ps (ps := [1252, 137, 1251]) (by decide +kernel))⟩
theorem okg_7 : ∀ t ∈ mt_7, okM t := List.forall_mem_cons.mpr ⟨ok_C_tryNights, List.forall_mem_cons.mpr ⟨ok_C_bare, List.forall_mem_cons.mpr ⟨ok_C_roomFor, List.forall_mem_cons.mpr ⟨ok_C_bestRoomFor, List.forall_mem_cons.mpr ⟨ok_C_shortestRound, List.forall_mem_cons.mpr ⟨ok_C_tenToThe, List.forall_mem_cons.mpr ⟨ok_C_fitsFound, List.forall_mem_cons.mpr ⟨ok_C_howManyFit, List.forall_mem_cons.mpr ⟨ok_C_howManyOfKindFit, List.forall_mem_cons.mpr ⟨ok_C_tallyFits, List.forall_mem_cons.mpr ⟨ok_C_tallyCells, List.forall_mem_cons.mpr ⟨ok_C_leastFit, List.forall_mem_cons.mpr ⟨ok_C_kindsThatFit, List.forall_mem_cons.mpr ⟨ok_M_init, List.forall_mem_cons.mpr ⟨ok_M_in, List.forall_mem_cons.mpr ⟨ok_M_has, fun t h => by cases h⟩⟩⟩⟩⟩⟩⟩⟩⟩⟩⟩⟩⟩⟩⟩⟩
theorem ok_M_holds : okM t_M_holds := ⟨by decide +kernel, by decide +kernel, Or.inr (mem_ps (ps := [1053, 137, 1052]) (by decide +kernel))⟩
theorem ok_M_bits : okM t_M_bits := ⟨by decide +kernel, by decide +kernel, Or.inr (mem_ps (ps := [1064, 137, 1063]) (by decide +kernel))⟩
theorem ok_M_lesser : okM t_M_lesser := ⟨by decide +kernel, by decide +kernel, Or.inr (mem_ps (ps := [1099, 137, 1098]) (by decide +kernel))⟩
theorem ok_M_greater : okM t_M_greater := ⟨by decide +kernel, by decide +kernel, Or.inr (mem_ps (ps := [1079, 137, 1078]) (by decide +kernel))⟩
theorem ok_M_copies : okM t_M_copies := ⟨by decide +kernel, by decide +kernel, Or.inr (mem_ps (ps := [1019, 137, 1018]) (by decide +kernel))⟩
theorem ok_M_begins : okM t_M_begins := ⟨by decide +kernel, by decide +kernel, Or.inr (mem_ps (ps := [889, 137, 888, 84]) (by decide +kernel))⟩
theorem ok_M_feed : okM t_M_feed := ⟨by decide +kernel, by decide +kernel, Or.inr (mem_ps (ps := [971, 137, 969, 970]) (by decide +kernel))⟩
theorem ok_M_here : okM t_M_here := ⟨by decide +kernel, by decide +kernel, Or.inr (mem_ps (ps := [986, 137, 985, 86]) (by decide +kernel))⟩
theorem ok_M_step : okM t_M_step := ⟨by decide +kernel, by decide +kernel, Or.inr (mem_ps (ps := [982, 137, 981, 85]) (by decide +kernel))⟩
theorem ok_M_fails : okM t_M_fails := ⟨by decide +kernel, by decide +kernel, Or.inr (mem_ps (ps := [996, 137, 995, 88]) (by decide +kernel))⟩
theorem ok_M_number : okM t_M_number := ⟨by decide +kernel, by decide +kernel, Or.inr (mem_ps (ps := [1000, 137, 999, 89]) (by decide +kernel))⟩
theorem ok_M_ends : okM t_M_ends := ⟨by decide +kernel, by decide +kernel, Or.inr (mem_ps (ps := [1004, 137, 1003, 90]) (by decide +kernel))⟩
theorem ok_M_readsPerson : okM t_M_readsPerson := ⟨by decide +kernel, by decide +kernel, Or.inr (mem_ps (ps := [1008, 137, 1007, 91]) (by decide +kernel))⟩
theorem ok_M_readsWind : okM t_M_readsWind := ⟨by decide +kernel, by decide +kernel, Or.inr (mem_ps (ps := [1012, 137, 1011, 92]) (by decide +kernel))⟩
theorem ok_M_readsRock : okM t_M_readsRock := ⟨by decide +kernel, by decide +kernel, Or.inr (mem_ps (ps := [1016, 137, 1015, 93]) (by decide +kernel))⟩
theorem ok_M_readsClause : okM t_M_readsClause := ⟨by decide +kernel, by decide +kernel, Or.inr (mem_ps (ps := [992, 137, 991, 87]) (by decide +kernel))⟩
theorem okg_8 : ∀ t ∈ mt_8, okM t := List.forall_mem_cons.mpr ⟨ok_M_holds, List.forall_mem_cons.mpr ⟨ok_M_bits, List.forall_mem_cons.mpr ⟨ok_M_lesser, List.forall_mem_cons.mpr ⟨ok_M_greater, List.forall_mem_cons.mpr ⟨ok_M_copies, List.forall_mem_cons.mpr ⟨ok_M_begins, List.forall_mem_cons.mpr ⟨ok_M_feed, List.forall_mem_cons.mpr ⟨ok_M_here, List.forall_mem_cons.mpr ⟨ok_M_step, List.forall_mem_cons.mpr ⟨ok_M_fails, List.forall_mem_cons.mpr ⟨ok_M_number, List.forall_mem_cons.mpr ⟨ok_M_ends, List.forall_mem_cons.mpr ⟨ok_M_readsPerson, List.forall_mem_cons.mpr ⟨ok_M_readsWind, List.forall_mem_cons.mpr ⟨ok_M_readsRock, List.forall_mem_cons.mpr ⟨ok_M_readsClause, fun t h => by cases h⟩⟩⟩⟩⟩⟩⟩⟩⟩⟩⟩⟩⟩⟩⟩⟩
theorem ok_M_north : okM t_M_north := ⟨by decide +kernel, by decide +kernel, Or.inr (mem_ps (ps := [978, 137, 976, 977]) (by decide +kernel))⟩
theorem ok_M_fault : okM t_M_fault := ⟨by decide +kernel, by decide +kernel, Or.inr (mem_ps (ps := [1023, 137, 1021, 1022]) (by decide +kernel))⟩
theorem ok_M_cells : okM t_M_cells := ⟨by decide +kernel, by decide +kernel, Or.inr (mem_ps (ps := [1047, 137, 1046, 98]) (by decide +kernel))⟩
theorem ok_M_isCell : okM t_M_isCell := ⟨by decide +kernel, by decide +kernel, Or.inr (mem_ps (ps := [1123, 137, 1122, 111]) (by decide +kernel))⟩
theorem ok_M_isPerson : okM t_M_isPerson := ⟨by decide +kernel, by decide +kernel, Or.inr (mem_ps (ps := [1140, 137, 1139, 114]) (by decide +kernel))⟩
theorem ok_M_rocks : okM t_M_rocks := ⟨by decide +kernel, by decide +kernel, Or.inr (mem_ps (ps := [1115, 137, 1114, 110]) (by decide +kernel))⟩
theorem ok_M_isRock : okM t_M_isRock := ⟨by decide +kernel, by decide +kernel, Or.inr (mem_ps (ps := [1128, 137, 1127, 112]) (by decide +kernel))⟩
theorem ok_M_beside : okM t_M_beside := ⟨by decide +kernel, by decide +kernel, Or.inr (mem_ps (ps := [1061, 137, 1060, 100]) (by decide +kernel))⟩
theorem ok_M_shape : okM t_M_shape := ⟨by decide +kernel, by decide +kernel, Or.inr (mem_ps (ps := [1087, 137, 1086, 104]) (by decide +kernel))⟩
theorem ok_M_dented : okM t_M_dented := ⟨by decide +kernel, by decide +kernel, Or.inr (mem_ps (ps := [1043, 137, 1042, 97]) (by decide +kernel))⟩
theorem ok_M_mayLie : okM t_M_mayLie := ⟨by decide +kernel, by decide +kernel, Or.inr (mem_ps (ps := [1152, 137, 1151, 116]) (by decide +kernel))⟩
theorem ok_M_dents : okM t_M_dents := ⟨by decide +kernel, by decide +kernel, Or.inr (mem_ps (ps := [1165, 137, 1164, 119]) (by decide +kernel))⟩
theorem ok_M_group : okM t_M_group := ⟨by decide +kernel, by decide +kernel, Or.inr (mem_ps (ps := [1057, 137, 1056, 99]) (by decide +kernel))⟩
theorem ok_M_lowest : okM t_M_lowest := ⟨by decide +kernel, by decide +kernel, Or.inr (mem_ps (ps := [1050, 137, 1049]) (by decide +kernel))⟩
theorem ok_M_counted : okM t_M_counted := ⟨by decide +kernel, by decide +kernel, Or.inr (mem_ps (ps := [1067, 137, 1066]) (by decide +kernel))⟩
theorem ok_M_countOn : okM t_M_countOn := ⟨by decide +kernel, by decide +kernel, Or.inr (mem_ps (ps := [1039, 137, 1038, 96]) (by decide +kernel))⟩
theorem okg_9 : ∀ t ∈ mt_9, okM t := List.forall_mem_cons.mpr ⟨ok_M_north, List.forall_mem_cons.mpr ⟨ok_M_fault, List.forall_mem_cons.mpr ⟨ok_M_cells, List.forall_mem_cons.mpr ⟨ok_M_isCell, List.forall_mem_cons.mpr ⟨ok_M_isPerson, List.forall_mem_cons.mpr ⟨ok_M_rocks, List.forall_mem_cons.mpr ⟨ok_M_isRock, List.forall_mem_cons.mpr ⟨ok_M_beside, List.forall_mem_cons.mpr ⟨ok_M_shape, List.forall_mem_cons.mpr ⟨ok_M_dented, List.forall_mem_cons.mpr ⟨ok_M_mayLie, List.forall_mem_cons.mpr ⟨ok_M_dents, List.forall_mem_cons.mpr ⟨ok_M_group, List.forall_mem_cons.mpr ⟨ok_M_lowest, List.forall_mem_cons.mpr ⟨ok_M_counted, List.forall_mem_cons.mpr ⟨ok_M_countOn, fun t h => by cases h⟩⟩⟩⟩⟩⟩⟩⟩⟩⟩⟩⟩⟩⟩⟩⟩
theorem ok_M_groups : okM t_M_groups := ⟨by decide +kernel, by decide +kernel, Or.inr (mem_ps (ps := [1076, 137, 1075, 102]) (by decide +kernel))⟩
theorem ok_M_isShape : okM t_M_isShape := ⟨by decide +kernel, by decide +kernel, Or.inr (mem_ps (ps := [1083, 137, 1082, 103]) (by decide +kernel))⟩
theorem ok_M_isLying : okM t_M_isLying := ⟨by decide +kernel, by decide +kernel, Or.inr (mem_ps (ps := [1035, 137, 1034, 95]) (by decide +kernel))⟩
theorem ok_M_whoLies : okM t_M_whoLies := ⟨by decide +kernel, by decide +kernel, Or.inr (mem_ps (ps := [1031, 137, 1030, 94]) (by decide +kernel))⟩
theorem ok_M_truly : okM t_M_truly := ⟨by decide +kernel, by decide +kernel, Or.inr (mem_ps (ps := [1072, 137, 1071, 101]) (by decide +kernel))⟩
theorem ok_M_steps : okM t_M_steps := ⟨by decide +kernel, by decide +kernel, Or.inr (mem_ps (ps := [1096, 137, 1095, 106]) (by decide +kernel))⟩
theorem ok_M_farOut : okM t_M_farOut := ⟨by decide +kernel, by decide +kernel, Or.inr (mem_ps (ps := [1091, 137, 1090, 105]) (by decide +kernel))⟩
theorem ok_M_layAside : okM t_M_layAside := ⟨by decide +kernel, by decide +kernel, Or.inr (mem_ps (ps := [1107, 137, 1106, 108]) (by decide +kernel))⟩
theorem ok_M_bare : okM t_M_bare := ⟨by decide +kernel, by decide +kernel, Or.inr (mem_ps (ps := [1103, 137, 1102, 107]) (by decide +kernel))⟩
theorem ok_M_told : okM t_M_told := ⟨by decide +kernel, by decide +kernel, Or.inr (mem_ps (ps := [1027, 137, 1025, 1026]) (by decide +kernel))⟩
theorem ok_M_whoIsAt : okM t_M_whoIsAt := ⟨by decide +kernel, by decide +kernel, Or.inr (mem_ps (ps := [1132, 137, 1131, 113]) (by decide +kernel))⟩
theorem ok_M_cell : okM t_M_cell := ⟨by decide +kernel, by decide +kernel, Or.inr (mem_ps (ps := [1119, 137, 1117, 1118]) (by decide +kernel))⟩
theorem ok_M_shapeOf : okM t_M_shapeOf := ⟨by decide +kernel, by decide +kernel, Or.inr (mem_ps (ps := [1144, 137, 1143, 115]) (by decide +kernel))⟩
theorem ok_M_person : okM t_M_person := ⟨by decide +kernel, by decide +kernel, Or.inr (mem_ps (ps := [1136, 137, 1134, 1135]) (by decide +kernel))⟩
theorem ok_M_remember : okM t_M_remember := ⟨by decide +kernel, by decide +kernel, Or.inr (mem_ps (ps := [1157, 137, 1156, 117]) (by decide +kernel))⟩
theorem ok_M_lies : okM t_M_lies := ⟨by decide +kernel, by decide +kernel, Or.inr (mem_ps (ps := [1161, 137, 1160, 118]) (by decide +kernel))⟩
theorem okg_10 : ∀ t ∈ mt_10, okM t := List.forall_mem_cons.mpr ⟨ok_M_groups, List.forall_mem_cons.mpr ⟨ok_M_isShape, List.forall_mem_cons.mpr ⟨ok_M_isLying, List.forall_mem_cons.mpr ⟨ok_M_whoLies, List.forall_mem_cons.mpr ⟨ok_M_truly, List.forall_mem_cons.mpr ⟨ok_M_steps, List.forall_mem_cons.mpr ⟨ok_M_farOut, List.forall_mem_cons.mpr ⟨ok_M_layAside, List.forall_mem_cons.mpr ⟨ok_M_bare, List.forall_mem_cons.mpr ⟨ok_M_told, List.forall_mem_cons.mpr ⟨ok_M_whoIsAt, List.forall_mem_cons.mpr ⟨ok_M_cell, List.forall_mem_cons.mpr ⟨ok_M_shapeOf, List.forall_mem_cons.mpr ⟨ok_M_person, List.forall_mem_cons.mpr ⟨ok_M_remember, List.forall_mem_cons.mpr ⟨ok_M_lies, fun t h => by cases h⟩⟩⟩⟩⟩⟩⟩⟩⟩⟩⟩⟩⟩⟩⟩⟩
theorem ok_M_lie : okM t_M_lie := ⟨by decide +kernel, by decide +kernel, Or.inr (mem_ps (ps := [1148, 137, 1146, 1147]) (by decide +kernel))⟩
theorem ok_M_rise : okM t_M_rise := ⟨by decide +kernel, by decide +kernel, Or.inr (mem_ps (ps := [1169, 137, 1167, 1168]) (by decide +kernel))⟩
theorem ok_M_nightGoes : okM t_M_nightGoes := ⟨by decide +kernel, by decide +kernel, Or.inr (mem_ps (ps := [1111, 137, 1110, 109]) (by decide +kernel))⟩
theorem ok_M_refuses : okM t_M_refuses := ⟨by decide +kernel, by decide +kernel, Or.inr (mem_ps (ps := [1177, 137, 1176, 120]) (by decide +kernel))⟩
theorem ok_M_night : okM t_M_night := ⟨by decide +kernel, by decide +kernel, Or.inr (mem_ps (ps := [1173, 137, 1171, 1172]) (by decide +kernel))⟩
theorem ok_M_thaw : okM t_M_thaw := ⟨by decide +kernel, by decide +kernel, Or.inr (mem_ps (ps := [1182, 137, 1180, 1181]) (by decide +kernel))⟩
theorem ok_M_snows : okM t_M_snows := ⟨by decide +kernel, by decide +kernel, Or.inr (mem_ps (ps := [1190, 137, 1189, 121]) (by decide +kernel))⟩
theorem ok_M_snow : okM t_M_snow := ⟨by decide +kernel, by decide +kernel, Or.inr (mem_ps (ps := [1186, 137, 1184, 1185]) (by decide +kernel))⟩
theorem ok_M_runs : okM t_M_runs := ⟨by decide +kernel, by decide +kernel, Or.inr (mem_ps (ps := [1198, 137, 1197, 122]) (by decide +kernel))⟩
theorem ok_M_hare : okM t_M_hare := ⟨by decide +kernel, by decide +kernel, Or.inr (mem_ps (ps := [1194, 137, 1192, 1193]) (by decide +kernel))⟩
theorem ok_M_pin : okM t_M_pin := ⟨by decide +kernel, by decide +kernel, Or.inr (mem_ps (ps := [1202, 137, 1200, 1201]) (by decide +kernel))⟩
theorem ok_M_wind : okM t_M_wind := ⟨by decide +kernel, by decide +kernel, Or.inr (mem_ps (ps := [1206, 137, 1204, 1205]) (by decide +kernel))⟩
theorem ok_M_draw : okM t_M_draw := ⟨by decide +kernel, by decide +kernel, Or.inr (mem_ps (ps := [1219, 137, 1218, 124]) (by decide +kernel))⟩
theorem ok_M_draws : okM t_M_draws := ⟨by decide +kernel, by decide +kernel, Or.inr (mem_ps (ps := [1215, 137, 1214, 123]) (by decide +kernel))⟩
theorem ok_M_drift : okM t_M_drift := ⟨by decide +kernel, by decide +kernel, Or.inr (mem_ps (ps := [1211, 137, 1209, 1210]) (by decide +kernel))⟩
theorem ok_M_undo : okM t_M_undo := ⟨by decide +kernel, by decide +kernel, Or.inr (mem_ps (ps := [1227, 137, 1225, 1226]) (by decide +kernel))⟩
theorem okg_11 : ∀ t ∈ mt_11, okM t := List.forall_mem_cons.mpr ⟨ok_M_lie, List.forall_mem_cons.mpr ⟨ok_M_rise, List.forall_mem_cons.mpr ⟨ok_M_nightGoes, List.forall_mem_cons.mpr ⟨ok_M_refuses, List.forall_mem_cons.mpr ⟨ok_M_night, List.forall_mem_cons.mpr ⟨ok_M_thaw, List.forall_mem_cons.mpr ⟨ok_M_snows, List.forall_mem_cons.mpr ⟨ok_M_snow, List.forall_mem_cons.mpr ⟨ok_M_runs, List.forall_mem_cons.mpr ⟨ok_M_hare, List.forall_mem_cons.mpr ⟨ok_M_pin, List.forall_mem_cons.mpr ⟨ok_M_wind, List.forall_mem_cons.mpr ⟨ok_M_draw, List.forall_mem_cons.mpr ⟨ok_M_draws, List.forall_mem_cons.mpr ⟨ok_M_drift, List.forall_mem_cons.mpr ⟨ok_M_undo, fun t h => by cases h⟩⟩⟩⟩⟩⟩⟩⟩⟩⟩⟩⟩⟩⟩⟩⟩
theorem ok_M_left : okM t_M_left := ⟨by decide +kernel, by decide +kernel, Or.inr (mem_ps (ps := [1232, 137, 1230, 1231]) (by decide +kernel))⟩
theorem ok_M_willCount : okM t_M_willCount := ⟨by decide +kernel, by decide +kernel, Or.inr (mem_ps (ps := [1236, 137, 1234, 1235]) (by decide +kernel))⟩
theorem ok_M_wrongFirst : okM t_M_wrongFirst := ⟨by decide +kernel, by decide +kernel, Or.inr (mem_ps (ps := [1240, 137, 1238, 1239]) (by decide +kernel))⟩
theorem ok_M_canLie : okM t_M_canLie := ⟨by decide +kernel, by decide +kernel, Or.inr (mem_ps (ps := [1244, 137, 1242, 1243]) (by decide +kernel))⟩
theorem ok_M_nextOrder : okM t_M_nextOrder := ⟨by decide +kernel, by decide +kernel, Or.inr (mem_ps (ps := [1257, 137, 1256, 125]) (by decide +kernel))⟩
theorem ok_M_round : okM t_M_round := ⟨by decide +kernel, by decide +kernel, Or.inr (mem_ps (ps := [1249, 137, 1247, 1248]) (by decide +kernel))⟩
theorem ok_M_isBy : okM t_M_isBy := ⟨by decide +kernel, by decide +kernel, Or.inr (mem_ps (ps := [1265, 137, 1264, 126]) (by decide +kernel))⟩
theorem ok_M_touch : okM t_M_touch := ⟨by decide +kernel, by decide +kernel, Or.inr (mem_ps (ps := [1261, 137, 1259, 1260]) (by decide +kernel))⟩
theorem ok_M_still : okM t_M_still := ⟨by decide +kernel, by decide +kernel, Or.inr (mem_ps (ps := [1269, 137, 1267, 1268]) (by decide +kernel))⟩
theorem ok_M_find : okM t_M_find := ⟨by decide +kernel, by decide +kernel, Or.inr (mem_ps (ps := [1276, 137, 1274, 1275]) (by decide +kernel))⟩
theorem ok_M_isSo : okM t_M_isSo := ⟨by decide +kernel, by decide +kernel, Or.inr (mem_ps (ps := [1285, 137, 1284, 127]) (by decide +kernel))⟩
theorem ok_M_fits : okM t_M_fits := ⟨by decide +kernel, by decide +kernel, Or.inr (mem_ps (ps := [1280, 137, 1278, 1279]) (by decide +kernel))⟩
theorem ok_M_look : okM t_M_look := ⟨by decide +kernel, by decide +kernel, Or.inr (mem_ps (ps := [1289, 137, 1287, 1288]) (by decide +kernel))⟩
theorem ok_M_write : okM t_M_write := ⟨by decide +kernel, by decide +kernel, Or.inr (mem_ps (ps := [1294, 137, 1292, 1293]) (by decide +kernel))⟩
theorem ok_M_judge : okM t_M_judge := ⟨by decide +kernel, by decide +kernel, Or.inr (mem_ps (ps := [1299, 137, 1297, 1298]) (by decide +kernel))⟩
theorem ok_M_tear : okM t_M_tear := ⟨by decide +kernel, by decide +kernel, Or.inr (mem_ps (ps := [1303, 137, 1301, 1302]) (by decide +kernel))⟩
theorem okg_12 : ∀ t ∈ mt_12, okM t := List.forall_mem_cons.mpr ⟨ok_M_left, List.forall_mem_cons.mpr ⟨ok_M_willCount, List.forall_mem_cons.mpr ⟨ok_M_wrongFirst, List.forall_mem_cons.mpr ⟨ok_M_canLie, List.forall_mem_cons.mpr ⟨ok_M_nextOrder, List.forall_mem_cons.mpr ⟨ok_M_round, List.forall_mem_cons.mpr ⟨ok_M_isBy, List.forall_mem_cons.mpr ⟨ok_M_touch, List.forall_mem_cons.mpr ⟨ok_M_still, List.forall_mem_cons.mpr ⟨ok_M_find, List.forall_mem_cons.mpr ⟨ok_M_isSo, List.forall_mem_cons.mpr ⟨ok_M_fits, List.forall_mem_cons.mpr ⟨ok_M_look, List.forall_mem_cons.mpr ⟨ok_M_write, List.forall_mem_cons.mpr ⟨ok_M_judge, List.forall_mem_cons.mpr ⟨ok_M_tear, fun t h => by cases h⟩⟩⟩⟩⟩⟩⟩⟩⟩⟩⟩⟩⟩⟩⟩⟩
theorem ok_M_seed : okM t_M_seed := ⟨by decide +kernel, by decide +kernel, Or.inr (mem_ps (ps := [1307, 137, 1305, 1306]) (by decide +kernel))⟩
theorem ok_M_keep : okM t_M_keep := ⟨by decide +kernel, by decide +kernel, Or.inr (mem_ps (ps := [1311, 137, 1309, 1310]) (by decide +kernel))⟩
theorem ok_M_goBack : okM t_M_goBack := ⟨by decide +kernel, by decide +kernel, Or.inr (mem_ps (ps := [1315, 137, 1313, 1314]) (by decide +kernel))⟩
theorem ok_JI_bitCount : okM t_JI_bitCount := ⟨by decide +kernel, by decide +kernel, Or.inr (mem_ps (ps := [765, 140, 764]) (by decide +kernel))⟩
theorem ok_JL_bitCount : okM t_JL_bitCount := ⟨by decide +kernel, by decide +kernel, Or.inr (mem_ps (ps := [414, 138, 413]) (by decide +kernel))⟩
theorem ok_JA_fillL : okM t_JA_fillL := ⟨by decide +kernel, by decide +kernel, Or.inr (mem_ps (ps := [371, 133, 370]) (by decide +kernel))⟩
theorem ok_JA_fill : okM t_JA_fill := ⟨by decide +kernel, by decide +kernel, Or.inr (mem_ps (ps := [241, 133, 240]) (by decide +kernel))⟩
theorem ok_W_law : okM t_W_law := ⟨by decide +kernel, by
  show (k_W_law).all (chkE 7 4 (some .boolean) (decide (y_W_law.name = "<init>")) code) = true
  unfold k_W_law
  rw [List.all_append, List.all_append, List.all_append, List.all_append, List.all_append, List.all_append, List.all_append, List.all_append, List.all_append, List.all_append, List.all_append, List.all_append, List.all_append, List.all_append, okp_0, okp_1, okp_2, okp_3, okp_4, okp_5, okp_6, okp_7, okp_8, okp_9, okp_10, okp_11, okp_12, okp_13, okp_14]
  rfl, Or.inl rfl⟩
theorem okg_13 : ∀ t ∈ mt_13, okM t := List.forall_mem_cons.mpr ⟨ok_M_seed, List.forall_mem_cons.mpr ⟨ok_M_keep, List.forall_mem_cons.mpr ⟨ok_M_goBack, List.forall_mem_cons.mpr ⟨ok_JI_bitCount, List.forall_mem_cons.mpr ⟨ok_JL_bitCount, List.forall_mem_cons.mpr ⟨ok_JA_fillL, List.forall_mem_cons.mpr ⟨ok_JA_fill, List.forall_mem_cons.mpr ⟨ok_W_law, fun t h => by cases h⟩⟩⟩⟩⟩⟩⟩⟩
theorem ok_all : ∀ g ∈ mts, ∀ t ∈ g, okM t := List.forall_mem_cons.mpr ⟨okg_0, List.forall_mem_cons.mpr ⟨okg_1, List.forall_mem_cons.mpr ⟨okg_2, List.forall_mem_cons.mpr ⟨okg_3, List.forall_mem_cons.mpr ⟨okg_4, List.forall_mem_cons.mpr ⟨okg_5, List.forall_mem_cons.mpr ⟨okg_6, List.forall_mem_cons.mpr ⟨okg_7, List.forall_mem_cons.mpr ⟨okg_8, List.forall_mem_cons.mpr ⟨okg_9, List.forall_mem_cons.mpr ⟨okg_10, List.forall_mem_cons.mpr ⟨okg_11, List.forall_mem_cons.mpr ⟨okg_12, List.forall_mem_cons.mpr ⟨okg_13, fun t h => by cases h⟩⟩⟩⟩⟩⟩⟩⟩⟩⟩⟩⟩⟩⟩
theorem ok_mt {M : Nat} {t : Meta} (h : mt M = some t) : okM t := by
  unfold mt at h
  have h1 : t ∈ mts.getD (M / 16) [] := List.mem_of_getElem? h
  rw [List.getD_eq_getElem?_getD] at h1
  cases hg : mts[M / 16]? with
  | none => rw [hg] at h1; cases h1
  | some g => rw [hg] at h1; exact ok_all g (List.mem_of_getElem? hg) t h1
theorem gC_mem {pc : Nat} {e : Ent} : ∀ {k : List (Nat × Ent)}, gC k pc = some e → (pc, e) ∈ k
  | [], h => by cases h
  | (j, x) :: r, h => by
    unfold gC at h
    cases hj : Nat.beq j pc with
    | true =>
      rw [hj] at h
      cases h
      rw [Nat.eq_of_beq_eq_true hj]
      exact List.mem_cons_self
    | false =>
      rw [hj] at h
      exact List.mem_cons_of_mem _ (gC_mem h)
end
section
/-! The interpreter: the bytecode's steps over abstract cells. A reference is a position in the list of cells; positions from 1000 on are two arrays that nobody writes (the script, LIMBS). -/
abbrev Lcs : Type := List (Option Value)
abbrev Stk : Type := List Value
abbrev ACell : Type := (Nat × vp_A) ⊕ (Nat × List Value)
abbrev AHp : Type := List ACell
abbrev Scr : Type := Nat × (Nat → Int32)
def isC1 : Value → Bool
  | .long _ => false
  | .double _ => false
  | _ => true
def gL0 : Option (Option Value) → Option Value
  | some (some v) => some v
  | _ => none
def gL (L : Lcs) (i : Nat) : Option Value := gL0 L[i]?
def kil1 (L : Lcs) (j : Nat) : Option (Option Value) → Lcs
  | some (some v) => bif isC1 v then L else L.set j none
  | _ => L
/-- a long whose second half is stored over is gone -/
def kil (L : Lcs) : Nat → Lcs
  | 0 => L
  | j + 1 => kil1 L j L[j]?
def kio : Option Value → Option Value
  | some v => bif isC1 v then some v else none
  | none => none
def tl0 : Lcs → Lcs
  | [] => []
  | _ :: r => none :: r
/-- stores, each in one walk -/
def sL1 : Lcs → Nat → Value → Lcs
  | [], _, _ => []
  | _ :: r, 0, v => some v :: r
  | x :: r, 1, v => kio x :: sL1 r 0 v
  | x :: r, n + 2, v => x :: sL1 r (n + 1) v
def sL2 : Lcs → Nat → Value → Lcs
  | [], _, _ => []
  | _ :: r, 0, v => some v :: tl0 r
  | x :: r, 1, v => kio x :: sL2 r 0 v
  | x :: r, n + 2, v => x :: sL2 r (n + 1) v
def pad : Nat → Lcs → Lcs
  | 0, _ => []
  | n + 1, [] => none :: pad n []
  | n + 1, x :: l => x :: pad n l
def argL : Stk → Lcs
  | [] => []
  | v :: r => bif isC1 v then some v :: argL r else some v :: none :: argL r
def iniL (n : Nat) (as : Stk) : Lcs := pad n (argL as)
def ii2 (f : Int32 → Int32 → Int32) : Stk → Option Stk
  | .int y :: .int x :: S => some (.int (f x y) :: S)
  | _ => none
def iiD (f : Int32 → Int32 → Int32) : Stk → Option Stk
  | .int y :: .int x :: S => bif y == 0 then none else some (.int (f x y) :: S)
  | _ => none
def ll2 (f : Int64 → Int64 → Int64) : Stk → Option Stk
  | .long y :: .long x :: S => some (.long (f x y) :: S)
  | _ => none
def llD (f : Int64 → Int64 → Int64) : Stk → Option Stk
  | .long y :: .long x :: S => bif y == 0 then none else some (.long (f x y) :: S)
  | _ => none
def li2 (f : Int64 → Int32 → Int64) : Stk → Option Stk
  | .int y :: .long x :: S => some (.long (f x y) :: S)
  | _ => none
def i1 (f : Int32 → Value) : Stk → Option Stk
  | .int x :: S => some (f x :: S)
  | _ => none
def l1 (f : Int64 → Value) : Stk → Option Stk
  | .long x :: S => some (f x :: S)
  | _ => none
def lcm2 : Stk → Option Stk
  | .long y :: .long x :: S => some (.int (lg_cmp x y) :: S)
  | _ => none
def dupS : Stk → Option Stk
  | v :: S => bif isC1 v then some (v :: v :: S) else none
  | _ => none
def dup2S : Stk → Option Stk
  | v :: w :: S => bif isC1 v && isC1 w then some (v :: w :: v :: w :: S) else none
  | _ => none
def alu (ins : Instr) (S : Stk) : Option Stk := match ins with
  | .iadd => ii2 (fun x y => x + y) S
  | .isub => ii2 (fun x y => x - y) S
  | .imul => ii2 (fun x y => x * y) S
  | .iand => ii2 (fun x y => x &&& y) S
  | .ior => ii2 (fun x y => x ||| y) S
  | .ixor => ii2 (fun x y => x ^^^ y) S
  | .ishl => ii2 (fun x y => x <<< (y &&& 31)) S
  | .ishr => ii2 (fun x y => x >>> (y &&& 31)) S
  | .iushr => ii2 (fun x y => (x.toUInt32 >>> (y.toUInt32 &&& Int32.toUInt32 31)).toInt32) S
  | .idiv => iiD (fun x y => x / y) S
  | .irem => iiD (fun x y => x - x / y * y) S
  | .ineg => i1 (fun x => .int (-x)) S
  | .ladd => ll2 (fun x y => x + y) S
  | .lsub => ll2 (fun x y => x - y) S
  | .lmul => ll2 (fun x y => x * y) S
  | .land => ll2 (fun x y => x &&& y) S
  | .lor => ll2 (fun x y => x ||| y) S
  | .lxor => ll2 (fun x y => x ^^^ y) S
  | .ldiv => llD (fun x y => x / y) S
  | .lrem => llD (fun x y => x - x / y * y) S
  | .lneg => l1 (fun x => .long (-x)) S
  | .lshl => li2 (fun x y => x <<< (y.toInt64 &&& 63)) S
  | .lshr => li2 (fun x y => x >>> (y.toInt64 &&& 63)) S
  | .lushr => li2 (fun x y => (x.toUInt64 >>> (y.toInt64.toUInt64 &&& Int64.toUInt64 63)).toInt64) S
  | .i2l => i1 (fun x => .long x.toInt64) S
  | .l2i => l1 (fun x => .int x.toInt32) S
  | .lcmp => lcm2 S
  | .dup => dupS S
  | .dup2 => dup2S S
  | _ => none
def ldI : Option Value → Option Value
  | some (.int x) => some (.int x)
  | _ => none
def ldL : Option Value → Option Value
  | some (.long x) => some (.long x)
  | _ => none
def ldA : Option Value → Option Value
  | some (.ref x) => some (.ref x)
  | _ => none
def push (nx : Nat) (L : Lcs) (S : Stk) : Option Value → Option (Nat × Lcs × Stk)
  | some v => some (nx, L, v :: S)
  | none => none
def stI (nx a : Nat) (L : Lcs) : Stk → Option (Nat × Lcs × Stk)
  | .int x :: S => some (nx, sL1 L a (.int x), S)
  | _ => none
def stA (nx a : Nat) (L : Lcs) : Stk → Option (Nat × Lcs × Stk)
  | .ref x :: S => some (nx, sL1 L a (.ref x), S)
  | _ => none
def stL (nx a : Nat) (L : Lcs) : Stk → Option (Nat × Lcs × Stk)
  | .long x :: S => some (nx, sL2 L a (.long x), S)
  | _ => none
def incS (nx a : Nat) (L : Lcs) (S : Stk) : Option Value → Value → Option (Nat × Lcs × Stk)
  | some (.int x), .int n => some (nx, sL1 L a (.int (x + n)), S)
  | _, _ => none
def aluS (nx : Nat) (L : Lcs) : Option Stk → Option (Nat × Lcs × Stk)
  | some S => some (nx, L, S)
  | none => none
def st1 (ins : Instr) (nx a : Nat) (v : Value) (L : Lcs) (S : Stk) : Option (Nat × Lcs × Stk) := match ins with
  | .iconst _ => some (nx, L, v :: S)
  | .bipush _ => some (nx, L, v :: S)
  | .sipush _ => some (nx, L, v :: S)
  | .lconst _ => some (nx, L, v :: S)
  | .ldc _ => some (nx, L, v :: S)
  | .ldc_w _ => some (nx, L, v :: S)
  | .ldc2_w _ => some (nx, L, v :: S)
  | .iload _ => push nx L S (ldI (gL L a))
  | .iload_n _ => push nx L S (ldI (gL L a))
  | .lload _ => push nx L S (ldL (gL L a))
  | .lload_n _ => push nx L S (ldL (gL L a))
  | .aload _ => push nx L S (ldA (gL L a))
  | .aload_n _ => push nx L S (ldA (gL L a))
  | .istore _ => stI nx a L S
  | .istore_n _ => stI nx a L S
  | .lstore _ => stL nx a L S
  | .lstore_n _ => stL nx a L S
  | .astore _ => stA nx a L S
  | .astore_n _ => stA nx a L S
  | .iinc _ _ => incS nx a L S (gL L a) v
  | .goto _ => some (a, L, S)
  | i => aluS nx L (alu i S)
def ifB (c : Jvm.ClassFile.Cond) (x : Int32) : Bool := match c with
  | .eq => decide (x = 0)
  | .ne => decide (¬ x = 0)
  | .lt => decide (x < 0)
  | .ge => decide (0 ≤ x)
  | .gt => decide (0 < x)
  | .le => decide (x ≤ 0)
def cmB (c : Jvm.ClassFile.Cond) (x y : Int32) : Bool := match c with
  | .eq => decide (x = y)
  | .ne => decide (¬ x = y)
  | .lt => decide (x < y)
  | .ge => decide (y ≤ x)
  | .gt => decide (y < x)
  | .le => decide (x ≤ y)
def br0 (c : Jvm.ClassFile.Cond) : Stk → Option (Bool × Stk)
  | .int x :: S => some (ifB c x, S)
  | _ => none
def br2 (c : Jvm.ClassFile.Cond) : Stk → Option (Bool × Stk)
  | .int y :: .int x :: S => some (cmB c x y, S)
  | _ => none
def brS (ins : Instr) (S : Stk) : Option (Bool × Stk) := match ins with
  | .ifCond c _ => br0 c S
  | .if_icmp c _ => br2 c S
  | _ => none
/-- where a switch goes -/
def swT (ins : Instr) (pc : Nat) (x : Int32) : Option Nat := match ins with
  | .tableswitch d lo hi offs => bif decide (x.toInt < lo) || decide (hi < x.toInt) then some ((pc : Int) + d).toNat else
      match offs[(x.toInt - lo).toNat]? with
      | some off => some ((pc : Int) + off).toNat
      | none => none
  | .lookupswitch d ps => some ((pc : Int) + Op.lookupswitch.offset ps.toList d x.toInt).toNat
  | _ => none
def swS (ins : Instr) (pc : Nat) : Stk → Option (Nat × Stk)
  | .int x :: S => match swT ins pc x with
    | some t => some (t, S)
    | none => none
  | _ => none
def limbs : Nat → Int32 := fun i => match i with
  | 0 => 10
  | 1 => 26
  | 2 => 4
  | 3 => 0
  | _ => 2
def ro (sc : Scr) (p : Nat) : Option ACell := bif Nat.beq p 1000 then some (.inl (0, sc.1, .inl sc.2)) else bif Nat.beq p 1001 then some (.inl (0, 5, .inl limbs)) else none
def rd (sc : Scr) (h : AHp) (p : Nat) : Option ACell := match h[p]? with
  | some c => some c
  | none => ro sc p
def inB (i : Int32) (n : Nat) : Bool := decide (0 ≤ i.toInt) && decide (i.toInt < n)
def gfC (a b : Nat) (S : Stk) : Option ACell → Option Stk
  | some (.inr (ci, fs)) => bif Nat.beq ci a then (match fs[b]? with
    | some w => some (w :: S)
    | none => none) else none
  | _ => none
def ialC (i : Int32) (S : Stk) : Option ACell → Option Stk
  | some (.inl (0, n, .inl f)) => bif inB i n then some (.int (f i.toNatClampNeg) :: S) else none
  | _ => none
def lalC (i : Int32) (S : Stk) : Option ACell → Option Stk
  | some (.inl (1, n, .inr (.inl f))) => bif inB i n then some (.long (f i.toNatClampNeg) :: S) else none
  | _ => none
def balC (i : Int32) (S : Stk) : Option ACell → Option Stk
  | some (.inl (2, n, .inl f)) => bif inB i n then some (.int (f i.toNatClampNeg) :: S) else none
  | _ => none
def lenC (S : Stk) : Option ACell → Option Stk
  | some (.inl (0, n, _)) => some (.int (Int32.ofNat n) :: S)
  | some (.inl (1, n, _)) => some (.int (Int32.ofNat n) :: S)
  | _ => none
def hrd (sc : Scr) (ins : Instr) (a b : Nat) (v : Value) (S : Stk) (h : AHp) : Option Stk := match ins with
  | .getstatic _ => some (v :: S)
  | .getfield _ => (match S with
    | .ref p :: S => gfC a b S h[p]?
    | _ => none)
  | .iaload => (match S with
    | .int i :: .ref p :: S => ialC i S (rd sc h p)
    | _ => none)
  | .laload => (match S with
    | .int i :: .ref p :: S => lalC i S h[p]?
    | _ => none)
  | .baload => (match S with
    | .int i :: .ref p :: S => balC i S h[p]?
    | _ => none)
  | .arraylength => (match S with
    | .ref p :: S => lenC S (rd sc h p)
    | _ => none)
  | _ => none
def okV : FieldType → Value → Bool
  | .int, .int _ => true
  | .long, .long _ => true
  | .object _, .ref _ => true
  | .array _, .ref _ => true
  | .boolean, .int x => decide (x = 0) || decide (x = 1)
  | _, _ => false
end
section
/-! the run -/
def catS (S : Stk) : Nat := (S.map fun v => v.category).sum
def pfC (a b : Nat) (w : Value) (p : Nat) (S : Stk) (h : AHp) : Option ACell → Option (Stk × AHp)
  | some (.inr (ci, fs)) => bif Nat.beq ci a && (Nat.blt b fs.length && okV (fty a b) w) then some (S, h.set p (.inr (ci, fs.set b w))) else none
  | _ => none
def iasC (x i : Int32) (p : Nat) (S : Stk) (h : AHp) : Option ACell → Option (Stk × AHp)
  | some (.inl (0, n, .inl f)) => bif inB i n then some (S, h.set p (.inl (0, n, .inl (upd f i.toNatClampNeg x)))) else none
  | _ => none
def lasC (x : Int64) (i : Int32) (p : Nat) (S : Stk) (h : AHp) : Option ACell → Option (Stk × AHp)
  | some (.inl (1, n, .inr (.inl f))) => bif inB i n then some (S, h.set p (.inl (1, n, .inr (.inl (vp_updL f i.toNatClampNeg x))))) else none
  | _ => none
def basC (x i : Int32) (p : Nat) (S : Stk) (h : AHp) : Option ACell → Option (Stk × AHp)
  | some (.inl (2, n, .inl f)) => bif inB i n then some (S, h.set p (.inl (2, n, .inl (upd f i.toNatClampNeg (vp_nar .boolean x))))) else none
  | _ => none
def cpC (sp dp n : Int32) (q : Nat) (S : Stk) (h : AHp) : Option ACell → Option ACell → Option (Stk × AHp)
  | some (.inl (0, n0, .inl f)), some (.inl (0, n1, .inl g)) =>
    bif (decide (0 ≤ sp.toInt) && (decide (0 ≤ dp.toInt) && decide (0 ≤ n.toInt))) && (Nat.ble (sp.toNatClampNeg + n.toNatClampNeg) n0 && (Nat.ble (dp.toNatClampNeg + n.toNatClampNeg) n1 && Nat.ble (catS S) 8))
    then some (S, h.set q (.inl (0, n1, .inl (va_cpy f g sp.toNatClampNeg dp.toNatClampNeg n.toNatClampNeg)))) else none
  | _, _ => none
def cpyS (h : AHp) : Stk → Option (Stk × AHp)
  | .int n :: .int dp :: .ref q :: .int sp :: .ref p :: S => cpC sp dp n q S h h[p]? h[q]?
  | _ => none
def mthC (a : Nat) (h : AHp) (S : Stk) : Option (Stk × AHp) := match a with
  | 990 => (match S with
    | .int y :: .int x :: S => bif Nat.ble (catS S) 8 then some (.int (if x < y then y else x) :: S, h) else none
    | _ => none)
  | 991 => (match S with
    | .int y :: .int x :: S => bif Nat.ble (catS S) 8 then some (.int (if y < x then y else x) :: S, h) else none
    | _ => none)
  | 992 => (match S with
    | .int x :: S => bif Nat.ble (catS S) 8 then some (.int (if 0 ≤ x then x else 0 - x) :: S, h) else none
    | _ => none)
  | 993 => (match S with
    | .long y :: .long x :: S => bif Nat.ble (catS S) 8 then some (.long (if y < x then y else x) :: S, h) else none
    | _ => none)
  | _ => none
def hwr (ins : Instr) (a b : Nat) (S : Stk) (h : AHp) : Option (Stk × AHp) := match ins with
  | .putfield _ => (match S with
    | w :: .ref p :: S => pfC a b w p S h h[p]?
    | _ => none)
  | .iastore => (match S with
    | .int x :: .int i :: .ref p :: S => iasC x i p S h h[p]?
    | _ => none)
  | .lastore => (match S with
    | .long x :: .int i :: .ref p :: S => lasC x i p S h h[p]?
    | _ => none)
  | .bastore => (match S with
    | .int x :: .int i :: .ref p :: S => basC x i p S h h[p]?
    | _ => none)
  | .invokestatic _ => bif Nat.beq a 998 then cpyS h S else mthC a h S
  | .invokespecial _ => (match S with
    | .ref _ :: S => bif Nat.ble (catS S) 8 then some (S, h) else none
    | _ => none)
  | _ => none
def zeroA (t n : Nat) : ACell := match t with
  | 0 => .inl (0, n, .inl fun _ => 0)
  | 1 => .inl (1, n, .inr (.inl fun _ => 0))
  | _ => .inl (2, n, .inl fun _ => 0)
def alc (ins : Instr) (a : Nat) (S : Stk) (h : AHp) : Option (Stk × AHp × Nat) := match ins with
  | .new _ => bif Nat.blt h.length 999 then some (.ref h.length :: S, h ++ [.inr (a, dflt a)], nfs a) else none
  | .newarray _ => (match S with
    | .int n :: S => bif decide (0 ≤ n.toInt) && (decide (n.toInt < 100000) && Nat.blt h.length 999) then some (.ref h.length :: S, h ++ [zeroA a n.toNatClampNeg], n.toNatClampNeg) else none
    | _ => none)
  | _ => none
def rcC (z : Nat) : Option ACell → Bool
  | some (.inr (ci, _)) => Nat.beq ci z
  | _ => false
def rcv (ins : Instr) (z : Nat) (as : Stk) (h : AHp) : Bool := match ins with
  | .invokevirtual _ => (match as with
    | .ref p :: _ => rcC z h[p]?
    | _ => false)
  | .invokespecial _ => (match as with
    | .ref _ :: _ => true
    | _ => false)
  | .invokestatic _ => true
  | _ => false
def calZ (ins : Instr) (b z : Nat) (S : Stk) (h : AHp) : Option (Stk × Stk × Nat) :=
  bif Nat.ble b S.length && (Nat.ble (catS (S.drop b)) 8 && (Nat.ble (catS (S.take b)) (z / 100) && rcv ins (z % 100) (S.take b).reverse h)) then some ((S.take b).reverse, S.drop b, z / 100) else none
def cal (ins : Instr) (b : Nat) (v : Value) (S : Stk) (h : AHp) : Option (Stk × Stk × Nat) := match v with
  | .retAddr z => calZ ins b z S h
  | _ => none
def rtS (ins : Instr) (b : Nat) (S : Stk) : Option (Option Value) := match ins with
  | .ireturn => (match S with
    | [.int x] => bif Nat.beq b 0 || (decide (x = 0) || decide (x = 1)) then some (some (.int x)) else none
    | _ => none)
  | .lreturn => (match S with
    | [.long x] => some (some (.long x))
    | _ => none)
  | .return_ => (match S with
    | [] => some none
    | _ => none)
  | _ => none
def kd (ins : Instr) (a : Nat) : Nat := match ins with
  | .ifCond _ _ => 1
  | .if_icmp _ _ => 1
  | .tableswitch _ _ _ _ => 2
  | .lookupswitch _ _ => 2
  | .getfield _ => 3
  | .getstatic _ => 3
  | .iaload => 3
  | .laload => 3
  | .baload => 3
  | .arraylength => 3
  | .putfield _ => 4
  | .iastore => 4
  | .lastore => 4
  | .bastore => 4
  | .invokestatic _ => bif Nat.ble 990 a then 4 else 6
  | .invokespecial _ => bif Nat.beq a 999 then 4 else 6
  | .invokevirtual _ => 6
  | .new _ => 5
  | .newarray _ => 5
  | .ireturn => 7
  | .lreturn => 7
  | .return_ => 7
  | _ => 0
abbrev Res : Type := Option Value × AHp × Nat × Nat
def run (sc : Scr) : Nat → Nat → Nat → Nat → Lcs → Stk → AHp → Option Res
  | 0, _, _, _, _, _, _ => none
  | f + 1, d, M, pc, L, S, h =>
    match cAt M pc with
    | none => none
    | some (ins, nx, a, b, v) =>
      match kd ins a with
      | 0 => (match st1 ins nx a v L S with
        | none => none
        | some (pc', L', S') => run sc f d M pc' L' S' h)
      | 1 => (match brS ins S with
        | none => none
        | some (c, S') => run sc f d M (bif c then a else nx) L S' h)
      | 2 => (match swS ins pc S with
        | none => none
        | some (t, S') => run sc f d M t L S' h)
      | 3 => (match hrd sc ins a b v S h with
        | none => none
        | some S' => run sc f d M nx L S' h)
      | 4 => (match hwr ins a b S h with
        | none => none
        | some (S', h') => run sc f d M nx L S' h')
      | 5 => (match alc ins a S h with
        | none => none
        | some (S', h', k) => (match run sc f d M nx L S' h' with
          | none => none
          | some (r, h2, c2, n2) => some (r, h2, c2 + 1, n2 + k)))
      | 6 => (match d with
        | 0 => none
        | d' + 1 => (match cal ins b v S h with
          | none => none
          | some (as, rest, nl) => (match run sc f d' a 0 (iniL nl as) [] h with
            | none => none
            | some (r1, h1, c1, n1) => (match run sc f (d' + 1) M nx L (r1.toList ++ rest) h1 with
              | none => none
              | some (r, h2, c2, n2) => some (r, h2, c1 + c2, n1 + n2)))))
      | _ => (match rtS ins b S with
        | none => none
        | some r => some (r, h, 0, 0))
end
section
/-! the interpreter's steps are the machine's: plain steps, branches -/
def cV (ad : Nat → Nat) : Value → Value
  | .ref i => .ref (ad i)
  | v => v
def cS (ad : Nat → Nat) (S : Stk) : List Value := S.map (cV ad)
def cL (ad : Nat → Nat) (L : Lcs) : List (Nat × Value) := (List.range L.length).filterMap (fun i => (gL L i).map (fun v => (i, cV ad v)))
theorem cV_cat (ad : Nat → Nat) (v : Value) : (cV ad v).category = v.category := by cases v <;> rfl
theorem cS_cat (ad : Nat → Nat) (S : Stk) : ((cS ad S).map fun v => v.category).sum = catS S := by
  unfold cS catS
  rw [List.map_map]
  congr 1
  apply List.map_congr_left
  intro v _
  exact cV_cat ad v
theorem isC1_cat {ad : Nat → Nat} {v : Value} (h : isC1 v = true) : (cV ad v).category = 1 := by
  cases v <;> first | rfl | (simp [isC1] at h)
theorem C1_cat {v : Value} (h : isC1 v = true) : ¬ v.category = 2 := by
  cases v <;> first | (intro h2; cases h2; done) | (simp [isC1] at h)
theorem C2_cat {v : Value} (h : isC1 v = false) : v.category = 2 := by
  cases v <;> first | rfl | (simp [isC1] at h)
theorem gL_lt {L : Lcs} {i : Nat} {v : Value} (h : gL L i = some v) : L[i]? = some (some v) := by
  unfold gL gL0 at h
  split at h
  · rename_i w e
    cases h
    exact e
  · cases h
theorem gL_of {L : Lcs} {i : Nat} {v : Value} (h : L[i]? = some (some v)) : gL L i = some v := by
  unfold gL
  rw [h]
  rfl
theorem cL_mem {ad : Nat → Nat} {L : Lcs} {q : Nat × Value} : q ∈ cL ad L ↔ ∃ v, gL L q.1 = some v ∧ q.2 = cV ad v := by
  unfold cL
  constructor
  · intro h
    obtain ⟨i, h1, h2⟩ := List.mem_filterMap.mp h
    cases hg : gL L i with
    | none => rw [hg] at h2; cases h2
    | some v => rw [hg] at h2; cases h2; exact ⟨v, hg, rfl⟩
  · intro ⟨v, h1, h2⟩
    refine List.mem_filterMap.mpr ⟨q.1, List.mem_range.mpr (List.getElem?_eq_some_iff.mp (gL_lt h1)).1, ?_⟩
    rw [h1]
    show some (q.1, cV ad v) = some q
    rw [← h2]
theorem kil_get {L : Lcs} {i j : Nat} {v : Value} (h : (kil L i)[j]? = some (some v)) : L[j]? = some (some v) ∧ ¬ (j + 1 = i ∧ v.category = 2) := by
  cases i with
  | zero => exact ⟨h, fun e => by omega⟩
  | succ n =>
    have h2 : (kil1 L n L[n]?)[j]? = some (some v) := h
    unfold kil1 at h2
    split at h2
    · rename_i w e
      cases hw : isC1 w with
      | true =>
        rw [hw] at h2
        refine ⟨h2, fun e2 => ?_⟩
        obtain ⟨e2, e3⟩ := e2
        have e4 : j = n := by omega
        subst e4
        have h3 := e.symm.trans h2
        cases h3
        exact C1_cat hw e3
      | false =>
        rw [hw] at h2
        have h3 : (L.set n none)[j]? = some (some v) := h2
        rw [List.getElem?_set] at h3
        split at h3
        · split at h3 <;> cases h3
        · rename_i hne
          exact ⟨h3, fun e2 => hne (by omega)⟩
    · rename_i hno
      refine ⟨h2, fun e2 => ?_⟩
      obtain ⟨e2, e3⟩ := e2
      have e4 : j = n := by omega
      subst e4
      exact hno v h2
theorem kil_1 (x : Option Value) (r : Lcs) : kil (x :: r) 1 = kio x :: r := by
  show kil1 (x :: r) 0 (some x) = _
  unfold kil1 kio
  cases x with
  | none => rfl
  | some v =>
    cases hv : isC1 v <;> simp [hv]
theorem kil_2 (x : Option Value) (r : Lcs) (n : Nat) : kil (x :: r) (n + 2) = x :: kil r (n + 1) := by
  show kil1 (x :: r) (n + 1) r[n]? = x :: kil1 r n r[n]?
  unfold kil1
  split
  · rename_i v e
    cases hv : isC1 v <;> rfl
  · rfl
theorem sL1_eq : ∀ (L : Lcs) (i : Nat) (v : Value), sL1 L i v = (kil L i).set i (some v)
  | [], 0, v => rfl
  | [], i + 1, v => by
    show [] = (kil1 [] i none).set (i + 1) (some v)
    rfl
  | x :: r, 0, v => rfl
  | x :: r, 1, v => by
    rw [kil_1]
    show kio x :: sL1 r 0 v = kio x :: r.set 0 (some v)
    rw [sL1_eq r 0 v]
    rfl
  | x :: r, n + 2, v => by
    rw [kil_2]
    show x :: sL1 r (n + 1) v = x :: (kil r (n + 1)).set (n + 1) (some v)
    rw [sL1_eq r (n + 1) v]
theorem sL2_eq : ∀ (L : Lcs) (i : Nat) (v : Value), sL2 L i v = ((kil L i).set i (some v)).set (i + 1) none
  | [], 0, v => rfl
  | [], i + 1, v => rfl
  | x :: [], 0, v => rfl
  | x :: y :: r, 0, v => rfl
  | x :: r, 1, v => by
    rw [kil_1]
    show kio x :: sL2 r 0 v = kio x :: (r.set 0 (some v)).set 1 none
    rw [sL2_eq r 0 v]
    rfl
  | x :: r, n + 2, v => by
    rw [kil_2]
    show x :: sL2 r (n + 1) v = x :: ((kil r (n + 1)).set (n + 1) (some v)).set (n + 2) none
    rw [sL2_eq r (n + 1) v]
theorem lv_mono {ls : Array Slot} {nL : Nat} {l l' : List (Nat × Value)} (h : lv_has ls nL l) (hs : ∀ q ∈ l', q ∈ l) : lv_has ls nL l' := ⟨h.1, h.2.1, fun q hq => h.2.2 q (hs q hq)⟩
theorem cL_st1 (ad : Nat → Nat) (L : Lcs) (i : Nat) (v : Value) : ∀ q ∈ cL ad (sL1 L i v), q ∈ (i, cV ad v) :: (cL ad L).filter (fun q => !(q.1 == i) && !(q.1 + 1 == i && q.2.category == 2)) := by
  intro q hq
  obtain ⟨w, h1, h2⟩ := cL_mem.mp hq
  have h3 := gL_lt h1
  rw [sL1_eq] at h3
  rw [List.getElem?_set] at h3
  split at h3
  · rename_i he
    split at h3
    · cases h3
      obtain ⟨q1, q2⟩ := q
      obtain rfl : i = q1 := he
      rw [show q2 = cV ad v from h2]
      exact List.mem_cons_self
    · cases h3
  · rename_i hne
    obtain ⟨h4, h5⟩ := kil_get h3
    refine List.mem_cons_of_mem _ (List.mem_filter.mpr ⟨cL_mem.mpr ⟨w, gL_of h4, h2⟩, ?_⟩)
    rw [h2, cV_cat]
    have h6 : (q.1 == i) = false := by rw [beq_eq_false_iff_ne]; exact fun e => hne e.symm
    have h7 : (q.1 + 1 == i && w.category == 2) = false := by
      cases h8 : (q.1 + 1 == i && w.category == 2) with
      | false => rfl
      | true =>
        rw [Bool.and_eq_true, beq_iff_eq, beq_iff_eq] at h8
        exact absurd h8 h5
    rw [h6, h7]
    rfl
theorem cL_st2 (ad : Nat → Nat) (L : Lcs) (i : Nat) (v : Value) : ∀ q ∈ cL ad (sL2 L i v), q ∈ (i, cV ad v) :: (cL ad L).filter (fun q => !(q.1 == i) && (!(q.1 == i + 1) && !(q.1 + 1 == i && q.2.category == 2))) := by
  intro q hq
  obtain ⟨w, h1, h2⟩ := cL_mem.mp hq
  have h3 := gL_lt h1
  rw [sL2_eq] at h3
  rw [List.getElem?_set] at h3
  split at h3
  · split at h3 <;> cases h3
  · rename_i hne0
    rw [List.getElem?_set] at h3
    split at h3
    · rename_i he
      split at h3
      · cases h3
        obtain ⟨q1, q2⟩ := q
        obtain rfl : i = q1 := he
        rw [show q2 = cV ad v from h2]
        exact List.mem_cons_self
      · cases h3
    · rename_i hne
      obtain ⟨h4, h5⟩ := kil_get h3
      refine List.mem_cons_of_mem _ (List.mem_filter.mpr ⟨cL_mem.mpr ⟨w, gL_of h4, h2⟩, ?_⟩)
      rw [h2, cV_cat]
      have h6 : (q.1 == i) = false := by rw [beq_eq_false_iff_ne]; exact fun e => hne e.symm
      have h60 : (q.1 == i + 1) = false := by rw [beq_eq_false_iff_ne]; exact fun e => hne0 e.symm
      have h7 : (q.1 + 1 == i && w.category == 2) = false := by
        cases h8 : (q.1 + 1 == i && w.category == 2) with
        | false => rfl
        | true =>
          rw [Bool.and_eq_true, beq_iff_eq, beq_iff_eq] at h8
          exact absurd h8 h5
      rw [h6, h60, h7]
      rfl
theorem gL_cL {ad : Nat → Nat} {L : Lcs} {i : Nat} {v : Value} (h : gL L i = some v) : (i, cV ad v) ∈ cL ad L := cL_mem.mpr ⟨v, h, rfl⟩
theorem gL_ls {ad : Nat → Nat} {ls : Array Slot} {nL : Nat} {L : Lcs} {i : Nat} {v : Value} (hl : lv_has ls nL (cL ad L)) (h : gL L i = some v) : ls[i]? = some (.val (cV ad v)) := hl.2.2 (i, cV ad v) (gL_cL h)
theorem ii2_inv {f : Int32 → Int32 → Int32} {S S' : Stk} (h : ii2 f S = some S') : ∃ x y S0, S = .int y :: .int x :: S0 ∧ S' = .int (f x y) :: S0 := by
  unfold ii2 at h
  split at h
  · cases h
    exact ⟨_, _, _, rfl, rfl⟩
  · cases h
theorem iiD_inv {f : Int32 → Int32 → Int32} {S S' : Stk} (h : iiD f S = some S') : ∃ x y S0, ¬ y = 0 ∧ S = .int y :: .int x :: S0 ∧ S' = .int (f x y) :: S0 := by
  unfold iiD at h
  split at h
  · rename_i y x S0
    cases hy : (y == 0) with
    | true =>
      rw [hy] at h
      cases h
    | false =>
      rw [hy] at h
      cases h
      exact ⟨x, y, S0, (fun e => by rw [e] at hy; exact absurd hy (by decide)), rfl, rfl⟩
  · cases h
theorem ll2_inv {f : Int64 → Int64 → Int64} {S S' : Stk} (h : ll2 f S = some S') : ∃ x y S0, S = .long y :: .long x :: S0 ∧ S' = .long (f x y) :: S0 := by
  unfold ll2 at h
  split at h
  · cases h
    exact ⟨_, _, _, rfl, rfl⟩
  · cases h
theorem llD_inv {f : Int64 → Int64 → Int64} {S S' : Stk} (h : llD f S = some S') : ∃ x y S0, ¬ y = 0 ∧ S = .long y :: .long x :: S0 ∧ S' = .long (f x y) :: S0 := by
  unfold llD at h
  split at h
  · rename_i y x S0
    cases hy : (y == 0) with
    | true =>
      rw [hy] at h
      cases h
    | false =>
      rw [hy] at h
      cases h
      exact ⟨x, y, S0, (fun e => by rw [e] at hy; exact absurd hy (by decide)), rfl, rfl⟩
  · cases h
theorem li2_inv {f : Int64 → Int32 → Int64} {S S' : Stk} (h : li2 f S = some S') : ∃ x y S0, S = .int y :: .long x :: S0 ∧ S' = .long (f x y) :: S0 := by
  unfold li2 at h
  split at h
  · cases h
    exact ⟨_, _, _, rfl, rfl⟩
  · cases h
theorem i1_inv {f : Int32 → Value} {S S' : Stk} (h : i1 f S = some S') : ∃ x S0, S = .int x :: S0 ∧ S' = f x :: S0 := by
  unfold i1 at h
  split at h
  · cases h
    exact ⟨_, _, rfl, rfl⟩
  · cases h
theorem l1_inv {f : Int64 → Value} {S S' : Stk} (h : l1 f S = some S') : ∃ x S0, S = .long x :: S0 ∧ S' = f x :: S0 := by
  unfold l1 at h
  split at h
  · cases h
    exact ⟨_, _, rfl, rfl⟩
  · cases h
theorem lcm2_inv {S S' : Stk} (h : lcm2 S = some S') : ∃ x y S0, S = .long y :: .long x :: S0 ∧ S' = .int (lg_cmp x y) :: S0 := by
  unfold lcm2 at h
  split at h
  · cases h
    exact ⟨_, _, _, rfl, rfl⟩
  · cases h
theorem dupS_inv {S S' : Stk} (h : dupS S = some S') : ∃ v S0, isC1 v = true ∧ S = v :: S0 ∧ S' = v :: v :: S0 := by
  unfold dupS at h
  split at h
  · rename_i v S0
    cases hv : isC1 v with
    | true => rw [hv] at h; cases h; exact ⟨_, _, hv, rfl, rfl⟩
    | false => rw [hv] at h; cases h
  · cases h
theorem dup2S_inv {S S' : Stk} (h : dup2S S = some S') : ∃ v w S0, isC1 v = true ∧ isC1 w = true ∧ S = v :: w :: S0 ∧ S' = v :: w :: v :: w :: S0 := by
  unfold dup2S at h
  split at h
  · rename_i v w S0
    cases hv : (isC1 v && isC1 w) with
    | true => rw [hv] at h; cases h; rw [Bool.and_eq_true] at hv; exact ⟨_, _, _, hv.1, hv.2, rfl, rfl⟩
    | false => rw [hv] at h; cases h
  · cases h
section SA
variable {p : Program} {l : Launch} {e : Env} {R : Room} {s : State} {m : MethodId} {args : Array Value} {below : List Frame} {meth : Method} {c : Code} {H : Heap} {locs : List Loc} {cells slots : Nat} {Q : State → Prop}
variable {cc : ByteArray} {pc : Nat} {ls : Array Slot} {ad : Nat → Nat}
theorem s_alu (hx : p.tables.exec = Jvm.exec) (hb : c.code = cc) {ins : Instr} (hdg : decode cc pc = .ok (ins, ilen ins)) {S S' : Stk} (h : alu ins S = some S')
    (k : W p l e R s m args below meth c H locs cells slots Q (F0 m (pc + ilen ins) ls (cS ad S'))) : W p l e R s m args below meth c H locs cells slots Q (F0 m pc ls (cS ad S)) := by
  unfold alu at h
  split at h
  · obtain ⟨x, y, S0, rfl, rfl⟩ := ii2_inv h; exact lv_iadd (rest := cS ad S0) hx hb hdg k
  · obtain ⟨x, y, S0, rfl, rfl⟩ := ii2_inv h; exact lv_isub (rest := cS ad S0) hx hb hdg k
  · obtain ⟨x, y, S0, rfl, rfl⟩ := ii2_inv h; exact lv_imul (rest := cS ad S0) hx hb hdg k
  · obtain ⟨x, y, S0, rfl, rfl⟩ := ii2_inv h; exact lv_iand (rest := cS ad S0) hx hb hdg k
  · obtain ⟨x, y, S0, rfl, rfl⟩ := ii2_inv h; exact lv_ior (rest := cS ad S0) hx hb hdg k
  · obtain ⟨x, y, S0, rfl, rfl⟩ := ii2_inv h; exact lv_ixor (rest := cS ad S0) hx hb hdg k
  · obtain ⟨x, y, S0, rfl, rfl⟩ := ii2_inv h; exact lv_ishl (rest := cS ad S0) hx hb hdg k
  · obtain ⟨x, y, S0, rfl, rfl⟩ := ii2_inv h; exact lv_ishr (rest := cS ad S0) hx hb hdg k
  · obtain ⟨x, y, S0, rfl, rfl⟩ := ii2_inv h; exact lv_iushr (rest := cS ad S0) hx hb hdg rfl k
  · obtain ⟨x, y, S0, hy, rfl, rfl⟩ := iiD_inv h; exact lv_idiv (rest := cS ad S0) hx hb hdg hy k
  · obtain ⟨x, y, S0, hy, rfl, rfl⟩ := iiD_inv h; exact lv_irem (rest := cS ad S0) hx hb hdg hy k
  · obtain ⟨x, S0, rfl, rfl⟩ := i1_inv h; exact lv_ineg (rest := cS ad S0) hx hb hdg k
  · obtain ⟨x, y, S0, rfl, rfl⟩ := ll2_inv h; exact lv_ladd (rest := cS ad S0) hx hb hdg k
  · obtain ⟨x, y, S0, rfl, rfl⟩ := ll2_inv h; exact lv_lsub (rest := cS ad S0) hx hb hdg k
  · obtain ⟨x, y, S0, rfl, rfl⟩ := ll2_inv h; exact lv_lmul (rest := cS ad S0) hx hb hdg k
  · obtain ⟨x, y, S0, rfl, rfl⟩ := ll2_inv h; exact lv_land (rest := cS ad S0) hx hb hdg k
  · obtain ⟨x, y, S0, rfl, rfl⟩ := ll2_inv h; exact lv_lor (rest := cS ad S0) hx hb hdg k
  · obtain ⟨x, y, S0, rfl, rfl⟩ := ll2_inv h; exact lv_lxor (rest := cS ad S0) hx hb hdg k
  · obtain ⟨x, y, S0, hy, rfl, rfl⟩ := llD_inv h; exact lv_ldiv (rest := cS ad S0) hx hb hdg hy k
  · obtain ⟨x, y, S0, hy, rfl, rfl⟩ := llD_inv h; exact lv_lrem (rest := cS ad S0) hx hb hdg hy k
  · obtain ⟨x, S0, rfl, rfl⟩ := l1_inv h; exact lv_lneg (rest := cS ad S0) hx hb hdg k
  · obtain ⟨x, y, S0, rfl, rfl⟩ := li2_inv h; exact lv_lshl (rest := cS ad S0) hx hb hdg rfl k
  · obtain ⟨x, y, S0, rfl, rfl⟩ := li2_inv h; exact lv_lshr (rest := cS ad S0) hx hb hdg rfl k
  · obtain ⟨x, y, S0, rfl, rfl⟩ := li2_inv h; exact lv_lushr (rest := cS ad S0) hx hb hdg rfl k
  · obtain ⟨x, S0, rfl, rfl⟩ := i1_inv h; exact lv_i2l (rest := cS ad S0) hx hb hdg rfl k
  · obtain ⟨x, S0, rfl, rfl⟩ := l1_inv h; exact lv_l2i (rest := cS ad S0) hx hb hdg rfl k
  · obtain ⟨x, y, S0, rfl, rfl⟩ := lcm2_inv h; exact W.lcmp (rest := cS ad S0) hx hb hdg k
  · obtain ⟨v, S0, hv, rfl, rfl⟩ := dupS_inv h; exact lv_dup (rest := cS ad S0) hx hb hdg (isC1_cat hv) k
  · obtain ⟨v, w, S0, hv, hw, rfl, rfl⟩ := dup2S_inv h; exact lv_dup2_11 (rest := cS ad S0) hx hb hdg (isC1_cat hv) (isC1_cat hw) k
  · cases h
theorem ldI_inv {x : Option Value} {v : Value} (h : ldI x = some v) : ∃ i, x = some (.int i) ∧ v = .int i := by
  unfold ldI at h
  split at h
  · cases h; exact ⟨_, rfl, rfl⟩
  · cases h
theorem ldL_inv {x : Option Value} {v : Value} (h : ldL x = some v) : ∃ i, x = some (.long i) ∧ v = .long i := by
  unfold ldL at h
  split at h
  · cases h; exact ⟨_, rfl, rfl⟩
  · cases h
theorem ldA_inv {x : Option Value} {v : Value} (h : ldA x = some v) : ∃ i, x = some (.ref i) ∧ v = .ref i := by
  unfold ldA at h
  split at h
  · cases h; exact ⟨_, rfl, rfl⟩
  · cases h
theorem push_inv {nx pc' : Nat} {L L' : Lcs} {S S' : Stk} {x : Option Value} (h : push nx L S x = some (pc', L', S')) : ∃ v, x = some v ∧ pc' = nx ∧ L' = L ∧ S' = v :: S := by
  unfold push at h
  split at h
  · cases h; exact ⟨_, rfl, rfl, rfl, rfl⟩
  · cases h
theorem stI_inv {nx a pc' : Nat} {L L' : Lcs} {S S' : Stk} (h : stI nx a L S = some (pc', L', S')) : ∃ x, S = .int x :: S' ∧ pc' = nx ∧ L' = sL1 L a (.int x) := by
  unfold stI at h
  split at h
  · cases h; exact ⟨_, rfl, rfl, rfl⟩
  · cases h
theorem stA_inv {nx a pc' : Nat} {L L' : Lcs} {S S' : Stk} (h : stA nx a L S = some (pc', L', S')) : ∃ x, S = .ref x :: S' ∧ pc' = nx ∧ L' = sL1 L a (.ref x) := by
  unfold stA at h
  split at h
  · cases h; exact ⟨_, rfl, rfl, rfl⟩
  · cases h
theorem stL_inv {nx a pc' : Nat} {L L' : Lcs} {S S' : Stk} (h : stL nx a L S = some (pc', L', S')) : ∃ x, S = .long x :: S' ∧ pc' = nx ∧ L' = sL2 L a (.long x) := by
  unfold stL at h
  split at h
  · cases h; exact ⟨_, rfl, rfl, rfl⟩
  · cases h
theorem incS_inv {nx a pc' : Nat} {L L' : Lcs} {S S' : Stk} {x : Option Value} {v : Value} (h : incS nx a L S x v = some (pc', L', S')) : ∃ i n, x = some (.int i) ∧ v = .int n ∧ S' = S ∧ pc' = nx ∧ L' = sL1 L a (.int (i + n)) := by
  unfold incS at h
  split at h
  · cases h; exact ⟨_, _, rfl, rfl, rfl, rfl, rfl⟩
  · cases h
theorem kOk_inv {i : Nat} {v : Value} {l : List (Nat × Int32)} (h : kOk i v l = true) : ∃ x, v = .int x ∧ (i, x) ∈ l := by
  unfold kOk at h
  split at h
  · exact ⟨_, rfl, of_decide_eq_true h⟩
  · cases h
theorem kOkL_inv {i : Nat} {v : Value} {l : List (Nat × Int64)} (h : kOkL i v l = true) : ∃ x, v = .long x ∧ (i, x) ∈ l := by
  unfold kOkL at h
  split at h
  · exact ⟨_, rfl, of_decide_eq_true h⟩
  · cases h
theorem beqE {a b : Nat} (h : Nat.beq a b = true) : a = b := Nat.eq_of_beq_eq_true h
theorem bltE {a b : Nat} (h : Nat.blt a b = true) : a < b := Nat.le_of_ble_eq_true h
theorem andE {a b : Bool} (h : (a && b) = true) : a = true ∧ b = true := by rwa [Bool.and_eq_true] at h
theorem s_st1 (hx : p.tables.exec = Jvm.exec) (hb : c.code = cc) {o nL : Nat} {rt : Option FieldType} {ini : Bool} {a b : Nat} {v : Value} (hown : s.vm.findClass (own o) = some m.cls) (hts : ∀ w ∈ wT, w.before args s = true) {ins : Instr} (hdg : decode cc pc = .ok (ins, ilen ins)) (hk : lnk o nL rt ini pc ins a b v = true)
    {L L' : Lcs} {S S' : Stk} {pc' : Nat} (hl : lv_has ls nL (cL ad L)) (h : st1 ins (pc + ilen ins) a v L S = some (pc', L', S'))
    (kk : ∀ ls' : Array Slot, lv_has ls' nL (cL ad L') → W p l e R s m args below meth c H locs cells slots Q (F0 m pc' ls' (cS ad S'))) : W p l e R s m args below meth c H locs cells slots Q (F0 m pc ls (cS ad S)) := by
  unfold st1 at h
  split at h
  · cases h
    obtain rfl := of_decide_eq_true hk
    exact lv_iconst hx hb hdg rfl (kk ls hl)
  · cases h
    obtain rfl := of_decide_eq_true hk
    exact lv_bipush hx hb hdg rfl (kk ls hl)
  · cases h
    obtain rfl := of_decide_eq_true hk
    exact lv_sipush hx hb hdg rfl (kk ls hl)
  · cases h
    obtain rfl := of_decide_eq_true hk
    exact lv_lconst hx hb hdg rfl (kk ls hl)
  · cases h
    obtain ⟨x, rfl, hm⟩ := kOk_inv hk
    exact lv_ldc hx hb hown (hts _ (mem_wT (KI_ok o _ hm) rfl)) hdg (kk ls hl)
  · cases h
    obtain ⟨x, rfl, hm⟩ := kOk_inv hk
    exact lv_ldcw hx hb hown (hts _ (mem_wT (KI_ok o _ hm) rfl)) hdg (kk ls hl)
  · cases h
    obtain ⟨x, rfl, hm⟩ := kOkL_inv hk
    exact lv_ldc2 hx hb hown (hts _ (mem_wT (KL_ok o _ hm) rfl)) hdg (kk ls hl)
  · obtain ⟨w, hw, rfl, rfl, rfl⟩ := push_inv h
    obtain ⟨x, hg, rfl⟩ := ldI_inv hw
    obtain rfl := beqE hk
    exact lv_iload hx hb hdg (gL_ls hl hg) (kk ls hl)
  · obtain ⟨w, hw, rfl, rfl, rfl⟩ := push_inv h
    obtain ⟨x, hg, rfl⟩ := ldI_inv hw
    obtain rfl := beqE hk
    exact lv_iload_n hx hb hdg rfl (gL_ls hl hg) (kk ls hl)
  · obtain ⟨w, hw, rfl, rfl, rfl⟩ := push_inv h
    obtain ⟨x, hg, rfl⟩ := ldL_inv hw
    obtain rfl := beqE hk
    exact lv_lload hx hb hdg (gL_ls hl hg) (kk ls hl)
  · obtain ⟨w, hw, rfl, rfl, rfl⟩ := push_inv h
    obtain ⟨x, hg, rfl⟩ := ldL_inv hw
    obtain rfl := beqE hk
    exact lv_lload_n hx hb hdg rfl (gL_ls hl hg) (kk ls hl)
  · obtain ⟨w, hw, rfl, rfl, rfl⟩ := push_inv h
    obtain ⟨x, hg, rfl⟩ := ldA_inv hw
    obtain rfl := beqE hk
    exact lv_aload hx hb hdg (gL_ls hl hg) (kk ls hl)
  · obtain ⟨w, hw, rfl, rfl, rfl⟩ := push_inv h
    obtain ⟨x, hg, rfl⟩ := ldA_inv hw
    obtain rfl := beqE hk
    exact lv_aload_n hx hb hdg rfl (gL_ls hl hg) (kk ls hl)
  · obtain ⟨x, rfl, rfl, rfl⟩ := stI_inv h
    obtain ⟨h1, h2⟩ := andE hk
    obtain rfl := beqE h1
    exact lv_istore hx hb hdg hl (bltE h2) rfl (fun ls' hl' => kk ls' (lv_mono hl' (cL_st1 ad L _ (.int x))))
  · obtain ⟨x, rfl, rfl, rfl⟩ := stI_inv h
    obtain ⟨h1, h2⟩ := andE hk
    obtain rfl := beqE h1
    exact lv_istore_n hx hb hdg rfl hl (bltE h2) rfl (fun ls' hl' => kk ls' (lv_mono hl' (cL_st1 ad L _ (.int x))))
  · obtain ⟨x, rfl, rfl, rfl⟩ := stL_inv h
    obtain ⟨h1, h2⟩ := andE hk
    obtain rfl := beqE h1
    exact lv_lstore hx hb hdg hl (bltE h2) rfl (fun ls' hl' => kk ls' (lv_mono hl' (cL_st2 ad L _ (.long x))))
  · obtain ⟨x, rfl, rfl, rfl⟩ := stL_inv h
    obtain ⟨h1, h2⟩ := andE hk
    obtain rfl := beqE h1
    exact lv_lstore_n hx hb hdg rfl hl (bltE h2) rfl (fun ls' hl' => kk ls' (lv_mono hl' (cL_st2 ad L _ (.long x))))
  · obtain ⟨x, rfl, rfl, rfl⟩ := stA_inv h
    obtain ⟨h1, h2⟩ := andE hk
    obtain rfl := beqE h1
    exact lv_astore hx hb hdg hl (bltE h2) rfl (fun ls' hl' => kk ls' (lv_mono hl' (cL_st1 ad L _ (.ref x))))
  · obtain ⟨x, rfl, rfl, rfl⟩ := stA_inv h
    obtain ⟨h1, h2⟩ := andE hk
    obtain rfl := beqE h1
    exact lv_astore_n hx hb hdg rfl hl (bltE h2) rfl (fun ls' hl' => kk ls' (lv_mono hl' (cL_st1 ad L _ (.ref x))))
  · obtain ⟨x, n, hg, rfl, rfl, rfl, rfl⟩ := incS_inv h
    obtain ⟨h1, h20⟩ := andE hk
    obtain ⟨h21, h30⟩ := andE h20
    obtain rfl := beqE h1
    have h4 := of_decide_eq_true h30
    cases h4
    obtain ⟨kx, hkx⟩ := List.getElem?_of_mem (gL_cL (ad := ad) hg)
    exact lv_iinc hx hb hdg hl hkx rfl (bltE h21) rfl (fun ls' hl' => kk ls' (lv_mono hl' (cL_st1 ad L _ (.int _))))
  · cases h
    exact lv_goto hx hb hdg (of_decide_eq_true hk) (kk ls hl)
  · cases hA : alu ins S with
    | none => rw [hA] at h; cases h
    | some S1 =>
      rw [hA] at h
      cases h
      exact s_alu hx hb hdg hA (kk ls hl)
theorem s_br (hx : p.tables.exec = Jvm.exec) (hb : c.code = cc) {o nL : Nat} {rt : Option FieldType} {ini : Bool} {a b : Nat} {v : Value} {ins : Instr} (hdg : decode cc pc = .ok (ins, ilen ins)) (hk : lnk o nL rt ini pc ins a b v = true)
    {S S' : Stk} {cd : Bool} (h : brS ins S = some (cd, S'))
    (k : W p l e R s m args below meth c H locs cells slots Q (F0 m (bif cd then a else pc + ilen ins) ls (cS ad S'))) : W p l e R s m args below meth c H locs cells slots Q (F0 m pc ls (cS ad S)) := by
  unfold brS at h
  split at h
  · rename_i q off
    unfold br0 at h
    split at h
    · rename_i x S0
      have ht := of_decide_eq_true hk
      cases h
      cases q
      · exact lv_if_eq hx hb hdg ht (fun z => by rw [show ifB .eq x = true from decide_eq_true z] at k; exact k) (fun z => by rw [show ifB .eq x = false from decide_eq_false z] at k; exact k)
      · exact lv_if_ne hx hb hdg ht (fun z => by rw [show ifB .ne x = true from decide_eq_true z] at k; exact k) (fun z => by rw [show ifB .ne x = false from decide_eq_false (fun n => n z)] at k; exact k)
      · exact lv_if_lt hx hb hdg ht (fun z => by rw [show ifB .lt x = true from decide_eq_true z] at k; exact k) (fun z => by rw [show ifB .lt x = false from decide_eq_false z] at k; exact k)
      · exact lv_if_ge hx hb hdg ht (fun z => by rw [show ifB .ge x = true from decide_eq_true z] at k; exact k) (fun z => by rw [show ifB .ge x = false from decide_eq_false z] at k; exact k)
      · exact lv_if_gt hx hb hdg ht (fun z => by rw [show ifB .gt x = true from decide_eq_true z] at k; exact k) (fun z => by rw [show ifB .gt x = false from decide_eq_false z] at k; exact k)
      · exact lv_if_le hx hb hdg ht (fun z => by rw [show ifB .le x = true from decide_eq_true z] at k; exact k) (fun z => by rw [show ifB .le x = false from decide_eq_false z] at k; exact k)
    · cases h
  · rename_i q off
    unfold br2 at h
    split at h
    · rename_i y x S0
      have ht := of_decide_eq_true hk
      cases h
      cases q
      · exact lv_icmp_eq hx hb hdg ht (fun z => by rw [show cmB .eq x y = true from decide_eq_true z] at k; exact k) (fun z => by rw [show cmB .eq x y = false from decide_eq_false z] at k; exact k)
      · exact lv_icmp_ne hx hb hdg ht (fun z => by rw [show cmB .ne x y = true from decide_eq_true z] at k; exact k) (fun z => by rw [show cmB .ne x y = false from decide_eq_false (fun n => n z)] at k; exact k)
      · exact lv_icmp_lt hx hb hdg ht (fun z => by rw [show cmB .lt x y = true from decide_eq_true z] at k; exact k) (fun z => by rw [show cmB .lt x y = false from decide_eq_false z] at k; exact k)
      · exact lv_icmp_ge hx hb hdg ht (fun z => by rw [show cmB .ge x y = true from decide_eq_true z] at k; exact k) (fun z => by rw [show cmB .ge x y = false from decide_eq_false z] at k; exact k)
      · exact lv_icmp_gt hx hb hdg ht (fun z => by rw [show cmB .gt x y = true from decide_eq_true z] at k; exact k) (fun z => by rw [show cmB .gt x y = false from decide_eq_false z] at k; exact k)
      · exact lv_icmp_le hx hb hdg ht (fun z => by rw [show cmB .le x y = true from decide_eq_true z] at k; exact k) (fun z => by rw [show cmB .le x y = false from decide_eq_false z] at k; exact k)
    · cases h
  · cases h
theorem off_ge {pc : Nat} {d x : Int} : ∀ {l : List (Int × Int)}, 0 ≤ (pc : Int) + d → l.all (fun q => decide (0 ≤ (pc : Int) + q.2)) = true → 0 ≤ (pc : Int) + Op.lookupswitch.offset l d x
  | [], h, _ => h
  | (a, f) :: r, h, h2 => by
    rw [List.all_cons] at h2
    obtain ⟨h3, h4⟩ := andE h2
    rw [Op.lookupswitch.offset_cons]
    split
    · exact of_decide_eq_true h3
    · exact off_ge h h4
theorem s_sw (hx : p.tables.exec = Jvm.exec) (hb : c.code = cc) {o nL : Nat} {rt : Option FieldType} {ini : Bool} {a b len : Nat} {v : Value} {ins : Instr} (hdg : decode cc pc = .ok (ins, len)) (hk : lnk o nL rt ini pc ins a b v = true)
    {S S' : Stk} {t : Nat} (h : swS ins pc S = some (t, S'))
    (k : W p l e R s m args below meth c H locs cells slots Q (F0 m t ls (cS ad S'))) : W p l e R s m args below meth c H locs cells slots Q (F0 m pc ls (cS ad S)) := by
  unfold swS at h
  split at h
  · rename_i x S0
    cases hT : swT ins pc x with
    | none => rw [hT] at h; cases h
    | some t2 =>
      rw [hT] at h
      cases h
      unfold swT at hT
      split at hT
      · rename_i d lo hi offs
        obtain ⟨h1, h2⟩ := andE hk
        cases hc : (decide (x.toInt < lo) || decide (hi < x.toInt)) with
        | true =>
          rw [hc] at hT
          cases hT
          rw [Bool.or_eq_true, decide_eq_true_eq, decide_eq_true_eq] at hc
          exact lv_tableOut hx hb hdg hc (Int.toNat_of_nonneg (of_decide_eq_true h1)).symm k
        | false =>
          rw [hc] at hT
          rw [Bool.or_eq_false_iff, decide_eq_false_iff_not, decide_eq_false_iff_not] at hc
          cases ho : offs[(x.toInt - lo).toNat]? with
          | none => rw [ho] at hT; cases hT
          | some off =>
            rw [ho] at hT
            cases hT
            have hm : off ∈ offs.toList := by
              rw [← Array.getElem?_toList] at ho
              exact List.mem_of_getElem? ho
            exact lv_tableIn hx hb hdg hc.1 hc.2 ho (Int.toNat_of_nonneg (of_decide_eq_true (List.all_eq_true.mp h2 off hm))).symm k
      · rename_i d ps
        cases hT
        obtain ⟨h1, h2⟩ := andE hk
        obtain ⟨h2, h3⟩ := andE h2
        exact lv_lookup hx hb hdg h1 rfl (Int.toNat_of_nonneg (off_ge (of_decide_eq_true h2) h3)).symm k
      · cases hT
  · cases h
end SA
end
section
/-! the interpreter's steps are the machine's: cells -/
theorem clK : ∀ ci, ci < 7 → classes[ci]? = some (clR ci, clT ci, nfs ci)
  | 0, _ => rfl
  | 1, _ => rfl
  | 2, _ => rfl
  | 3, _ => rfl
  | 4, _ => rfl
  | 5, _ => rfl
  | 6, _ => rfl
  | n + 7, h => absurd h (by omega)
theorem gw_lay (C : String) (T : u_T) (k : Nat) : gw (u_lay C T k) = true := by
  unfold u_lay
  split <;> rfl
theorem in_wT {C : String} {T : u_T} {N : Nat} (h : ∀ w ∈ u_ws C T N, w ∈ lw_tbl) : ∀ w ∈ u_ws C T N, w ∈ wT := by
  intro w hw
  refine mem_wT (h w hw) ?_
  obtain ⟨k, -, rfl⟩ := List.mem_map.mp hw
  exact gw_lay C T k
theorem clin : ∀ ci, ci < 7 → ∀ w ∈ u_ws (clR ci) (clT ci) (nfs ci), w ∈ wT
  | 0, _ => in_wT inX0
  | 1, _ => in_wT inX1
  | 2, _ => in_wT inX2
  | 3, _ => in_wT inX3
  | 4, _ => in_wT inX4
  | 5, _ => in_wT inX5
  | 6, _ => in_wT inX6
  | n + 7, h => absurd h (by omega)
theorem clit : ∀ ci, ci < 7 → Cond.instantiable (clR ci) (nfs ci) ∈ lw_tbl
  | 0, _ => itX0
  | 1, _ => itX1
  | 2, _ => itX2
  | 3, _ => itX3
  | 4, _ => itX4
  | 5, _ => itX5
  | 6, _ => itX6
  | n + 7, h => absurd h (by omega)
theorem clini : ∀ ci, ci < 7 → Cond.initialized (clR ci) ∈ lw_tbl
  | 0, _ => iniX0
  | 1, _ => iniX1
  | 2, _ => iniX2
  | 3, _ => iniX3
  | 4, _ => iniX4
  | 5, _ => iniX5
  | 6, _ => iniX6
  | n + 7, h => absurd h (by omega)
theorem clty : ∀ ci, ci < 7 → ∀ k, k < nfs ci → parseFieldDescriptor (clT ci k).2.2.1 = some (fty ci k)
  | 0, _ => tyX0_ok
  | 1, _ => tyX1_ok
  | 2, _ => tyX2_ok
  | 3, _ => tyX3_ok
  | 4, _ => tyX4_ok
  | 5, _ => tyX5_ok
  | 6, _ => tyX6_ok
  | n + 7, h => absurd h (by omega)
theorem clnm : ∀ ci, ci < 7 → ∀ a, a < nfs ci → ∀ b, b < nfs ci → a ≠ b → (clT ci a).2.1 ≠ (clT ci b).2.1
  | 0, _ => nmX0
  | 1, _ => nmX1
  | 2, _ => nmX2
  | 3, _ => nmX3
  | 4, _ => nmX4
  | 5, _ => nmX5
  | 6, _ => nmX6
  | n + 7, h => absurd h (by omega)
theorem clT1 : ∀ ci, ci < 7 → ∀ k, k < nfs ci → (clT ci k).1 = clR ci := by decide +kernel
theorem clD : ∀ ci, ci < 7 → ∀ j, j < nfs ci → defaultValue (fty ci j) = vp_V (dflt ci) j := by decide +kernel
theorem cldf (ad : Nat → Nat) : ∀ ci, ci < 7 → (dflt ci).map (cV ad) = dflt ci
  | 0, _ => rfl
  | 1, _ => rfl
  | 2, _ => rfl
  | 3, _ => rfl
  | 4, _ => rfl
  | 5, _ => rfl
  | 6, _ => rfl
  | n + 7, h => absurd h (by omega)
theorem FT_rng0 : ∀ o, o < 12 → ∀ q ∈ FT o, q.2.1 < 7 ∧ q.2.2.1 < nfs q.2.1 := by decide +kernel
theorem FT_rng {o : Nat} {q : Nat × Nat × Nat × Nat} (h : q ∈ FT o) : q.2.1 < 7 ∧ q.2.2.1 < nfs q.2.1 := by
  rcases Nat.lt_or_ge o 12 with ho | ho
  · exact FT_rng0 o ho q h
  · obtain ⟨n, rfl⟩ : ∃ n, o = n + 12 := ⟨o - 12, by omega⟩
    cases h
theorem CT_rng0 : ∀ o, o < 12 → ∀ q ∈ CT o, q.2 < 7 := by decide +kernel
theorem CT_rng {o : Nat} {q : Nat × Nat} (h : q ∈ CT o) : q.2 < 7 := by
  rcases Nat.lt_or_ge o 12 with ho | ho
  · exact CT_rng0 o ho q h
  · obtain ⟨n, rfl⟩ : ∃ n, o = n + 12 := ⟨o - 12, by omega⟩
    cases h
theorem okV_ok (ad : Nat → Nat) {ty : FieldType} {v : Value} (h : okV ty v = true) : narrow ty (cV ad v) = cV ad v ∧ fits ty (cV ad v) = true := by
  unfold okV at h
  split at h
  · exact ⟨rfl, rfl⟩
  · exact ⟨rfl, rfl⟩
  · exact ⟨rfl, rfl⟩
  · exact ⟨rfl, rfl⟩
  · rename_i x
    rw [Bool.or_eq_true, decide_eq_true_eq, decide_eq_true_eq] at h
    rcases h with rfl | rfl
    · exact ⟨(by decide : narrow .boolean (.int 0) = .int 0), (by decide : fits .boolean (.int 0) = true)⟩
    · exact ⟨(by decide : narrow .boolean (.int 1) = .int 1), (by decide : fits .boolean (.int 1) = true)⟩
  · cases h
def cE (ad : Nat → Nat) (cT : Nat → ClassId) : ACell → va_E
  | .inl (t, x) => .inl (cT t, x)
  | .inr (ci, fs) => .inr (ci, fs.map (cV ad))
def cW (ad : Nat → Nat) (cT : Nat → ClassId) (h : AHp) : va_W := h.mapIdx (fun i x => (ad i, cE ad cT x))
def tyL (cT : Nat → ClassId) : List (ClassId × FieldType) := [(cT 0, .int), (cT 1, .long), (cT 2, .boolean)]
theorem cW_get {ad : Nat → Nat} {cT : Nat → ClassId} {h : AHp} {i : Nat} {x : ACell} (hx : h[i]? = some x) : (cW ad cT h)[i]? = some (ad i, cE ad cT x) := by
  unfold cW
  rw [List.getElem?_mapIdx, hx]
  rfl
theorem cW_inv {ad : Nat → Nat} {cT : Nat → ClassId} {h : AHp} {i : Nat} {q : Nat × va_E} (hx : (cW ad cT h)[i]? = some q) : i < h.length ∧ q.1 = ad i := by
  unfold cW at hx
  rw [List.getElem?_mapIdx] at hx
  cases hi : h[i]? with
  | none => rw [hi] at hx; cases hx
  | some x =>
    rw [hi] at hx
    cases hx
    exact ⟨(List.getElem?_eq_some_iff.mp hi).1, rfl⟩
theorem cW_set (ad : Nat → Nat) (cT : Nat → ClassId) (h : AHp) (p : Nat) (x : ACell) : (cW ad cT h).set p (ad p, cE ad cT x) = cW ad cT (h.set p x) := by
  unfold cW
  apply List.ext_getElem?
  intro i
  rw [List.getElem?_set, List.getElem?_mapIdx, List.getElem?_mapIdx, List.getElem?_set, List.length_mapIdx]
  by_cases hp : p = i
  · subst hp
    rw [if_pos rfl, if_pos rfl]
    split <;> rfl
  · rw [if_neg hp, if_neg hp]
theorem cW_app (ad : Nat → Nat) (cT : Nat → ClassId) (h : AHp) (x : ACell) : cW ad cT h ++ [(ad h.length, cE ad cT x)] = cW ad cT (h ++ [x]) := by
  unfold cW
  rw [List.mapIdx_concat]
theorem cW_len (ad : Nat → Nat) (cT : Nat → ClassId) (h : AHp) : (cW ad cT h).length = h.length := by
  unfold cW
  rw [List.length_mapIdx]
def Ga (base : Nat) (ad : Nat → Nat) : Prop := (∀ i, i < 1000 → ad i = base + i) ∧ ad 1000 < base ∧ ad 1001 < base
theorem cW_D {base : Nat} {ad : Nat → Nat} (hG : Ga base ad) (cT : Nat → ClassId) {h : AHp} (hl : h.length < 1000) : va_D (fun q => base ≤ q) (cW ad cT h) := by
  refine ⟨fun i j p q hi hj e => ?_, fun k q hk => ?_⟩
  · obtain ⟨i1, i2⟩ := cW_inv hi
    obtain ⟨j1, j2⟩ := cW_inv hj
    rw [i2, j2, hG.1 i (by omega), hG.1 j (by omega)] at e
    omega
  · obtain ⟨k1, k2⟩ := cW_inv hk
    show base ≤ q.1
    rw [k2, hG.1 k (by omega)]
    omega
/-- the world: the cells, the classes, the two arrays that nobody writes, the static -/
def Wd (base : Nat) (ad : Nat → Nat) (cT : Nat → ClassId) (D : va_G) (sc : Scr) (h : AHp) (U : State) (H : Heap) : Prop :=
  h.length < 1000 ∧ va_P D classes (cW ad cT h) H ∧ va_K D classes (tyL cT) U ∧ va_X (ad 1000) sc.1 sc.2 U H ∧ va_T .int (ad 1001) 5 (fun j => .int (limbs j)) (fun q => base ≤ q) U H ∧ va_Z "WingCensus" "LIMBS" "[I" (.ref (ad 1001)) (fun q => base ≤ q) U H
theorem Wd.moved {base : Nat} {ad : Nat → Nat} {cT : Nat → ClassId} {D : va_G} {sc : Scr} {h : AHp} {u U : State} {H : Heap} (hvm : u.vm.Alike U.vm) (w : Wd base ad cT D sc h u H) : Wd base ad cT D sc h U H :=
  ⟨w.1, w.2.1, va_K.moved hvm w.2.2.1, va_X.moved hvm w.2.2.2.1, va_T.moved hvm w.2.2.2.2.1, va_Z.moved hvm w.2.2.2.2.2⟩
theorem Wd.next {base : Nat} {ad : Nat → Nat} {cT : Nat → ClassId} {D : va_G} {sc : Scr} {h h1 : AHp} {U : State} {H H1 : Heap} (hG : Ga base ad) (w : Wd base ad cT D sc h U H) (hl : h1.length < 1000) (hP : va_P D classes (cW ad cT h1) H1) (hq : ∀ q, q < base → H1[q]? = H[q]?) : Wd base ad cT D sc h1 U H1 :=
  ⟨hl, hP, w.2.2.1, w.2.2.2.1.kept (hq _ hG.2.1), w.2.2.2.2.1.kept (fun a _ ha => hq a (Nat.lt_of_not_le ha)), w.2.2.2.2.2.kept (fun a _ ha => hq a (Nat.lt_of_not_le ha))⟩
theorem S_eq {base : Nat} {H0 H H1 : Heap} {l l1 : List Loc} (hb : base ≤ H0.size) (h : va_S (fun q => base ≤ q) H0 H l) (h1 : va_S (fun q => base ≤ q) H0 H1 l1) : ∀ q, q < base → H1[q]? = H[q]? := by
  intro q hq
  rw [h.2.1 q (by omega) (by omega), h1.2.1 q (by omega) (by omega)]
theorem inB_in {i : Int32} {n : Nat} (h : inB i n = true) : vp_in i n := by
  obtain ⟨h1, h2⟩ := andE h
  exact vp_in_iff.mpr ⟨of_decide_eq_true h1, of_decide_eq_true h2⟩
theorem gfC_inv {a b : Nat} {S S' : Stk} {x : Option ACell} (h : gfC a b S x = some S') : ∃ fs w, x = some (.inr (a, fs)) ∧ fs[b]? = some w ∧ S' = w :: S := by
  unfold gfC at h
  split at h
  · rename_i ci fs
    cases hc : Nat.beq ci a with
    | false => rw [hc] at h; cases h
    | true =>
      rw [hc] at h
      obtain rfl := beqE hc
      cases hf : fs[b]? with
      | none => simp only [hf] at h; cases h
      | some w => simp only [hf] at h; cases h; exact ⟨fs, w, rfl, hf, rfl⟩
  · cases h
theorem ialC_inv {i : Int32} {S S' : Stk} {x : Option ACell} (h : ialC i S x = some S') : ∃ n f, x = some (.inl (0, n, .inl f)) ∧ vp_in i n ∧ S' = .int (f i.toNatClampNeg) :: S := by
  unfold ialC at h
  split at h
  · rename_i n f
    cases hc : inB i n with
    | false => rw [hc] at h; cases h
    | true => rw [hc] at h; cases h; exact ⟨n, f, rfl, inB_in hc, rfl⟩
  · cases h
theorem lalC_inv {i : Int32} {S S' : Stk} {x : Option ACell} (h : lalC i S x = some S') : ∃ n f, x = some (.inl (1, n, .inr (.inl f))) ∧ vp_in i n ∧ S' = .long (f i.toNatClampNeg) :: S := by
  unfold lalC at h
  split at h
  · rename_i n f
    cases hc : inB i n with
    | false => rw [hc] at h; cases h
    | true => rw [hc] at h; cases h; exact ⟨n, f, rfl, inB_in hc, rfl⟩
  · cases h
theorem balC_inv {i : Int32} {S S' : Stk} {x : Option ACell} (h : balC i S x = some S') : ∃ n f, x = some (.inl (2, n, .inl f)) ∧ vp_in i n ∧ S' = .int (f i.toNatClampNeg) :: S := by
  unfold balC at h
  split at h
  · rename_i n f
    cases hc : inB i n with
    | false => rw [hc] at h; cases h
    | true => rw [hc] at h; cases h; exact ⟨n, f, rfl, inB_in hc, rfl⟩
  · cases h
theorem rd_inv {sc : Scr} {h : AHp} {p : Nat} {x : ACell} (e : rd sc h p = some x) : h[p]? = some x ∨ (p = 1000 ∧ x = .inl (0, sc.1, .inl sc.2)) ∨ (p = 1001 ∧ x = .inl (0, 5, .inl limbs)) := by
  unfold rd at e
  split at e
  · rename_i y hy
    cases e
    exact Or.inl hy
  · unfold ro at e
    cases h1 : Nat.beq p 1000 with
    | true => rw [h1] at e; cases e; exact Or.inr (Or.inl ⟨beqE h1, rfl⟩)
    | false =>
      rw [h1] at e
      cases h2 : Nat.beq p 1001 with
      | true => rw [h2] at e; cases e; exact Or.inr (Or.inr ⟨beqE h2, rfl⟩)
      | false => rw [h2] at e; cases e
section SB
variable {p : Program} {l : Launch} {e : Env} {R : Room} {s : State} {m : MethodId} {args : Array Value} {below : List Frame} {meth : Method} {c : Code} {H : Heap} {locs : List Loc} {cells slots : Nat} {Q : State → Prop}
variable {cc : ByteArray} {pc : Nat} {ls : Array Slot} {ad : Nat → Nat} {cT : Nat → ClassId} {D : va_G} {sc : Scr} {base : Nat}
theorem s_hrd (hx : p.tables.exec = Jvm.exec) (hb : c.code = cc) {o nL : Nat} {rt : Option FieldType} {ini : Bool} {a b : Nat} {v : Value} (hown : s.vm.findClass (own o) = some m.cls) (hts : ∀ w ∈ wT, w.before args s = true) {ins : Instr} (hdg : decode cc pc = .ok (ins, ilen ins)) (hk : lnk o nL rt ini pc ins a b v = true)
    (hG : Ga base ad) {h : AHp} (w : Wd base ad cT D sc h s H) (hS : va_S (fun q => base ≤ q) s.heap H locs) (hbs0 : base ≤ s.heap.size) {S S' : Stk} (hh : hrd sc ins a b v S h = some S')
    (k : W p l e R s m args below meth c H locs cells slots Q (F0 m (pc + ilen ins) ls (cS ad S'))) : W p l e R s m args below meth c H locs cells slots Q (F0 m pc ls (cS ad S)) := by
  obtain ⟨hlen, hP, hK, hX0, hX1, hZ⟩ := w
  have hlc := hS.2.2
  have hbs : base ≤ H.size := Nat.le_trans hbs0 hS.1
  have hSS : va_S (fun q => base ≤ q) H H locs := ⟨Nat.le_refl _, fun _ _ _ => rfl, hlc⟩
  have hT1 : va_T .int (ad 1001) 5 (fun j => .int (limbs j)) (fun q => base ≤ q) s s.heap := hX1.kept (fun a _ ha => (hS.2.1 a (Nat.lt_of_lt_of_le (Nat.lt_of_not_le ha) hbs0) ha).symm)
  unfold hrd at hh
  split at hh
  · cases hh
    obtain ⟨h1, h2⟩ := andE hk
    obtain ⟨h2, h3⟩ := andE h2
    obtain rfl := of_decide_eq_true h1
    obtain rfl := beqE h2
    obtain rfl := beqE h3
    obtain ⟨cf, kf, fi, f, a1, cell, z1, z2, z3, z4, z5, z6, z7, z8⟩ := hZ
    exact va_WgetsN hx hb hown (hts _ (mem_wT w_li rfl)) z1 z2 z3 z4 z5 (fun e => by rw [e] at z6; cases z6) z7 rfl hdg k
  · split at hh
    · rename_i i q S0
      obtain ⟨fs, w, e1, e2, rfl⟩ := gfC_inv hh
      have he := cW_get (ad := ad) (cT := cT) e1
      have hv : (fs.map (cV ad))[b]? = some (cV ad w) := by rw [List.getElem?_map, e2]; rfl
      rcases (Bool.or_eq_true _ _).mp hk with hf | hf
      · have hf := of_decide_eq_true hf
        obtain ⟨r1, r2⟩ := FT_rng hf
        exact va_get (D := D) (cl := classes) (C := clR a) (T := clT a) (N := nfs a) (ref := clR a) hx hb hts (clin a r1) hown hK hP q he (clK a r1) b r2 (hts _ (mem_wT (FT_ok o _ hf) rfl)) (fun x hx => by rw [clT1 a r1 b r2] at hx; exact hx) hv hdg k
      · have hf := of_decide_eq_true hf
        obtain ⟨r1, r2⟩ := FT_rng hf
        exact va_getN (D := D) (cl := classes) (C := clR a) (T := clT a) (N := nfs a) (ref := clR a) (host := "WingCensus") hx hb hts (clin a r1) hown hK hP q he (clK a r1) b r2 (hts _ (mem_wT (FT_ok o _ hf) rfl)) (fun x hx => by rw [clT1 a r1 b r2] at hx; exact hx) hv hdg k
    · cases hh
  · split at hh
    · rename_i i q S0
      obtain ⟨n, f, e1, e2, rfl⟩ := ialC_inv hh
      rcases rd_inv e1 with e9 | ⟨rfl, e9⟩ | ⟨rfl, e9⟩
      · exact va_iald hx hb hK hP q 0 (cW_get e9) rfl e2 hdg k
      · cases e9
        exact va_sld (A := fun q => base ≤ q) hx hb hX0 (Nat.lt_of_lt_of_le hG.2.1 hbs) (Nat.not_le.mpr hG.2.1) hSS e2 hdg k
      · cases e9
        exact va_ti hx hb hT1 hS e2 rfl hdg k
    · cases hh
  · split at hh
    · rename_i i q S0
      obtain ⟨n, f, e1, e2, rfl⟩ := lalC_inv hh
      exact va_lald hx hb hK hP q 1 (cW_get e1) rfl e2 hdg k
    · cases hh
  · split at hh
    · rename_i i q S0
      obtain ⟨n, f, e1, e2, rfl⟩ := balC_inv hh
      exact va_zald hx hb hK hP q 2 (cW_get e1) rfl e2 hdg k
    · cases hh
  · split at hh
    · rename_i q S0
      unfold lenC at hh
      split at hh
      · rename_i n x e1
        cases hh
        rcases rd_inv e1 with e9 | ⟨rfl, e9⟩ | ⟨rfl, e9⟩
        · exact va_alen hx hb hK hP q 0 (cW_get e9) rfl rfl hdg k
        · cases e9
          exact va_slen (A := fun q => base ≤ q) hx hb hX0 (Nat.lt_of_lt_of_le hG.2.1 hbs) (Nat.not_le.mpr hG.2.1) hSS hdg k
        · cases e9
          exact va_tlen hx hb hT1 hS rfl hdg k
      · rename_i n x e1
        cases hh
        rcases rd_inv e1 with e9 | ⟨rfl, e9⟩ | ⟨rfl, e9⟩
        · exact va_alen hx hb hK hP q 1 (cW_get e9) rfl rfl hdg k
        · cases e9
        · cases e9
      · cases hh
    · cases hh
  · cases hh
end SB
end
section
/-! the interpreter's steps are the machine's: stores, copies, small library calls, new cells -/
theorem pfC_inv {a b p : Nat} {w : Value} {S S' : Stk} {h h' : AHp} {x : Option ACell} (e : pfC a b w p S h x = some (S', h')) : ∃ fs, x = some (.inr (a, fs)) ∧ b < fs.length ∧ okV (fty a b) w = true ∧ S' = S ∧ h' = h.set p (.inr (a, fs.set b w)) := by
  unfold pfC at e
  split at e
  · rename_i ci fs
    cases hc : (Nat.beq ci a && (Nat.blt b fs.length && okV (fty a b) w)) with
    | false => rw [hc] at e; cases e
    | true =>
      rw [hc] at e
      obtain ⟨h1, h20⟩ := andE hc
      obtain ⟨h21, h3⟩ := andE h20
      obtain rfl := beqE h1
      cases e
      exact ⟨fs, rfl, bltE h21, h3, rfl, rfl⟩
  · cases e
theorem iasC_inv {i x : Int32} {p : Nat} {S S' : Stk} {h h' : AHp} {y : Option ACell} (e : iasC x i p S h y = some (S', h')) : ∃ n f, y = some (.inl (0, n, .inl f)) ∧ vp_in i n ∧ S' = S ∧ h' = h.set p (.inl (0, n, .inl (upd f i.toNatClampNeg x))) := by
  unfold iasC at e
  split at e
  · rename_i n f
    cases hc : inB i n with
    | false => rw [hc] at e; cases e
    | true => rw [hc] at e; cases e; exact ⟨n, f, rfl, inB_in hc, rfl, rfl⟩
  · cases e
theorem lasC_inv {i : Int32} {x : Int64} {p : Nat} {S S' : Stk} {h h' : AHp} {y : Option ACell} (e : lasC x i p S h y = some (S', h')) : ∃ n f, y = some (.inl (1, n, .inr (.inl f))) ∧ vp_in i n ∧ S' = S ∧ h' = h.set p (.inl (1, n, .inr (.inl (vp_updL f i.toNatClampNeg x)))) := by
  unfold lasC at e
  split at e
  · rename_i n f
    cases hc : inB i n with
    | false => rw [hc] at e; cases e
    | true => rw [hc] at e; cases e; exact ⟨n, f, rfl, inB_in hc, rfl, rfl⟩
  · cases e
theorem basC_inv {i x : Int32} {p : Nat} {S S' : Stk} {h h' : AHp} {y : Option ACell} (e : basC x i p S h y = some (S', h')) : ∃ n f, y = some (.inl (2, n, .inl f)) ∧ vp_in i n ∧ S' = S ∧ h' = h.set p (.inl (2, n, .inl (upd f i.toNatClampNeg (vp_nar .boolean x)))) := by
  unfold basC at e
  split at e
  · rename_i n f
    cases hc : inB i n with
    | false => rw [hc] at e; cases e
    | true => rw [hc] at e; cases e; exact ⟨n, f, rfl, inB_in hc, rfl, rfl⟩
  · cases e
theorem nneg {z : Int32} (h : decide (0 ≤ z.toInt) = true) : ¬ z < 0 := by
  have h1 := of_decide_eq_true h
  intro h2
  have h3 := Int32.lt_iff_toInt_lt.mp h2
  rw [show (0 : Int32).toInt = 0 from rfl] at h3
  omega
theorem cpC_inv {sp dp n : Int32} {q : Nat} {S S' : Stk} {h h' : AHp} {x y : Option ACell} (e : cpC sp dp n q S h x y = some (S', h')) : ∃ n0 f n1 g, x = some (.inl (0, n0, .inl f)) ∧ y = some (.inl (0, n1, .inl g)) ∧ ¬ sp < 0 ∧ ¬ dp < 0 ∧ ¬ n < 0 ∧ sp.toNatClampNeg + n.toNatClampNeg ≤ n0 ∧ dp.toNatClampNeg + n.toNatClampNeg ≤ n1 ∧ catS S ≤ 8 ∧ S' = S ∧ h' = h.set q (.inl (0, n1, .inl (va_cpy f g sp.toNatClampNeg dp.toNatClampNeg n.toNatClampNeg))) := by
  unfold cpC at e
  split at e
  · rename_i n0 f n1 g
    cases hc : ((decide (0 ≤ sp.toInt) && (decide (0 ≤ dp.toInt) && decide (0 ≤ n.toInt))) && (Nat.ble (sp.toNatClampNeg + n.toNatClampNeg) n0 && (Nat.ble (dp.toNatClampNeg + n.toNatClampNeg) n1 && Nat.ble (catS S) 8))) with
    | false => rw [hc] at e; cases e
    | true =>
      rw [hc] at e
      cases e
      obtain ⟨a1, a2⟩ := andE hc
      obtain ⟨a3, a4⟩ := andE a1
      obtain ⟨a5, a6⟩ := andE a4
      obtain ⟨a7, a8⟩ := andE a2
      obtain ⟨a9, a10⟩ := andE a8
      exact ⟨n0, f, n1, g, rfl, rfl, nneg a3, nneg a5, nneg a6, Nat.le_of_ble_eq_true a7, Nat.le_of_ble_eq_true a9, Nat.le_of_ble_eq_true a10, rfl, rfl⟩
  · cases e
theorem bifE {α : Type} {b : Bool} {x y : α} (h : (bif b then some x else none) = some y) : b = true ∧ x = y := by
  cases b with
  | false => cases h
  | true => cases h; exact ⟨rfl, rfl⟩
section SC
variable {p : Program} {l : Launch} {e : Env} {R : Room} {s : State} {m : MethodId} {args : Array Value} {below : List Frame} {meth : Method} {c : Code} {H : Heap} {locs : List Loc} {cells slots : Nat} {Q : State → Prop}
variable {cc : ByteArray} {pc : Nat} {ls : Array Slot} {ad : Nat → Nat} {cT : Nat → ClassId} {D : va_G} {sc : Scr} {base : Nat}
theorem s_put (hx : p.tables.exec = Jvm.exec) (hb : c.code = cc) {o nL : Nat} {rt : Option FieldType} {ini : Bool} {a b i : Nat} {v : Value} (hown : s.vm.findClass (own o) = some m.cls) (hts : ∀ w ∈ wT, w.before args s = true) (hdg : decode cc pc = .ok (.putfield i, 3)) (hk : lnk o nL rt ini pc (.putfield i) a b v = true) (hin2 : ini = true → meth.name = "<init>")
    (hG : Ga base ad) {h : AHp} (w : Wd base ad cT D sc h s H) (hS : va_S (fun q => base ≤ q) s.heap H locs) (hbs : base ≤ s.heap.size) {S0 : Stk} {x : Value} {q : Nat} {fs : List Value} (e1 : h[q]? = some (.inr (a, fs))) (e2 : b < fs.length) (e3 : okV (fty a b) x = true)
    (kk : ∀ (H1 : Heap) (locs1 : List Loc), Wd base ad cT D sc (h.set q (.inr (a, fs.set b x))) s H1 → va_S (fun q => base ≤ q) s.heap H1 locs1 → W p l e R s m args below meth c H1 locs1 cells slots Q (F0 m (pc + 3) ls (cS ad S0))) : W p l e R s m args below meth c H locs cells slots Q (F0 m pc ls (cV ad x :: .ref (ad q) :: cS ad S0)) := by
  obtain ⟨hlen, hP, hK, -⟩ := id w
  have he := cW_get (ad := ad) (cT := cT) e1
  have hl : b < (fs.map (cV ad)).length := by rw [List.length_map]; exact e2
  obtain ⟨o1, o2⟩ := okV_ok ad e3
  have fin : ∀ (H1 : Heap) (locs1 : List Loc), va_P D classes ((cW ad cT h).set q (ad q, .inr (a, (fs.map (cV ad)).set b (cV ad x)))) H1 → va_S (fun q => base ≤ q) s.heap H1 locs1 → W p l e R s m args below meth c H1 locs1 cells slots Q (F0 m (pc + 3) ls (cS ad S0)) := by
    intro H1 locs1 hP1 hS1
    rw [← List.map_set] at hP1
    have hP2 : va_P D classes (cW ad cT (h.set q (.inr (a, fs.set b x)))) H1 := by
      rw [← cW_set]
      exact hP1
    exact kk H1 locs1 (w.next hG (by rw [List.length_set]; exact hlen) hP2 (S_eq hbs hS hS1)) hS1
  have hk2 : (bif (clT a b).2.2.2 then decide ((i, a, b, 0) ∈ FT o) && (ini && Nat.beq a o) else (decide ((i, a, b, 0) ∈ FT o) || decide ((i, a, b, 1) ∈ FT o))) = true := hk
  cases hfin : (clT a b).2.2.2 with
  | true =>
    rw [hfin] at hk2
    obtain ⟨hf0, h20⟩ := andE hk2
    obtain ⟨h21, h3⟩ := andE h20
    have hf := of_decide_eq_true hf0
    obtain rfl := beqE h3
    obtain ⟨r1, r2⟩ := FT_rng hf
    refine va_putF (D := D) (cl := classes) (C := clR a) (T := clT a) (N := nfs a) (ref := clR a) hx hb hts (clin a r1) (fty a) (clty a r1) (clnm a r1) hown hK hP (cW_D hG cT hlen) hS q he (clK a r1) b r2 (hts _ (mem_wT (FT_ok a _ hf) rfl)) (fun z hz => by rw [clT1 a r1 b r2] at hz; exact hz) hfin (hin2 h21) ?_ (clty a r1 b r2) o1 o2 hl hdg (fun H1 locs1 hP1 _ hS1 => fin H1 locs1 hP1 hS1)
    rw [clT1 a r1 b r2]
    match a, r1 with
    | 0, _ => rfl
    | 1, _ => rfl
    | 2, _ => rfl
    | 3, _ => rfl
    | 4, _ => rfl
    | 5, _ => rfl
    | 6, _ => rfl
  | false =>
    rw [hfin] at hk2
    rcases (Bool.or_eq_true _ _).mp hk2 with hf | hf
    · have hf := of_decide_eq_true hf
      obtain ⟨r1, r2⟩ := FT_rng hf
      exact va_put (D := D) (cl := classes) (C := clR a) (T := clT a) (N := nfs a) (ref := clR a) hx hb hts (clin a r1) (fty a) (clty a r1) (clnm a r1) hown hK hP (cW_D hG cT hlen) hS q he (clK a r1) b r2 (hts _ (mem_wT (FT_ok o _ hf) rfl)) (fun z hz => by rw [clT1 a r1 b r2] at hz; exact hz) hfin (clty a r1 b r2) o1 o2 hl hdg (fun H1 locs1 hP1 _ hS1 => fin H1 locs1 hP1 hS1)
    · have hf := of_decide_eq_true hf
      obtain ⟨r1, r2⟩ := FT_rng hf
      exact va_putN (D := D) (cl := classes) (C := clR a) (T := clT a) (N := nfs a) (ref := clR a) (host := "WingCensus") hx hb hts (clin a r1) (fty a) (clty a r1) (clnm a r1) hown hK hP (cW_D hG cT hlen) hS q he (clK a r1) b r2 (hts _ (mem_wT (FT_ok o _ hf) rfl)) (fun z hz => by rw [clT1 a r1 b r2] at hz; exact hz) hfin (clty a r1 b r2) o1 o2 hl hdg (fun H1 locs1 hP1 _ hS1 => fin H1 locs1 hP1 hS1)
theorem s_hwr (hx : p.tables.exec = Jvm.exec) (hb : c.code = cc) (hml : c.maxLocals = ls.size) {o nL : Nat} {rt : Option FieldType} {ini : Bool} {a b : Nat} {v : Value} (hown : s.vm.findClass (own o) = some m.cls) (hts : ∀ w ∈ wT, w.before args s = true) {ins : Instr} (hdg : decode cc pc = .ok (ins, ilen ins)) (hk : lnk o nL rt ini pc ins a b v = true) (hin2 : ini = true → meth.name = "<init>")
    (hG : Ga base ad) {h h' : AHp} (w : Wd base ad cT D sc h s H) (hS : va_S (fun q => base ≤ q) s.heap H locs) (hbs : base ≤ s.heap.size) (hfr : 1 ≤ R.frames) (hlo : 40 ≤ R.locals) (hc : cells ≤ R.cells) (hsl : slots ≤ R.slots) (hkd : kd ins a = 4) {S S' : Stk} (hh : hwr ins a b S h = some (S', h'))
    (kk : ∀ (H1 : Heap) (locs1 : List Loc), Wd base ad cT D sc h' s H1 → va_S (fun q => base ≤ q) s.heap H1 locs1 → W p l e R s m args below meth c H1 locs1 cells slots Q (F0 m (pc + ilen ins) ls (cS ad S'))) : W p l e R s m args below meth c H locs cells slots Q (F0 m pc ls (cS ad S)) := by
  obtain ⟨hlen, hP, hK, hX0, hX1, hZ⟩ := id w
  have hD := cW_D hG cT hlen
  unfold hwr at hh
  split at hh
  · split at hh
    · rename_i i x q S0
      obtain ⟨fs, e1, e2, e3, rfl, rfl⟩ := pfC_inv hh
      exact s_put hx hb hown hts hdg hk hin2 hG w hS hbs e1 e2 e3 kk
    · cases hh
  · split at hh
    · rename_i x i q S0
      obtain ⟨n, f, e1, e2, rfl, rfl⟩ := iasC_inv hh
      refine va_iast hx hb hK hP hD hS q 0 (cW_get e1) rfl e2 hdg (fun H1 locs1 hP1 _ hS1 => ?_)
      have hP2 : va_P D classes (cW ad cT (h.set q (.inl (0, n, .inl (upd f i.toNatClampNeg x))))) H1 := by
        rw [← cW_set]
        exact hP1
      exact kk H1 locs1 (w.next hG (by rw [List.length_set]; exact hlen) hP2 (S_eq hbs hS hS1)) hS1
    · cases hh
  · split at hh
    · rename_i x i q S0
      obtain ⟨n, f, e1, e2, rfl, rfl⟩ := lasC_inv hh
      refine va_last hx hb hK hP hD hS q 1 (cW_get e1) rfl e2 hdg (fun H1 locs1 hP1 _ hS1 => ?_)
      have hP2 : va_P D classes (cW ad cT (h.set q (.inl (1, n, .inr (.inl (vp_updL f i.toNatClampNeg x)))))) H1 := by
        rw [← cW_set]
        exact hP1
      exact kk H1 locs1 (w.next hG (by rw [List.length_set]; exact hlen) hP2 (S_eq hbs hS hS1)) hS1
    · cases hh
  · split at hh
    · rename_i x i q S0
      obtain ⟨n, f, e1, e2, rfl, rfl⟩ := basC_inv hh
      refine va_zast hx hb hK hP hD hS q 2 (cW_get e1) rfl e2 hdg (fun H1 locs1 hP1 _ hS1 => ?_)
      have hP2 : va_P D classes (cW ad cT (h.set q (.inl (2, n, .inl (upd f i.toNatClampNeg (vp_nar .boolean x)))))) H1 := by
        rw [← cW_set]
        exact hP1
      exact kk H1 locs1 (w.next hG (by rw [List.length_set]; exact hlen) hP2 (S_eq hbs hS hS1)) hS1
    · cases hh
  · rename_i i
    have hk2 : (bif Nat.ble 990 a then decide ((i, a) ∈ AC o) else cOk o i a b 0 v) = true := hk
    have hkd2 : (bif Nat.ble 990 a then 4 else 6) = 4 := hkd
    cases hge : Nat.ble 990 a with
    | false => rw [hge] at hkd2; cases hkd2
    | true =>
      rw [hge] at hk2
      have hlw := AC_ok o _ (of_decide_eq_true hk2)
      cases h98 : Nat.beq a 998 with
      | true =>
        rw [h98] at hh
        obtain rfl := beqE h98
        have hh2 : cpyS h S = some (S', h') := hh
        unfold cpyS at hh2
        · split at hh2
          · rename_i n dp q1 sp q0 S0
            obtain ⟨n0, f, n1, g, e1, e2, h1, h2, h3, h4, h5, h6, rfl, rfl⟩ := cpC_inv hh2
            refine va_copyi hx hb hml hown (hts _ (mem_wT hlw rfl)) (hts _ (mem_wT w_an rfl)) (hts _ (mem_wT w_as rfl)) (hts _ (mem_wT w_ai rfl)) hK hP hD hS q0 q1 0 0 (cW_get e1) (cW_get e2) rfl rfl rfl h1 h2 h3 h4 h5 (fun _ _ => rfl) hfr ?_ hdg (fun H1 locs1 hP1 _ hS1 => ?_)
            · have hcat := cS_cat ad S'
              have hnw : nativeFrameWords "java/lang/System" "arraycopy" 5 = 7 := by decide +kernel
              rw [hnw]
              show ((cS ad S').map fun v => v.category).sum + (7 + 11) ≤ R.locals
              omega
            · have hP2 : va_P D classes (cW ad cT (h.set q1 (.inl (0, n1, .inl (va_cpy f g sp.toNatClampNeg dp.toNatClampNeg n.toNatClampNeg))))) H1 := by
                rw [← cW_set]
                exact hP1
              exact kk H1 locs1 (w.next hG (by rw [List.length_set]; exact hlen) hP2 (S_eq hbs hS hS1)) hS1
          · cases hh2
      | false =>
        rw [h98] at hh
        have hh2 : mthC a h S = some (S', h') := hh
        unfold mthC at hh2
        split at hh2
        · split at hh2
          · rename_i y x S0
            obtain ⟨h1, h2⟩ := bifE hh2
            cases h2
            have hcat := cS_cat ad S0
            have h8 := Nat.le_of_ble_eq_true h1
            exact va_mmax hx hb hml hown (hts _ (mem_wT hlw rfl)) (hts _ (mem_wT w_m0s rfl)) (hts _ (mem_wT w_mi rfl)) (hts _ (mem_wT w_m0c rfl)) hfr (by show ((cS ad S0).map fun v => v.category).sum + 13 ≤ R.locals; omega) hc hsl hdg (kk H locs w hS)
          · cases hh2
        · split at hh2
          · rename_i y x S0
            obtain ⟨h1, h2⟩ := bifE hh2
            cases h2
            have hcat := cS_cat ad S0
            have h8 := Nat.le_of_ble_eq_true h1
            exact va_mmin hx hb hml hown (hts _ (mem_wT hlw rfl)) (hts _ (mem_wT w_m1s rfl)) (hts _ (mem_wT w_mi rfl)) (hts _ (mem_wT w_m1c rfl)) hfr (by show ((cS ad S0).map fun v => v.category).sum + 13 ≤ R.locals; omega) hc hsl hdg (kk H locs w hS)
          · cases hh2
        · split at hh2
          · rename_i x S0
            obtain ⟨h1, h2⟩ := bifE hh2
            cases h2
            have hcat := cS_cat ad S0
            have h8 := Nat.le_of_ble_eq_true h1
            exact va_mabs hx hb hml hown (hts _ (mem_wT hlw rfl)) (hts _ (mem_wT w_m2s rfl)) (hts _ (mem_wT w_mi rfl)) (hts _ (mem_wT w_m2c rfl)) hfr (by show ((cS ad S0).map fun v => v.category).sum + 13 ≤ R.locals; omega) hc hsl hdg (kk H locs w hS)
          · cases hh2
        · split at hh2
          · rename_i y x S0
            obtain ⟨h1, h2⟩ := bifE hh2
            cases h2
            have hcat := cS_cat ad S0
            have h8 := Nat.le_of_ble_eq_true h1
            exact va_mmin_long hx hb hml hown (hts _ (mem_wT hlw rfl)) (hts _ (mem_wT w_m3s rfl)) (hts _ (mem_wT w_mi rfl)) (hts _ (mem_wT w_m3c rfl)) hfr (by show ((cS ad S0).map fun v => v.category).sum + 15 ≤ R.locals; omega) hc hsl hdg (kk H locs w hS)
          · cases hh2
        · cases hh2
  · rename_i i
    have hkd2 : (bif Nat.beq a 999 then 4 else 6) = 4 := hkd
    have hk2 : (bif Nat.beq a 999 then decide (i ∈ OB o) else cOk o i a b 2 v) = true := hk
    cases h99 : Nat.beq a 999 with
    | false => rw [h99] at hkd2; cases hkd2
    | true =>
      rw [h99] at hk2
      split at hh
      · rename_i q S0
        obtain ⟨h1, h2⟩ := bifE hh
        cases h2
        have hcat := cS_cat ad S'
        have h8 := Nat.le_of_ble_eq_true h1
        refine W.objInit hx hb hown (hts _ (mem_wT (OB_ok o _ (of_decide_eq_true hk2)) rfl)) (hts _ (mem_wT w_oi rfl)) (hts _ (mem_wT w_oc rfl)) rfl hml.symm rfl hdg hfr ?_ (kk H locs w hS)
        show 2 * 0 + ((cS ad S').map fun v => v.category).sum + 12 ≤ R.locals
        omega
      · cases hh
  · cases hh
/-- which address a new cell has -/
theorem new_at {q : Nat} {x : va_E} {h : AHp} {H1 : Heap} (hG : Ga base ad) (hl : h.length < 999) (hP : va_P D classes (cW ad cT h ++ [(q, x)]) H1) (hD : va_D (fun q => base ≤ q) (cW ad cT h ++ [(q, x)])) (hz : H1.size ≤ base + h.length + 1) : q = ad h.length := by
  have hlast : (cW ad cT h ++ [(q, x)])[h.length]? = some (q, x) := by
    rw [List.getElem?_append_right (by rw [cW_len]; exact Nat.le_refl _), cW_len, Nat.sub_self]
    rfl
  have h1 : q < H1.size := (hP _ _ hlast).lt
  have h2 : base ≤ q := hD.2 _ _ hlast
  rw [hG.1 _ (by omega)]
  rcases Nat.lt_or_ge q (base + h.length) with h3 | h3
  · exfalso
    have hi : q - base < h.length := by omega
    obtain ⟨y, hy⟩ : ∃ y, h[q - base]? = some y := ⟨_, List.getElem?_eq_getElem hi⟩
    have h4 : (cW ad cT h ++ [(q, x)])[q - base]? = some (ad (q - base), cE ad cT y) := by
      rw [List.getElem?_append_left (by rw [cW_len]; exact hi)]
      exact cW_get hy
    have h5 := hD.1 _ _ _ _ h4 hlast (by show ad (q - base) = q; rw [hG.1 _ (by omega)]; omega)
    omega
  · omega
theorem s_alc (hx : p.tables.exec = Jvm.exec) (hb : c.code = cc) {o nL : Nat} {rt : Option FieldType} {ini : Bool} {a b : Nat} {v : Value} (hown : s.vm.findClass (own o) = some m.cls) (hts : ∀ w ∈ wT, w.before args s = true) {ins : Instr} (hdg : decode cc pc = .ok (ins, ilen ins)) (hk : lnk o nL rt ini pc ins a b v = true)
    (hG : Ga base ad) {h h' : AHp} (w : Wd base ad cT D sc h s H) (hS : va_S (fun q => base ≤ q) s.heap H locs) (hbs : base ≤ s.heap.size) (hsz : s.heap.size + cells ≤ base + h.length) {S S' : Stk} {n : Nat} (hc : cells + 1 ≤ R.cells) (hsl : slots + n ≤ R.slots) (hh : alc ins a S h = some (S', h', n))
    (kk : ∀ (H1 : Heap), Wd base ad cT D sc h' s H1 → va_S (fun q => base ≤ q) s.heap H1 locs → W p l e R s m args below meth c H1 locs (cells + 1) (slots + n) Q (F0 m (pc + ilen ins) ls (cS ad S'))) : W p l e R s m args below meth c H locs cells slots Q (F0 m pc ls (cS ad S)) := by
  obtain ⟨hlen, hP, hK, hX0, hX1, hZ⟩ := id w
  have hD := cW_D hG cT hlen
  have hA : ∀ q, s.heap.size ≤ q → base ≤ q := fun q hq => Nat.le_trans hbs hq
  unfold alc at hh
  split at hh
  · rename_i i
    obtain ⟨h1, h2⟩ := bifE hh
    cases h2
    have hl9 := bltE h1
    have hm := of_decide_eq_true hk
    have r1 := CT_rng hm
    refine va_new (D := D) (cl := classes) (ci := a) (fs := dflt a) (C := clR a) (T := clT a) (N := nfs a) hx hb hts (clin a r1) (fty a) (clty a r1) hown (hts _ (mem_wT (CT_ok o _ hm) rfl)) (hts _ (mem_wT (clit a r1) rfl)) (hts _ (mem_wT (clini a r1) rfl)) hK hP hD hS hA (clK a r1) (clD a r1) hc hsl hdg (fun q H1 hP1 hD1 hS1 => ?_)
    intro T hT X
    have hz : H1.size ≤ base + h.length + 1 := by
      have hz1 : T.heap.size ≤ s.heap.size + (cells + 1) := X.same.2.2.1
      rw [hT] at hz1
      omega
    have hq := new_at hG hl9 hP1 hD1 hz
    subst hq
    have hP2 : va_P D classes (cW ad cT (h ++ [.inr (a, dflt a)])) H1 := by
      rw [← cW_app]
      show va_P D classes (cW ad cT h ++ [(ad h.length, .inr (a, (dflt a).map (cV ad)))]) H1
      rw [cldf ad a r1]
      exact hP1
    exact kk H1 (w.next hG (by rw [List.length_append]; show h.length + 1 < 1000; omega) hP2 (S_eq hbs hS hS1)) hS1 T hT X
  · split at hh
    · rename_i t _ n0 S0
      obtain ⟨b1, b2⟩ := bifE hh
      cases b2
      obtain ⟨b3, b4⟩ := andE b1
      obtain ⟨b5, b6⟩ := andE b4
      have hl9 := bltE b6
      have hn := nneg b3
      have hbig : n0.toNatClampNeg < 100000 := by
        have z1 := of_decide_eq_true b5
        show n0.toInt.toNat < 100000
        omega
      have mkA : ∀ (ty : FieldType) (a0 : vp_A) (hty : newarray.typeOf t = ty) (ha : ∀ cA : ClassId, vp_cell cA a0 = arrV cA n0.toNatClampNeg (fun _ => defaultValue ty)) (hby : n0.toNatClampNeg * componentBytes ty ≤ 536870912) (harr : (Jvm.Cond.arrayClass (newarray.typeOf t)).before args s = true) (hcls : ∀ cA : ClassId, va_RA s cA ty → cA = cT a) (hza : cE ad cT (zeroA a n0.toNatClampNeg) = .inl (cT a, a0)) , W p l e R s m args below meth c H locs cells slots Q (F0 m pc ls (cS ad (.int n0 :: S0))) := by
        intro ty a0 hty ha hby harr hcls hza
        refine va_newa (D := D) (cl := classes) hx hb harr hty hK hP hD hS hA ha hn rfl hby hc hsl hdg (fun q cA H1 hK1 hP1 hD1 hS1 => ?_)
        have hcA : cA = cT a := hcls cA (hK1.2 3 (cA, ty) rfl).2
        subst hcA
        intro T hT X
        have hz : H1.size ≤ base + h.length + 1 := by
          have hz1 : T.heap.size ≤ s.heap.size + (cells + 1) := X.same.2.2.1
          rw [hT] at hz1
          omega
        have hq := new_at hG hl9 hP1 hD1 hz
        subst hq
        have hP2 : va_P D classes (cW ad cT (h ++ [zeroA a n0.toNatClampNeg])) H1 := by
          rw [← cW_app, hza]
          exact hP1
        exact kk H1 (w.next hG (by rw [List.length_append]; show h.length + 1 < 1000; omega) hP2 (S_eq hbs hS hS1)) hS1 T hT X
      cases t with
      | int =>
        obtain rfl := beqE (show Nat.beq a 0 = true from hk)
        exact mkA .int (n0.toNatClampNeg, .inl fun _ => 0) rfl (fun _ => rfl) (by show _ * 4 ≤ _; omega) (hts _ (mem_wT w_a0 rfl)) (fun cA hr => Option.some.inj (Eq.trans (Eq.symm hr) (hK.2 0 (cT 0, .int) rfl).2)) rfl
      | long =>
        obtain rfl := beqE (show Nat.beq a 1 = true from hk)
        exact mkA .long (n0.toNatClampNeg, .inr (.inl fun _ => 0)) rfl (fun _ => rfl) (by show _ * 8 ≤ _; omega) (hts _ (mem_wT w_a1 rfl)) (fun cA hr => Option.some.inj (Eq.trans (Eq.symm hr) (hK.2 1 (cT 1, .long) rfl).2)) rfl
      | boolean =>
        obtain rfl := beqE (show Nat.beq a 2 = true from hk)
        exact mkA .boolean (n0.toNatClampNeg, .inl fun _ => 0) rfl (fun _ => rfl) (by show _ * 1 ≤ _; omega) (hts _ (mem_wT w_a2 rfl)) (fun cA hr => Option.some.inj (Eq.trans (Eq.symm hr) (hK.2 2 (cT 2, .boolean) rfl).2)) rfl
      | char => exact absurd (show false = true from hk) (by decide)
      | float => exact absurd (show false = true from hk) (by decide)
      | double => exact absurd (show false = true from hk) (by decide)
      | byte => exact absurd (show false = true from hk) (by decide)
      | short => exact absurd (show false = true from hk) (by decide)
    · cases hh
  · cases hh
end SC
end
section
/-! the interpreter is sound: calls, and the whole run -/
theorem wT_warm {args a' : Array Value} {s U : State} (hts : ∀ w ∈ wT, w.before args s = true) (hW : s.WarmedH U.vm) : ∀ w ∈ wT, w.before a' U = true := by
  intro w hw
  have h0 := hts w hw
  have hg : gw w = true := (List.mem_filter.mp hw).2
  unfold gw at hg
  rcases (Bool.or_eq_true _ _).mp hg with h1 | h1
  · exact word_at hW (good_of_word h1) h0
  · split at h1
    · exact va_Nw.use rfl (va_Nw.warmF hW (va_Nw.of rfl h0))
    · exact va_Nw.use rfl (va_Nw.warmM hW (va_Nw.of rfl h0))
    · cases h1
theorem pad_get : ∀ (n : Nat) (l : Lcs) (i : Nat) (v : Value), (pad n l)[i]? = some (some v) → l[i]? = some (some v)
  | 0, _, _, _, h => by cases h
  | n + 1, [], 0, v, h => by cases h
  | n + 1, [], i + 1, v, h => by
    have h1 : (pad n [])[i]? = some (some v) := h
    have h2 := pad_get n [] i v h1
    cases h2
  | n + 1, x :: l, 0, v, h => h
  | n + 1, x :: l, i + 1, v, h => pad_get n l i v h
theorem argL_mem (ad : Nat → Nat) : ∀ (as : Stk) (i k : Nat) (v : Value), (argL as)[i]? = some (some v) → (i + k, cV ad v) ∈ lv_args k (as.map (cV ad))
  | [], i, k, v, h => by cases h
  | a :: r, i, k, v, h => by
    unfold argL at h
    show (i + k, cV ad v) ∈ (k, cV ad a) :: lv_args (if (cV ad a).category = 2 then k + 2 else k + 1) (r.map (cV ad))
    cases ha : isC1 a with
    | true =>
      rw [ha] at h
      rw [cV_cat, if_neg (C1_cat ha)]
      match i, h with
      | 0, h =>
        cases h
        rw [Nat.zero_add]
        exact List.mem_cons_self
      | i + 1, h =>
        have h2 := argL_mem ad r i (k + 1) v h
        rw [show i + 1 + k = i + (k + 1) by omega]
        exact List.mem_cons_of_mem _ h2
    | false =>
      rw [ha] at h
      rw [cV_cat, if_pos (C2_cat ha)]
      match i, h with
      | 0, h =>
        cases h
        rw [Nat.zero_add]
        exact List.mem_cons_self
      | 1, h => cases h
      | i + 2, h =>
        have h2 := argL_mem ad r i (k + 2) v h
        rw [show i + 2 + k = i + (k + 2) by omega]
        exact List.mem_cons_of_mem _ h2
theorem iniL_mem (ad : Nat → Nat) (n : Nat) (as : Stk) : ∀ q ∈ cL ad (iniL n as), q ∈ lv_args 0 (as.map (cV ad)) := by
  intro q hq
  obtain ⟨v, h1, h2⟩ := cL_mem.mp hq
  have h3 := argL_mem ad as q.1 0 v (pad_get n _ _ _ (gL_lt h1))
  rw [← h2] at h3
  exact h3
theorem lg_sl_len (ad : Nat → Nat) : ∀ (as : Stk), (lg_sl (as.map (cV ad))).length = catS as
  | [] => rfl
  | v :: vs => by
    have ih := lg_sl_len ad vs
    unfold lg_sl catS at ih ⊢
    rw [List.map_cons, List.flatMap_cons, List.length_append, ih, List.map_cons, List.sum_cons, cV_cat]
    congr 1
    rcases lv_cat v with h | h
    · rw [if_neg (by omega), h]; rfl
    · rw [if_pos h, h]; rfl
theorem hwr_len {ins : Instr} {a b : Nat} {S S' : Stk} {h h' : AHp} (hh : hwr ins a b S h = some (S', h')) : h'.length = h.length := by
  unfold hwr at hh
  split at hh
  · split at hh
    · obtain ⟨fs, e1, e2, e3, rfl, rfl⟩ := pfC_inv hh
      exact List.length_set
    · cases hh
  · split at hh
    · obtain ⟨n, f, e1, e2, rfl, rfl⟩ := iasC_inv hh
      exact List.length_set
    · cases hh
  · split at hh
    · obtain ⟨n, f, e1, e2, rfl, rfl⟩ := lasC_inv hh
      exact List.length_set
    · cases hh
  · split at hh
    · obtain ⟨n, f, e1, e2, rfl, rfl⟩ := basC_inv hh
      exact List.length_set
    · cases hh
  · cases h98 : Nat.beq a 998 with
    | true =>
      rw [h98] at hh
      have hh2 : cpyS h S = some (S', h') := hh
      unfold cpyS at hh2
      split at hh2
      · obtain ⟨n0, f, n1, g, e1, e2, h1, h2, h3, h4, h5, h6, rfl, rfl⟩ := cpC_inv hh2
        exact List.length_set
      · cases hh2
    | false =>
      rw [h98] at hh
      have hh2 : mthC a h S = some (S', h') := hh
      unfold mthC at hh2
      split at hh2
      · split at hh2
        · obtain ⟨h1, h2⟩ := bifE hh2; cases h2; rfl
        · cases hh2
      · split at hh2
        · obtain ⟨h1, h2⟩ := bifE hh2; cases h2; rfl
        · cases hh2
      · split at hh2
        · obtain ⟨h1, h2⟩ := bifE hh2; cases h2; rfl
        · cases hh2
      · split at hh2
        · obtain ⟨h1, h2⟩ := bifE hh2; cases h2; rfl
        · cases hh2
      · cases hh2
  · split at hh
    · obtain ⟨h1, h2⟩ := bifE hh; cases h2; rfl
    · cases hh
  · cases hh
theorem alc_len {ins : Instr} {a n : Nat} {S S' : Stk} {h h' : AHp} (hh : alc ins a S h = some (S', h', n)) : h'.length = h.length + 1 := by
  unfold alc at hh
  split at hh
  · obtain ⟨h1, h2⟩ := bifE hh; cases h2; rw [List.length_append]; rfl
  · split at hh
    · obtain ⟨h1, h2⟩ := bifE hh; cases h2; rw [List.length_append]; rfl
    · cases hh
  · cases hh
theorem run_len (sc : Scr) : ∀ (f d M pc : Nat) (L : Lcs) (S : Stk) (h : AHp) (r : Option Value) (h' : AHp) (cn sn : Nat), run sc f d M pc L S h = some (r, h', cn, sn) → h'.length = h.length + cn := by
  intro f
  induction f with
  | zero => intro d M pc L S h r h' cn sn e; cases e
  | succ f ih =>
    intro d M pc L S h r h' cn sn e
    unfold run at e
    split at e
    · cases e
    · rename_i ins nx a b v hc
      split at e
      · split at e
        · cases e
        · exact ih _ _ _ _ _ _ _ _ _ _ e
      · split at e
        · cases e
        · exact ih _ _ _ _ _ _ _ _ _ _ e
      · split at e
        · cases e
        · exact ih _ _ _ _ _ _ _ _ _ _ e
      · split at e
        · cases e
        · exact ih _ _ _ _ _ _ _ _ _ _ e
      · split at e
        · cases e
        · rename_i S1 h1 hw
          rw [ih _ _ _ _ _ _ _ _ _ _ e]
          congr 1
          exact hwr_len hw
      · split at e
        · cases e
        · rename_i S1 h1 k hw
          split at e
          · cases e
          · rename_i r2 h2 c2 n2 e2
            cases e
            rw [ih _ _ _ _ _ _ _ _ _ _ e2, alc_len hw]
            omega
      · split at e
        · cases e
        · split at e
          · cases e
          · split at e
            · cases e
            · rename_i r1 h1 c1 n1 e1
              split at e
              · cases e
              · rename_i r2 h2 c2 n2 e2
                cases e
                rw [ih _ _ _ _ _ _ _ _ _ _ e2, ih _ _ _ _ _ _ _ _ _ _ e1]
                omega
      · split at e
        · cases e
        · cases e
          rfl
def Pcc (base : Nat) (ad : Nat → Nat) (cT : Nat → ClassId) (D : va_G) (sc : Scr) (as : Stk) (h : AHp) : Array Value → State → Prop := va_Pc (as.map (cV ad)) (fun U => Wd base ad cT D sc h U U.heap ∧ base ≤ U.heap.size ∧ U.heap.size ≤ base + h.length)
def Qcc (base : Nat) (ad : Nat → Nat) (cT : Nat → ClassId) (D : va_G) (sc : Scr) (rv : Option Value) (h' : AHp) : Array Value → State → Outcome → State → Prop := fun _ st oc t => oc = .returned (rv.map (cV ad)) ∧ Wd base ad cT D sc h' t t.heap ∧ (∀ q, q < base → t.heap[q]? = st.heap[q]?) ∧ st.heap.size ≤ t.heap.size
def rmM (d cn sn : Nat) : Room := { frames := d + 1, cells := cn, slots := sn, locals := 50 * (d + 1) }
theorem Pcc_blind {base : Nat} {ad : Nat → Nat} {cT : Nat → ClassId} {D : va_G} {sc : Scr} {as : Stk} {h : AHp} : FrameBlind (Pcc base ad cT D sc as h) := by
  intro a U g mk q
  obtain ⟨q0, q1, q2, q3⟩ := q
  exact ⟨q0, Wd.moved (u := U) (U := U.calling g mk a) (Vm.Alike.refl U.vm) q1, q2, q3⟩
theorem ownR : ∀ o, o < 7 → own o = clR o
  | 0, _ => rfl
  | 1, _ => rfl
  | 2, _ => rfl
  | 3, _ => rfl
  | 4, _ => rfl
  | 5, _ => rfl
  | 6, _ => rfl
  | n + 7, h => absurd h (by omega)
theorem chkH_inv {y : MethodName} {cc : ByteArray} {ml o kind np : Nat} {rt : Option FieldType} {k : List (Nat × Ent)} (h : chkH (y, cc, ml, rt, o, kind, np, k) = true) : plainName y.cls = true ∧ y.cls = own o ∧ ml ≤ 20 ∧ (y.cls ≠ "java/lang/invoke/MethodHandle" ∧ y.cls ≠ "java/lang/invoke/VarHandle") ∧ (parseMethodDescriptor y.desc).map (fun d => d.parameters.length) = some np ∧ (kind = 2 → y.name = "<init>") := by
  obtain ⟨h1, h⟩ := andE h
  obtain ⟨h2, h⟩ := andE h
  obtain ⟨h3, h⟩ := andE h
  obtain ⟨h4, h⟩ := andE h
  obtain ⟨h5, h⟩ := andE h
  obtain ⟨h6, h7⟩ := andE h
  refine ⟨h1, of_decide_eq_true h2, Nat.le_of_ble_eq_true h3, of_decide_eq_true h4, of_decide_eq_true h5, fun e => ?_⟩
  subst e
  rcases (Bool.or_eq_true _ _).mp h7 with h8 | h8
  · cases h8
  · exact of_decide_eq_true h8
theorem cal_inv {ins : Instr} {b nl : Nat} {v : Value} {S as rest : Stk} {h : AHp} (e : cal ins b v S h = some (as, rest, nl)) : ∃ z, v = .retAddr z ∧ nl = z / 100 ∧ as.length = b ∧ catS rest ≤ 8 ∧ catS as ≤ z / 100 ∧ rcv ins (z % 100) as h = true ∧ S = as.reverse ++ rest := by
  unfold cal at e
  split at e
  · rename_i z
    unfold calZ at e
    obtain ⟨h1, h2⟩ := bifE e
    cases h2
    obtain ⟨h1, h3⟩ := andE h1
    obtain ⟨h3, h4⟩ := andE h3
    obtain ⟨h4, h5⟩ := andE h4
    have hl := Nat.le_of_ble_eq_true h1
    refine ⟨z, rfl, rfl, ?_, Nat.le_of_ble_eq_true h3, ?_, h5, ?_⟩
    · rw [List.length_reverse, List.length_take]
      exact Nat.min_eq_left hl
    · have h6 : catS (S.take b).reverse = catS (S.take b) := by
        unfold catS
        rw [List.map_reverse, List.sum_reverse]
      rw [h6]
      exact Nat.le_of_ble_eq_true h4
    · rw [List.reverse_reverse, List.take_append_drop]
  · cases e
theorem cOk_inv {o i a b kind : Nat} {v : Value} (h : cOk o i a b kind v = true) : ∃ y cc ml rt o' np k z, mt a = some (y, cc, ml, rt, o', kind, np, k) ∧ b = (bif Nat.beq kind 0 then np else np + 1) ∧ ((i, a, 0) ∈ XT o ∨ (i, a, 1) ∈ XT o) ∧ v = .retAddr z ∧ z / 100 = ml ∧ (kind = 1 → z % 100 = o' ∧ o' < 7) := by
  unfold cOk at h
  split at h
  · rename_i y cc ml rt o' k' np k hm
    obtain ⟨h1, g1⟩ := andE h
    obtain ⟨h2, g2⟩ := andE g1
    obtain ⟨h3, h4⟩ := andE g2
    clear h g1 g2
    obtain rfl := beqE h1
    split at h4
    · rename_i z
      obtain ⟨h5, h6⟩ := andE h4
      refine ⟨y, cc, ml, rt, o', np, k, z, hm, beqE h2, ?_, rfl, beqE h5, fun e => ?_⟩
      · rw [Bool.or_eq_true, decide_eq_true_eq, decide_eq_true_eq] at h3
        exact h3
      · subst e
        obtain ⟨h7, h8⟩ := andE h6
        exact ⟨beqE h7, bltE h8⟩
    · cases h4
  · cases h
def notLaw : Option Meta → Bool
  | some (_, _, _, _, o, _) => !(Nat.beq o 7)
  | none => true
theorem XT_law0 : ∀ o, o < 12 → (XT o).all (fun q => notLaw (mt q.2.1)) = true := by decide +kernel
theorem XT_law {o i a f : Nat} (h : (i, a, f) ∈ XT o) {y : MethodName} {cc : ByteArray} {ml kind np : Nat} {rt : Option FieldType} {k : List (Nat × Ent)} (hm : mt a = some (y, cc, ml, rt, 7, kind, np, k)) : False := by
  rcases Nat.lt_or_ge o 12 with ho | ho
  · have h1 := List.all_eq_true.mp (XT_law0 o ho) _ h
    have h2 : notLaw (mt a) = true := h1
    rw [hm] at h2
    cases h2
  · obtain ⟨n, rfl⟩ : ∃ n, o = n + 12 := ⟨o - 12, by omega⟩
    cases h
def k2n (t : Meta) : Bool := match t with
  | (_, _, _, rt, _, kind, _, _) => !(Nat.beq kind 2) || rt.isNone
theorem k2n_all : mts.all (fun g => g.all k2n) = true := by decide +kernel
theorem kind2 {a : Nat} {y : MethodName} {cc : ByteArray} {ml np o : Nat} {rt : Option FieldType} {k : List (Nat × Ent)} (h : mt a = some (y, cc, ml, rt, o, 2, np, k)) : rt = none := by
  unfold mt at h
  have h1 := List.mem_of_getElem? h
  rw [List.getD_eq_getElem?_getD] at h1
  cases hg : mts[a / 16]? with
  | none => rw [hg] at h1; cases h1
  | some g =>
    rw [hg] at h1
    have h2 := List.all_eq_true.mp (List.all_eq_true.mp k2n_all g (List.mem_of_getElem? hg)) _ h1
    cases rt with
    | none => rfl
    | some t => cases h2
section SD
variable {p : Program} {l : Launch} {e : Env} {R : Room} {s : State} {m : MethodId} {args : Array Value} {below : List Frame} {meth : Method} {c : Code} {H : Heap} {locs : List Loc} {cells slots : Nat} {Q : State → Prop}
variable {cc : ByteArray} {pc : Nat} {ls : Array Slot} {ad : Nat → Nat} {cT : Nat → ClassId} {D : va_G} {sc : Scr} {base : Nat}
theorem s_ran {mc ms : Nat} {st0 rest : List Value} {rv : Option Value} {h1 : AHp} {a : Array Value} (hr : va_Run p l e R s m args below meth c H locs cells slots mc ms (F0 m pc ls st0) rest (Qcc base ad cT D sc rv h1 a) (fun q => base ≤ q)) (hS : va_S (fun q => base ≤ q) s.heap H locs)
    (kk : ∀ (H1 : Heap) (locs1 : List Loc), Wd base ad cT D sc h1 s H1 → va_S (fun q => base ≤ q) s.heap H1 locs1 → W p l e R s m args below meth c H1 locs1 (cells + mc) (slots + ms) Q (F0 m (pc + 3) ls ((rv.map (cV ad)).toList ++ rest))) : W p l e R s m args below meth c H locs cells slots Q (F0 m pc ls st0) := by
  intro T hT X
  obtain ⟨v, st₀, t, T', L, h0, X', hL, e1, e2, ⟨hv, hw, hq, hz⟩, st⟩ := hr T hT X
  cases hv
  rw [h0] at hq hz
  have hw' : Wd base ad cT D sc h1 s T'.heap := by
    rw [e1]
    exact Wd.moved (by rw [← e2]; exact X'.warmed.alike.symm) hw
  obtain ⟨t2, a1, b1⟩ := kk T'.heap (locs ++ L) hw' ⟨Nat.le_trans hS.1 (by rw [e1]; exact hz), fun q g1 g2 => by rw [e1, hq q (Nat.lt_of_not_le g2)]; exact hS.2.1 q g1 g2, fun q hq => by
      rcases List.mem_append.mp hq with h | h
      · exact hS.2.2 q h
      · exact hL q h⟩ T' rfl X'
  exact ⟨t2, st t2 a1, b1⟩
theorem rcC_inv {z : Nat} {x : Option ACell} (h : rcC z x = true) : ∃ fs, x = some (.inr (z, fs)) := by
  unfold rcC at h
  split at h
  · obtain rfl := beqE h
    exact ⟨_, rfl⟩
  · cases h
theorem s_call (hx : p.tables.exec = Jvm.exec) (hb : c.code = cc) {nL : Nat} (hml : c.maxLocals = nL) (hls : ls.size = nL) {o : Nat} {rt : Option FieldType} {ini : Bool} {a b : Nat} {v : Value} (hown : s.vm.findClass (own o) = some m.cls) (hts : ∀ w ∈ wT, w.before args s = true) {ins : Instr} (hdg : decode cc pc = .ok (ins, ilen ins)) (hk : lnk o nL rt ini pc ins a b v = true) (hkd : kd ins a = 6)
    {h : AHp} (w : Wd base ad cT D sc h s H) (hS : va_S (fun q => base ≤ q) s.heap H locs) (hbs : base ≤ s.heap.size) (hsz : s.heap.size + cells ≤ base + h.length) {S as rest : Stk} {nl : Nat} (hh : cal ins b v S h = some (as, rest, nl))
    {d' c1 n1 : Nat} {r1 : Option Value} {h1 : AHp} (hfr : d' + 2 ≤ R.frames) (hlo : 50 * (d' + 2) ≤ R.locals) (hc : cells + c1 ≤ R.cells) (hsl : slots + n1 ≤ R.slots)
    (hM : ∀ y cy ml ry o' kind np k, mt a = some (y, cy, ml, ry, o', kind, np, k) → ml = nl → catS as ≤ ml → Met l y (.code y cy ml ry :: wT) (rmM d' c1 n1) (Pcc base ad cT D sc as h) (Qcc base ad cT D sc r1 h1) c1 n1 (fun q => base ≤ q))
    (kk : ∀ (H1 : Heap) (locs1 : List Loc), Wd base ad cT D sc h1 s H1 → va_S (fun q => base ≤ q) s.heap H1 locs1 → W p l e R s m args below meth c H1 locs1 (cells + c1) (slots + n1) Q (F0 m (pc + ilen ins) ls (cS ad (r1.toList ++ rest)))) : W p l e R s m args below meth c H locs cells slots Q (F0 m pc ls (cS ad S)) := by
  obtain ⟨z, rfl, q0, q1, q2, q3, q4, rfl⟩ := cal_inv hh
  have hkk : ∀ (H1 : Heap) (locs1 : List Loc), ilen ins = 3 → Wd base ad cT D sc h1 s H1 → va_S (fun q => base ≤ q) s.heap H1 locs1 → W p l e R s m args below meth c H1 locs1 (cells + c1) (slots + n1) Q (F0 m (pc + 3) ls ((r1.map (cV ad)).toList ++ cS ad rest)) := by
    intro H1 locs1 h3 g1 g2
    have h4 := kk H1 locs1 g1 g2
    rw [h3] at h4
    have h5 : cS ad (r1.toList ++ rest) = (r1.map (cV ad)).toList ++ cS ad rest := by
      unfold cS
      rw [List.map_append]
      cases r1 <;> rfl
    rw [h5] at h4
    exact h4
  have hcat : 2 * (F0 m pc ls (cS ad (as.reverse ++ rest))).monitorRoom + ((cS ad rest).map fun v => v.category).sum ≤ 8 := by
    rw [cS_cat]
    show 2 * 0 + _ ≤ 8
    omega
  have hstk : cS ad (as.reverse ++ rest) = (as.map (cV ad)).reverse ++ cS ad rest := by
    unfold cS
    rw [List.map_append, List.map_reverse]
  have hcf : CallFix p m c cc nL s args wT (own o) := ⟨hx, hb, hml, hown, hts⟩
  have common : ∀ kind i, cOk o i a b kind (.retAddr z) = true → ∃ y cy ml ry o' np k, mt a = some (y, cy, ml, ry, o', kind, np, k) ∧ as.length = (bif Nat.beq kind 0 then np else np + 1) ∧ ((i, a, 0) ∈ XT o ∨ (i, a, 1) ∈ XT o) ∧ (kind = 1 → z % 100 = o' ∧ o' < 7) ∧ yOf a = y ∧ y.cls = own o' ∧ (kind = 2 → y.name = "<init>") ∧
      Met l y (.code y cy ml ry :: wT) (rmM d' c1 n1) (Pcc base ad cT D sc as h) (Qcc base ad cT D sc r1 h1) c1 n1 (fun q => base ≤ q) ∧ (∀ w ∈ mW (y, cy, ml, ry, o', kind, np, k), w.before args s = true) ∧
      ((rmM d' c1 n1).cells = c1 ∧ (rmM d' c1 n1).slots = n1 ∧ (rmM d' c1 n1).frames + 1 ≤ R.frames ∧ 8 + (ml + 11) + (rmM d' c1 n1).locals ≤ R.locals ∧ (∀ w ∈ (Jvm.Cond.code y cy ml ry :: wT), ∀ (a' : Array Value) (U : State), s.WarmedH U.vm → w.before a' U = true) ∧ Jvm.Cond.code y cy ml ry ∈ (Jvm.Cond.code y cy ml ry :: wT)) ∧
      (y.cls ≠ "java/lang/invoke/MethodHandle" ∧ y.cls ≠ "java/lang/invoke/VarHandle") ∧ (∀ sig, parseMethodDescriptor y.desc = some sig → np = sig.parameters.length) := by
    intro kind i hck
    obtain ⟨y, cy, ml, ry, o', np, k, z2, hm, hbn, hxt, hz2, hz3, hz4⟩ := cOk_inv hck
    cases hz2
    obtain ⟨ck1, ck2, ck3⟩ := ok_mt hm
    obtain ⟨j1, j2, j3, j4, j5, j6⟩ := chkH_inv ck1
    have hyo : yOf a = y := by unfold yOf; rw [hm]
    have ho7 : ¬ o' = 7 := by
      intro h7
      subst h7
      rw [show own 7 = RL from rfl] at j2
      have hxw : ∀ f, (i, a, f) ∈ XT o → False := by
        intro f hf
        exact XT_law hf hm
      rcases hxt with hx1 | hx1
      · exact hxw 0 hx1
      · exact hxw 1 hx1
    have hmw : ∀ w ∈ mW (y, cy, ml, ry, o', kind, np, k), w ∈ wT := by
      intro w hw
      rcases ck3 with h7 | h7
      · exact absurd h7 ho7
      · refine mem_wT (h7 w hw) ?_
        unfold mW at hw
        rcases List.mem_cons.mp hw with rfl | hw
        · rfl
        · rcases List.mem_cons.mp hw with rfl | hw
          · rfl
          · cases hk0 : Nat.beq kind 0 with
            | true =>
              rw [hk0] at hw
              obtain rfl := List.mem_singleton.mp hw
              rfl
            | false =>
              rw [hk0] at hw
              cases hk1 : Nat.beq kind 1 with
              | true =>
                rw [hk1] at hw
                rcases List.mem_cons.mp hw with rfl | hw
                · rfl
                · obtain rfl := List.mem_singleton.mp hw
                  rfl
              | false =>
                rw [hk1] at hw
                obtain rfl := List.mem_singleton.mp hw
                rfl
    have hcode : Jvm.Cond.code y cy ml ry ∈ wT := hmw _ List.mem_cons_self
    refine ⟨y, cy, ml, ry, o', np, k, hm, ?_, hxt, hz4, hyo, j2, j6, hM y cy ml ry o' kind np k hm (by omega) (by omega), fun w hw => hts w (hmw w hw), ⟨rfl, rfl, hfr, ?_, ?_, List.mem_cons_self⟩, j4, ?_⟩
    · rw [q1, hbn]
    · show 8 + (ml + 11) + 50 * (d' + 1) ≤ R.locals
      omega
    · intro w hw a' U hW
      rcases List.mem_cons.mp hw with rfl | hw
      · exact wT_warm hts hW _ hcode
      · exact wT_warm hts hW w hw
    · intro sig hs
      rw [hs] at j5
      exact (Option.some.inj j5).symm
  intro T hT X
  have hsize : H.size ≤ base + h.length := by
    have hz1 : T.heap.size ≤ s.heap.size + cells := X.same.2.2.1
    rw [hT] at hz1
    omega
  have hPc : ∀ U : State, U.heap = H → s.WarmedH U.vm → Pcc base ad cT D sc as h (as.map (cV ad)).toArray U := by
    intro U hU hW
    exact ⟨rfl, by rw [hU]; exact Wd.moved hW.alike w, by rw [hU]; exact Nat.le_trans hbs hS.1, by rw [hU]; exact hsize⟩
  unfold rcv at q4
  split at q4
  · rename_i i
    split at q4
    · rename_i q As
      obtain ⟨fs, hq⟩ := rcC_inv q4
      obtain ⟨y, cy, ml, ry, o', np, k, hm, hlen, hxt, hz4, hyo, hcl, hnm, hMet, hmw, hcb, hy, hnp⟩ := common 1 i hk
      obtain ⟨hz5, ho7⟩ := hz4 rfl
      have hln : (As.map (cV ad)).length = np := by
        rw [List.length_map]
        have h2 : As.length + 1 = np + 1 := hlen
        omega
      have hst : (F0 m pc ls (cS ad ((Value.ref q :: As).reverse ++ rest))).stack = (As.map (cV ad)).reverse ++ .ref (ad q) :: cS ad rest := by
        show cS ad ((Value.ref q :: As).reverse ++ rest) = _
        rw [hstk, List.map_cons, List.reverse_cons, List.append_assoc]
        rfl
      have hpre : PreV s H y.cls (ad q) (Pcc base ad cT D sc (.ref q :: As) h) (As.map (cV ad)) := by
        refine ⟨Pcc_blind, ?_, hPc⟩
        rw [hcl, ownR o' ho7]
        rw [hz5] at hq
        exact va_recv w.2.2.1 w.2.1 (clK o' ho7) (cW_get hq)
      have hmw1 := hmw _ List.mem_cons_self
      have hmw2 := hmw _ (List.mem_cons_of_mem _ List.mem_cons_self)
      have hmw3 : (Jvm.Cond.instanceMethod y).before args s = true := hmw _ (List.mem_cons_of_mem _ (List.mem_cons_of_mem _ List.mem_cons_self))
      have hmw4 : (Jvm.Cond.selects y.cls y y).before args s = true := hmw _ (List.mem_cons_of_mem _ (List.mem_cons_of_mem _ (List.mem_cons_of_mem _ List.mem_cons_self)))
      rcases hxt with hxt | hxt
      · have hlk := XT_ok o _ hxt
        have hlk2 : (Jvm.Cond.methodLink (own o) i y).before args s = true := by
          have h9 := hts _ (mem_wT hlk rfl)
          rw [← hyo]
          exact h9
        exact s_ran (va_runV (As := As.map (cV ad)) (rest := cS ad rest) (n := np) hcf hMet ⟨⟨hcb.1, hcb.2.1, hcb.2.2.1, hcb.2.2.2.1, hcb.2.2.2.2.1, hcb.2.2.2.2.2, hmw1, hmw2, hy, hnp, hlk2⟩, hmw3, hmw4⟩ hpre rfl hln hls hst hcat hdg ⟨hc, hsl⟩) hS (fun H1 locs1 => hkk H1 locs1 rfl) T hT X
      · have hlk := XT_ok o _ hxt
        have hlk2 : (Jvm.Cond.methodLinkNest (own o) i y "WingCensus").before args s = true := by
          have h9 := hts _ (mem_wT hlk rfl)
          rw [← hyo]
          exact h9
        exact s_ran (va_runVN (As := As.map (cV ad)) (rest := cS ad rest) (n := np) (host := "WingCensus") hcf hMet ⟨⟨hcb, hmw1, hmw2, hy, hnp, hlk2⟩, hmw3, hmw4⟩ hpre rfl hln hls hst hcat hdg ⟨hc, hsl⟩) hS (fun H1 locs1 => hkk H1 locs1 rfl) T hT X
    · cases q4
  · rename_i i
    split at q4
    · rename_i q As
      have hkd2 : (bif Nat.beq a 999 then 4 else 6) = 6 := hkd
      have hk2 : (bif Nat.beq a 999 then decide (i ∈ OB o) else cOk o i a b 2 (.retAddr z)) = true := hk
      cases h99 : Nat.beq a 999 with
      | true => rw [h99] at hkd2; cases hkd2
      | false =>
        rw [h99] at hk2
        obtain ⟨y, cy, ml, ry, o', np, k, hm, hlen, hxt, hz4, hyo, hcl, hnm, hMet, hmw, hcb, hy, hnp⟩ := common 2 i hk2
        obtain rfl := kind2 hm
        have hln : (As.map (cV ad)).length = np := by
          rw [List.length_map]
          have h2 : As.length + 1 = np + 1 := hlen
          omega
        have hst : (F0 m pc ls (cS ad ((Value.ref q :: As).reverse ++ rest))).stack = (As.map (cV ad)).reverse ++ .ref (ad q) :: cS ad rest := by
          show cS ad ((Value.ref q :: As).reverse ++ rest) = _
          rw [hstk, List.map_cons, List.reverse_cons, List.append_assoc]
          rfl
        have hpre : PreS s H (Pcc base ad cT D sc (.ref q :: As) h) (.ref (ad q) :: As.map (cV ad)) := ⟨Pcc_blind, hPc⟩
        have hmw1 := hmw _ List.mem_cons_self
        have hmw2 := hmw _ (List.mem_cons_of_mem _ List.mem_cons_self)
        have hmw3 : (Jvm.Cond.instanceMethod y).before args s = true := hmw _ (List.mem_cons_of_mem _ (List.mem_cons_of_mem _ List.mem_cons_self))
        rcases hxt with hxt | hxt
        · have hlk := XT_ok o _ hxt
          have hlk2 : (Jvm.Cond.methodLink (own o) i y).before args s = true := by
            have h9 := hts _ (mem_wT hlk rfl)
            rw [← hyo]
            exact h9
          exact s_ran (va_runI (As := As.map (cV ad)) (rest := cS ad rest) (n := np) hcf hMet ⟨⟨hcb.1, hcb.2.1, hcb.2.2.1, hcb.2.2.2.1, hcb.2.2.2.2.1, hcb.2.2.2.2.2, hmw1, hmw2, hy, hnp, hlk2⟩, hnm rfl, hmw3⟩ hpre rfl hln hls hst hcat hdg ⟨hc, hsl⟩) hS (fun H1 locs1 => hkk H1 locs1 rfl) T hT X
        · have hlk := XT_ok o _ hxt
          have hlk2 : (Jvm.Cond.methodLinkNest (own o) i y "WingCensus").before args s = true := by
            have h9 := hts _ (mem_wT hlk rfl)
            rw [← hyo]
            exact h9
          exact s_ran (va_runIN (As := As.map (cV ad)) (rest := cS ad rest) (n := np) (host := "WingCensus") hcf hMet ⟨⟨hcb, hmw1, hmw2, hy, hnp, hlk2⟩, hnm rfl, hmw3⟩ hpre rfl hln hls hst hcat hdg ⟨hc, hsl⟩) hS (fun H1 locs1 => hkk H1 locs1 rfl) T hT X
    · cases q4
  · rename_i i
    have hkd2 : (bif Nat.ble 990 a then 4 else 6) = 6 := hkd
    have hk2 : (bif Nat.ble 990 a then decide ((i, a) ∈ AC o) else cOk o i a b 0 (.retAddr z)) = true := hk
    cases h99 : Nat.ble 990 a with
    | true => rw [h99] at hkd2; cases hkd2
    | false =>
      rw [h99] at hk2
      obtain ⟨y, cy, ml, ry, o', np, k, hm, hlen, hxt, hz4, hyo, hcl, hnm, hMet, hmw, hcb, hy, hnp⟩ := common 0 i hk2
      have hln : (as.map (cV ad)).length = np := by
        rw [List.length_map]
        exact hlen
      have hst : (F0 m pc ls (cS ad (as.reverse ++ rest))).stack = (as.map (cV ad)).reverse ++ cS ad rest := hstk
      have hpre : PreS s H (Pcc base ad cT D sc as h) (as.map (cV ad)) := ⟨Pcc_blind, hPc⟩
      have hmw1 := hmw _ List.mem_cons_self
      have hmw2 := hmw _ (List.mem_cons_of_mem _ List.mem_cons_self)
      have hmw3 : (Jvm.Cond.static y).before args s = true := hmw _ (List.mem_cons_of_mem _ (List.mem_cons_of_mem _ List.mem_cons_self))
      rcases hxt with hxt | hxt
      · have hlk := XT_ok o _ hxt
        have hlk2 : (Jvm.Cond.methodLink (own o) i y).before args s = true := by
          have h9 := hts _ (mem_wT hlk rfl)
          rw [← hyo]
          exact h9
        exact s_ran (va_runS (As := as.map (cV ad)) (rest := cS ad rest) (n := np) hcf hMet ⟨⟨hcb.1, hcb.2.1, hcb.2.2.1, hcb.2.2.2.1, hcb.2.2.2.2.1, hcb.2.2.2.2.2, hmw1, hmw2, hy, hnp, hlk2⟩, hmw3⟩ hpre rfl hln hls hst hcat hdg ⟨hc, hsl⟩) hS (fun H1 locs1 => hkk H1 locs1 rfl) T hT X
      · have hlk := XT_ok o _ hxt
        have hlk2 : (Jvm.Cond.methodLinkNest (own o) i y "WingCensus").before args s = true := by
          have h9 := hts _ (mem_wT hlk rfl)
          rw [← hyo]
          exact h9
        exact s_ran (va_runSN (As := as.map (cV ad)) (rest := cS ad rest) (n := np) (host := "WingCensus") hcf hMet ⟨⟨hcb, hmw1, hmw2, hy, hnp, hlk2⟩, hmw3, trivial⟩ hpre rfl hln hls hst hcat hdg ⟨hc, hsl⟩) hS (fun H1 locs1 => hkk H1 locs1 rfl) T hT X
  · cases q4
end SD
end
section
/-! the interpreter is sound: the whole run -/
theorem rtS_inv {ins : Instr} {b : Nat} {S : Stk} {rv : Option Value} (h : rtS ins b S = some rv) : (ins = .ireturn ∧ ∃ x, S = [.int x] ∧ rv = some (.int x) ∧ (b = 0 ∨ x = 0 ∨ x = 1)) ∨ (ins = .lreturn ∧ ∃ x, S = [.long x] ∧ rv = some (.long x)) ∨ (ins = .return_ ∧ S = [] ∧ rv = none) := by
  unfold rtS at h
  split at h
  · split at h
    · rename_i x
      obtain ⟨h1, h2⟩ := bifE h
      refine Or.inl ⟨rfl, x, rfl, h2.symm, ?_⟩
      rcases (Bool.or_eq_true _ _).mp h1 with h3 | h3
      · exact Or.inl (beqE h3)
      · rw [Bool.or_eq_true, decide_eq_true_eq, decide_eq_true_eq] at h3
        exact Or.inr h3
    · cases h
  · split at h
    · cases h
      exact Or.inr (Or.inl ⟨rfl, _, rfl, rfl⟩)
    · cases h
  · split at h
    · cases h
      exact Or.inr (Or.inr ⟨rfl, rfl, rfl⟩)
    · cases h
  · cases h
theorem isSw_kd {ins : Instr} {a : Nat} (h : isSw ins = true) : kd ins a = 2 := by
  unfold isSw at h
  split at h
  · rfl
  · rfl
  · cases h
theorem ent_ok {M pc : Nat} {y : MethodName} {cc : ByteArray} {nL o kind np : Nat} {rt : Option FieldType} {k : List (Nat × Ent)} (hm : mt M = some (y, cc, nL, rt, o, kind, np, k)) {ins : Instr} {nx a b : Nat} {v : Value} (hc : cAt M pc = some (ins, nx, a, b, v)) :
    decode cc pc = .ok (ins, nx - pc) ∧ (isSw ins = true ∨ nx = pc + ilen ins) ∧ lnk o nL rt (decide (y.name = "<init>")) pc ins a b v = true := by
  unfold cAt at hc
  rw [hm] at hc
  have h1 := gC_mem hc
  obtain ⟨-, h2, -⟩ := ok_mt hm
  have h3 := List.all_eq_true.mp h2 _ h1
  obtain ⟨h4, h5⟩ := andE h3
  obtain ⟨h5, h6⟩ := andE h5
  refine ⟨of_decide_eq_true h4, ?_, h6⟩
  rcases (Bool.or_eq_true _ _).mp h5 with h7 | h7
  · exact Or.inl h7
  · exact Or.inr (beqE h7)
theorem ent_dec {pc nx : Nat} {cc : ByteArray} {ins : Instr} {a : Nat} (h1 : decode cc pc = .ok (ins, nx - pc)) (h2 : isSw ins = true ∨ nx = pc + ilen ins) (hk : kd ins a ≠ 2) : decode cc pc = .ok (ins, ilen ins) ∧ nx = pc + ilen ins := by
  rcases h2 with h2 | h2
  · exact absurd (isSw_kd h2) hk
  · subst h2
    rw [Nat.add_sub_cancel_left] at h1
    exact ⟨h1, rfl⟩
def Snd (base : Nat) (ad : Nat → Nat) (cT : Nat → ClassId) (D : va_G) (sc : Scr) (l : Launch) (f : Nat) : Prop :=
  ∀ (d M pc : Nat) (L : Lcs) (S : Stk) (h : AHp) (rv : Option Value) (h' : AHp) (cn sn : Nat), run sc f d M pc L S h = some (rv, h', cn, sn) →
  ∀ (y : MethodName) (cc : ByteArray) (nL : Nat) (rt : Option FieldType) (o kind np : Nat) (k : List (Nat × Ent)), mt M = some (y, cc, nL, rt, o, kind, np, k) →
  ∀ (p : Program) (e : Env) (R : Room) (s : State) (m : MethodId) (args : Array Value) (below : List Frame) (meth : Method) (c : Code) (H : Heap) (locs : List Loc) (cells slots : Nat) (Q : State → Prop) (ls : Array Slot),
    p.tables.exec = Jvm.exec → c.code = cc → c.maxLocals = nL → s.vm.findClass (own o) = some m.cls → (∀ w ∈ wT, w.before args s = true) → (decide (y.name = "<init>") = true → meth.name = "<init>") →
    lv_has ls nL (cL ad L) → Wd base ad cT D sc h s H → va_S (fun q => base ≤ q) s.heap H locs → base ≤ s.heap.size → s.heap.size + cells ≤ base + h.length → d + 1 ≤ R.frames → 50 * (d + 1) ≤ R.locals → cells + cn ≤ R.cells → slots + sn ≤ R.slots →
    (∀ (pc' : Nat) (ls' : Array Slot) (H1 : Heap) (locs1 : List Loc) (ins : Instr) (nx a b : Nat) (v : Value), cAt M pc' = some (ins, nx, a, b, v) → rtS ins b rv.toList = some rv → Wd base ad cT D sc h' s H1 → va_S (fun q => base ≤ q) s.heap H1 locs1 → W p l e R s m args below meth c H1 locs1 (cells + cn) (slots + sn) Q (F0 m pc' ls' (cS ad rv.toList))) →
    W p l e R s m args below meth c H locs cells slots Q (F0 m pc ls (cS ad S))
theorem met_of {base : Nat} {ad : Nat → Nat} {cT : Nat → ClassId} {D : va_G} {sc : Scr} {l : Launch} {f : Nat} (IH : Snd base ad cT D sc l f) {d a : Nat} {as : Stk} {h h1 : AHp} {r1 : Option Value} {c1 n1 : Nat} {ml : Nat} (hr : run sc f d a 0 (iniL ml as) [] h = some (r1, h1, c1, n1))
    {y : MethodName} {cy : ByteArray} {ry : Option FieldType} {o kind np : Nat} {k : List (Nat × Ent)} (hm : mt a = some (y, cy, ml, ry, o, kind, np, k)) (hcat : catS as ≤ ml) :
    Met l y (.code y cy ml ry :: wT) (rmM d c1 n1) (Pcc base ad cT D sc as h) (Qcc base ad cT D sc r1 h1) c1 n1 (fun q => base ≤ q) := by
  obtain ⟨ck1, -, -⟩ := ok_mt hm
  obtain ⟨j1, j2, -⟩ := chkH_inv ck1
  refine Met.ofW (cc := cy) (maxL := ml) (ret := ry) j1 rfl ?_
  intro p e s m args below meth c s₁ B hml hv
  obtain ⟨rfl, hw, hb1, hb2⟩ := hv
  have hx := B.exec
  have hb := B.bytes
  have hr2 := B.returns
  have hts0 := atoms_spec (ws := Jvm.Cond.code y cy ml ry :: wT) B.pre
  have hts : ∀ w ∈ wT, w.before (as.map (cV ad)).toArray s = true := fun w hw => hts0 w (List.mem_cons_of_mem _ hw)
  have hown : s.vm.findClass (own o) = some m.cls := by
    rw [← j2]
    exact findClass_of_methodNamed B.named
  have hlocks := B.notSynchronized
  have hname : meth.name = y.name := (name_of_methodNamed B.named B.method).1
  have hl := lv_entry (as.map (cV ad)) (n := ml) (by rw [lg_sl_len]; exact hcat)
  rw [lg_entry_eq]
  generalize (lg_sl (as.map (cV ad)) ++ List.replicate (ml - (lg_sl (as.map (cV ad))).length) Slot.unset).toArray = ls at hl ⊢
  have hl := lv_mono hl (iniL_mem ad ml as)
  refine IH d a 0 (iniL ml as) [] h r1 h1 c1 n1 hr y cy ml ry o kind np k hm p e (rmM d c1 n1) s m _ below meth c s.heap [] 0 0 _ ls hx hb hml hown hts (fun hi => by rw [hname]; exact of_decide_eq_true hi) hl hw va_S.rf hb1 (by omega) (Nat.le_refl _) (Nat.le_refl _) (by show 0 + c1 ≤ c1; omega) (by show 0 + n1 ≤ n1; omega) ?_
  intro pc' ls' H1 locs1 ins nx a2 b v hc hrt hw1 hS1
  obtain ⟨d1, d2, d3⟩ := ent_ok hm hc
  rw [Nat.zero_add, Nat.zero_add]
  have hq : ∀ t : State, t.heap = H1 → s.WarmedH t.vm → Qcc base ad cT D sc r1 h1 (as.map (cV ad)).toArray s (.returned (r1.map (cV ad))) t := by
    intro t ht hW
    exact ⟨rfl, by rw [ht]; exact Wd.moved hW.alike hw1, fun q hq => by rw [ht]; exact hS1.2.1 q (by omega) (by omega), by rw [ht]; exact hS1.1⟩
  rcases rtS_inv hrt with ⟨rfl, x, e1, rfl, e3⟩ | ⟨rfl, x, e1, rfl⟩ | ⟨rfl, e1, rfl⟩
  · obtain ⟨d4, -⟩ := ent_dec (a := a2) d1 d2 (by show (7 : Nat) ≠ 2; decide)
    rcases of_decide_eq_true d3 with ⟨g1, g2⟩ | ⟨g1, g2⟩
    · exact W.iret (v := x) hx hb (hr2.trans g1) hq hS1.2.2 d4 hlocks
    · subst g2
      have hx2 : narrow .boolean (.int x) = .int x := by
        rcases e3 with e3 | rfl | rfl
        · cases e3
        · decide
        · decide
      exact W.zret (v := x) hx hb (hr2.trans g1) hx2 hq hS1.2.2 d4 hlocks
  · obtain ⟨d4, -⟩ := ent_dec (a := a2) d1 d2 (by show (7 : Nat) ≠ 2; decide)
    exact W.lret (v := x) hx hb (hr2.trans (of_decide_eq_true d3)) hq hS1.2.2 d4 hlocks
  · obtain ⟨d4, -⟩ := ent_dec (a := a2) d1 d2 (by show (7 : Nat) ≠ 2; decide)
    exact W.vret hx hb (hr2.trans (of_decide_eq_true d3)) hq hS1.2.2 d4 hlocks
theorem sound {base : Nat} {ad : Nat → Nat} {cT : Nat → ClassId} {D : va_G} {sc : Scr} (hG : Ga base ad) (l : Launch) : ∀ f, Snd base ad cT D sc l f := by
  intro f
  induction f with
  | zero =>
    intro d M pc L S h rv h' cn sn hr
    cases hr
  | succ f ih =>
    intro d M pc L S h rv h' cn sn hr y cc nL rt o kind np k hm p e R s m args below meth c H locs cells slots Q ls hx hb hml hown hts hini hl hw hS hbs hsz hfr hlo hcl hsl hfin
    have hr0 := hr
    unfold run at hr
    split at hr
    · cases hr
    · rename_i ins nx a b v hc
      obtain ⟨d1, d2, d3⟩ := ent_ok hm hc
      split at hr
      · rename_i hkd
        obtain ⟨d4, rfl⟩ := ent_dec (a := a) d1 d2 (by rw [hkd]; decide)
        split at hr
        · cases hr
        · rename_i pc' L' S' hst
          exact s_st1 hx hb hown hts d4 d3 hl hst (fun ls' hl' => ih d M pc' L' S' h rv h' cn sn hr y cc nL rt o kind np k hm p e R s m args below meth c H locs cells slots Q ls' hx hb hml hown hts hini hl' hw hS hbs hsz hfr hlo hcl hsl hfin)
      · rename_i hkd
        obtain ⟨d4, rfl⟩ := ent_dec (a := a) d1 d2 (by rw [hkd]; decide)
        split at hr
        · cases hr
        · rename_i cd S' hst
          exact s_br hx hb d4 d3 hst (ih d M _ L S' h rv h' cn sn hr y cc nL rt o kind np k hm p e R s m args below meth c H locs cells slots Q ls hx hb hml hown hts hini hl hw hS hbs hsz hfr hlo hcl hsl hfin)
      · rename_i hkd
        split at hr
        · cases hr
        · rename_i t S' hst
          exact s_sw hx hb d1 d3 hst (ih d M t L S' h rv h' cn sn hr y cc nL rt o kind np k hm p e R s m args below meth c H locs cells slots Q ls hx hb hml hown hts hini hl hw hS hbs hsz hfr hlo hcl hsl hfin)
      · rename_i hkd
        obtain ⟨d4, rfl⟩ := ent_dec (a := a) d1 d2 (by rw [hkd]; decide)
        split at hr
        · cases hr
        · rename_i S' hst
          exact s_hrd hx hb hown hts d4 d3 hG hw hS hbs hst (ih d M _ L S' h rv h' cn sn hr y cc nL rt o kind np k hm p e R s m args below meth c H locs cells slots Q ls hx hb hml hown hts hini hl hw hS hbs hsz hfr hlo hcl hsl hfin)
      · rename_i hkd
        obtain ⟨d4, rfl⟩ := ent_dec (a := a) d1 d2 (by rw [hkd]; decide)
        split at hr
        · cases hr
        · rename_i S' h2 hst
          have hlen := hwr_len hst
          exact s_hwr hx hb (hml.trans hl.1.symm) hown hts d4 d3 hini hG hw hS hbs (by omega) (by omega) (by omega) (by omega) hkd hst (fun H1 locs1 hw1 hS1 => ih d M _ L S' h2 rv h' cn sn hr y cc nL rt o kind np k hm p e R s m args below meth c H1 locs1 cells slots Q ls hx hb hml hown hts hini hl hw1 hS1 hbs (by omega) hfr hlo hcl hsl hfin)
      · rename_i hkd
        obtain ⟨d4, rfl⟩ := ent_dec (a := a) d1 d2 (by rw [hkd]; decide)
        split at hr
        · cases hr
        · rename_i S' h2 n hst
          split at hr
          · cases hr
          · rename_i r3 h3 c3 n3 hr3
            cases hr
            have hlen := alc_len hst
            refine s_alc hx hb hown hts d4 d3 hG hw hS hbs hsz (by omega) (by omega) hst (fun H1 hw1 hS1 => ih d M _ L S' h2 rv h' c3 n3 hr3 y cc nL rt o kind np k hm p e R s m args below meth c H1 locs (cells + 1) (slots + n) Q ls hx hb hml hown hts hini hl hw1 hS1 hbs (by omega) hfr hlo (by omega) (by omega) ?_)
            intro pc' ls' H1 locs1 ins nx a b v g1 g2 g3 g4
            have g5 := hfin pc' ls' H1 locs1 ins nx a b v g1 g2 g3 g4
            rw [show cells + 1 + c3 = cells + (c3 + 1) by omega, show slots + n + n3 = slots + (n3 + n) by omega]
            exact g5
      · rename_i hkd
        obtain ⟨d4, rfl⟩ := ent_dec (a := a) d1 d2 (by rw [hkd]; decide)
        split at hr
        · cases hr
        · rename_i d'
          split at hr
          · cases hr
          · rename_i as rest nl hst
            split at hr
            · cases hr
            · rename_i r1 h1 c1 n1 hr1
              split at hr
              · cases hr
              · rename_i r3 h3 c3 n3 hr3
                cases hr
                have hlen := run_len sc _ _ _ _ _ _ _ _ _ _ _ hr1
                refine s_call hx hb hml hl.1 hown hts d4 d3 hkd hw hS hbs hsz hst (d' := d') (c1 := c1) (n1 := n1) (r1 := r1) (h1 := h1) hfr hlo (by omega) (by omega) (fun y2 cy ml ry o' kind2 np2 k2 hm2 hnl hcat => by subst hnl; exact met_of ih hr1 hm2 hcat) (fun H1 locs1 hw1 hS1 => ih (d' + 1) M _ L (r1.toList ++ rest) h1 rv h' c3 n3 hr3 y cc nL rt o kind np k hm p e R s m args below meth c H1 locs1 (cells + c1) (slots + n1) Q ls hx hb hml hown hts hini hl hw1 hS1 hbs (by omega) hfr hlo (by omega) (by omega) ?_)
                intro pc' ls' H1 locs1 ins nx a b v g1 g2 g3 g4
                have g5 := hfin pc' ls' H1 locs1 ins nx a b v g1 g2 g3 g4
                rw [show cells + c1 + c3 = cells + (c1 + c3) by omega, show slots + n1 + n3 = slots + (n1 + n3) by omega]
                exact g5
      · split at hr
        · cases hr
        · rename_i r3 hst
          cases hr
          have hS2 : S = rv.toList := by
            rcases rtS_inv hst with ⟨-, x, e1, rfl, -⟩ | ⟨-, x, e1, rfl⟩ | ⟨-, e1, rfl⟩ <;> exact e1
          subst hS2
          have g5 := hfin pc ls H locs ins nx a b v hc hst hw hS
          exact g5
end
section
/-! a method's run as a judgement, and its rules -/
theorem run_mono1 (sc : Scr) : ∀ (f d M pc : Nat) (L : Lcs) (S : Stk) (h : AHp) (x : Res), run sc f d M pc L S h = some x → run sc (f + 1) d M pc L S h = some x := by
  intro f
  induction f with
  | zero => intro d M pc L S h x e; cases e
  | succ f ih =>
    intro d M pc L S h x e
    unfold run at e
    unfold run
    split at e
    · cases e
    · rename_i ins nx a b v hc
      split at e
      · rename_i hk
        try simp only [hk]
        split at e
        · cases e
        · rename_i hs
          try simp only [hs]
          exact ih _ _ _ _ _ _ _ e
      · rename_i hk
        try simp only [hk]
        split at e
        · cases e
        · rename_i hs
          try simp only [hs]
          exact ih _ _ _ _ _ _ _ e
      · rename_i hk
        try simp only [hk]
        split at e
        · cases e
        · rename_i hs
          try simp only [hs]
          exact ih _ _ _ _ _ _ _ e
      · rename_i hk
        try simp only [hk]
        split at e
        · cases e
        · rename_i hs
          try simp only [hs]
          exact ih _ _ _ _ _ _ _ e
      · rename_i hk
        try simp only [hk]
        split at e
        · cases e
        · rename_i hs
          try simp only [hs]
          exact ih _ _ _ _ _ _ _ e
      · rename_i hk
        try simp only [hk]
        split at e
        · cases e
        · rename_i hs
          try simp only [hs]
          split at e
          · cases e
          · rename_i e2
            try simp only [ih _ _ _ _ _ _ _ e2]
            exact e
      · rename_i hk
        try simp only [hk]
        split at e
        · cases e
        · split at e
          · cases e
          · rename_i hs
            try simp only [hs]
            split at e
            · cases e
            · rename_i e1
              try simp only [ih _ _ _ _ _ _ _ e1]
              split at e
              · cases e
              · rename_i e2
                try simp only [ih _ _ _ _ _ _ _ e2]
                exact e
      · exact e
theorem run_mono {sc : Scr} {f g d M pc : Nat} {L : Lcs} {S : Stk} {h : AHp} {x : Res} (hfg : f ≤ g) (e : run sc f d M pc L S h = some x) : run sc g d M pc L S h = some x := by
  obtain ⟨n, rfl⟩ : ∃ n, g = f + n := ⟨g - f, by omega⟩
  clear hfg
  induction n with
  | zero => exact e
  | succ n ih => exact run_mono1 sc _ _ _ _ _ _ _ _ ih
/-- with these locals, stack and cells, from this pc on, the method M (d calls deep at most) ends with the answer r and the cells h', c cells of n slots made -/
def Ek (sc : Scr) (d M pc : Nat) (L : Lcs) (S : Stk) (h : AHp) (r : Option Value) (h' : AHp) (c n : Nat) : Prop := ∃ f, run sc f d M pc L S h = some (r, h', c, n)
abbrev Ev (sc : Scr) (d M pc : Nat) (L : Lcs) (S : Stk) (h : AHp) (r : Option Value) (h' : AHp) : Prop := Ek sc d M pc L S h r h' 0 0
def stp (M pc : Nat) (L : Lcs) (S : Stk) : Option (Nat × Lcs × Stk) := match cAt M pc with
  | some (ins, nx, a, _, v) => (match kd ins a with
    | 0 => st1 ins nx a v L S
    | _ => none)
  | none => none
/-- plain steps, at least one, as far as they go -/
def gos : Nat → Nat → Nat → Lcs → Stk → Option (Nat × Lcs × Stk)
  | 0, _, _, _, _ => none
  | k + 1, M, pc, L, S => match stp M pc L S with
    | none => none
    | some (pc', L', S') => (match gos k M pc' L' S' with
      | none => some (pc', L', S')
      | some x => some x)
section EV
variable {sc : Scr} {d M pc nx a b : Nat} {v : Value} {ins : Instr} {L : Lcs} {S : Stk} {h h' : AHp} {r : Option Value} {c n : Nat}
theorem ev_stp {pc' : Nat} {L' : Lcs} {S' : Stk} (hs : stp M pc L S = some (pc', L', S')) (k : Ek sc d M pc' L' S' h r h' c n) : Ek sc d M pc L S h r h' c n := by
  obtain ⟨f, e⟩ := k
  refine ⟨f + 1, ?_⟩
  unfold stp at hs
  split at hs
  · rename_i ins nx a b v hc
    split at hs
    · rename_i hk
      unfold run
      simp only [hc, hk, hs]
      exact e
    · cases hs
  · cases hs
theorem ev_gos : ∀ (k : Nat) {pc pc' : Nat} {L L' : Lcs} {S S' : Stk}, gos k M pc L S = some (pc', L', S') → Ek sc d M pc' L' S' h r h' c n → Ek sc d M pc L S h r h' c n
  | 0, _, _, _, _, _, _, hs, _ => by cases hs
  | k + 1, pc, pc', L, L', S, S', hs, e => by
    unfold gos at hs
    split at hs
    · cases hs
    · rename_i h1
      split at hs
      · cases hs
        exact ev_stp h1 e
      · rename_i h2
        cases hs
        exact ev_stp h1 (ev_gos k h2 e)
theorem ev_if {cd : Bool} {S' : Stk} (hc : cAt M pc = some (ins, nx, a, b, v)) (hk : kd ins a = 1) (hs : brS ins S = some (cd, S')) (k1 : cd = true → Ek sc d M a L S' h r h' c n) (k2 : cd = false → Ek sc d M nx L S' h r h' c n) : Ek sc d M pc L S h r h' c n := by
  cases hcd : cd with
  | true =>
    obtain ⟨f, e⟩ := k1 hcd
    refine ⟨f + 1, ?_⟩
    subst hcd
    unfold run
    simp only [hc, hk, hs]
    exact e
  | false =>
    obtain ⟨f, e⟩ := k2 hcd
    refine ⟨f + 1, ?_⟩
    subst hcd
    unfold run
    simp only [hc, hk, hs]
    exact e
theorem ev_sw {t : Nat} {x : Int32} (hc : cAt M pc = some (ins, nx, a, b, v)) (hk : kd ins a = 2) (hs : swT ins pc x = some t) (k : Ek sc d M t L S h r h' c n) : Ek sc d M pc L (.int x :: S) h r h' c n := by
  obtain ⟨f, e⟩ := k
  refine ⟨f + 1, ?_⟩
  have hs2 : swS ins pc (.int x :: S) = some (t, S) := by unfold swS; simp only [hs]
  unfold run
  simp only [hc, hk, hs2]
  exact e
theorem ev_hr {S' : Stk} (hc : cAt M pc = some (ins, nx, a, b, v)) (hk : kd ins a = 3) (hs : hrd sc ins a b v S h = some S') (k : Ek sc d M nx L S' h r h' c n) : Ek sc d M pc L S h r h' c n := by
  obtain ⟨f, e⟩ := k
  refine ⟨f + 1, ?_⟩
  unfold run
  simp only [hc, hk, hs]
  exact e
theorem ev_hw {S' : Stk} {h1 : AHp} (hc : cAt M pc = some (ins, nx, a, b, v)) (hk : kd ins a = 4) (hs : hwr ins a b S h = some (S', h1)) (k : Ek sc d M nx L S' h1 r h' c n) : Ek sc d M pc L S h r h' c n := by
  obtain ⟨f, e⟩ := k
  refine ⟨f + 1, ?_⟩
  unfold run
  simp only [hc, hk, hs]
  exact e
theorem ev_al {S' : Stk} {h1 : AHp} {n1 : Nat} (hc : cAt M pc = some (ins, nx, a, b, v)) (hk : kd ins a = 5) (hs : alc ins a S h = some (S', h1, n1)) (k : Ek sc d M nx L S' h1 r h' c n) : Ek sc d M pc L S h r h' (c + 1) (n + n1) := by
  obtain ⟨f, e⟩ := k
  refine ⟨f + 1, ?_⟩
  unfold run
  simp only [hc, hk, hs, e]
theorem ev_cal {as rest : Stk} {nl c1 n1 c2 n2 : Nat} {r1 : Option Value} {h1 : AHp} (hc : cAt M pc = some (ins, nx, a, b, v)) (hk : kd ins a = 6) (hs : cal ins b v S h = some (as, rest, nl)) (k1 : Ek sc d a 0 (iniL nl as) [] h r1 h1 c1 n1) (k2 : Ek sc (d + 1) M nx L (r1.toList ++ rest) h1 r h' c2 n2) : Ek sc (d + 1) M pc L S h r h' (c1 + c2) (n1 + n2) := by
  obtain ⟨f, e⟩ := k1
  obtain ⟨g, e2⟩ := k2
  refine ⟨f + g + 1, ?_⟩
  have e3 := run_mono (g := f + g) (by omega) e
  have e4 := run_mono (g := f + g) (by omega) e2
  unfold run
  simp only [hc, hk, hs, e3, e4]
theorem ev_rt (hc : cAt M pc = some (ins, nx, a, b, v)) (hk : kd ins a = 7) (hs : rtS ins b S = some r) : Ek sc d M pc L S h r h 0 0 := by
  refine ⟨1, ?_⟩
  unfold run
  simp only [hc, hk, hs]
/-! the same by instruction, over cells that are known by a hypothesis -/
theorem ev_gf {i p : Nat} {fs : List Value} {w : Value} (hc : cAt M pc = some (.getfield i, nx, a, b, v)) (hp : h[p]? = some (.inr (a, fs))) (hf : fs[b]? = some w) (k : Ek sc d M nx L (w :: S) h r h' c n) : Ek sc d M pc L (.ref p :: S) h r h' c n := by
  refine ev_hr hc rfl ?_ k
  show gfC a b S h[p]? = _
  rw [hp]
  unfold gfC
  simp [hf]
theorem ev_pf {i p : Nat} {fs : List Value} {w : Value} (hc : cAt M pc = some (.putfield i, nx, a, b, v)) (hp : h[p]? = some (.inr (a, fs))) (hf : (Nat.blt b fs.length && okV (fty a b) w) = true) (k : Ek sc d M nx L S (h.set p (.inr (a, fs.set b w))) r h' c n) : Ek sc d M pc L (w :: .ref p :: S) h r h' c n := by
  refine ev_hw hc rfl ?_ k
  show pfC a b w p S h h[p]? = _
  rw [hp]
  unfold pfC
  simp [hf]
theorem rd_of {p : Nat} {x : ACell} (hp : h[p]? = some x) : rd sc h p = some x := by
  unfold rd
  rw [hp]
theorem inB_of {i : Int32} {m : Nat} (h1 : 0 ≤ i.toInt) (h2 : i.toInt < m) : inB i m = true := by
  unfold inB
  rw [decide_eq_true h1, decide_eq_true h2]
  rfl
theorem ev_ia {p m : Nat} {i : Int32} {f : Nat → Int32} (hc : cAt M pc = some (.iaload, nx, a, b, v)) (hp : h[p]? = some (.inl (0, m, .inl f))) (hi : inB i m = true) (k : Ek sc d M nx L (.int (f i.toNatClampNeg) :: S) h r h' c n) : Ek sc d M pc L (.int i :: .ref p :: S) h r h' c n := by
  refine ev_hr hc rfl ?_ k
  show ialC i S (rd sc h p) = _
  rw [rd_of hp]
  unfold ialC
  simp [hi]
theorem ev_ir {p m : Nat} {i : Int32} {f : Nat → Int32} (hc : cAt M pc = some (.iaload, nx, a, b, v)) (hp : rd sc h p = some (.inl (0, m, .inl f))) (hi : inB i m = true) (k : Ek sc d M nx L (.int (f i.toNatClampNeg) :: S) h r h' c n) : Ek sc d M pc L (.int i :: .ref p :: S) h r h' c n := by
  refine ev_hr hc rfl ?_ k
  show ialC i S (rd sc h p) = _
  rw [hp]
  unfold ialC
  simp [hi]
theorem ev_la {p m : Nat} {i : Int32} {f : Nat → Int64} (hc : cAt M pc = some (.laload, nx, a, b, v)) (hp : h[p]? = some (.inl (1, m, .inr (.inl f)))) (hi : inB i m = true) (k : Ek sc d M nx L (.long (f i.toNatClampNeg) :: S) h r h' c n) : Ek sc d M pc L (.int i :: .ref p :: S) h r h' c n := by
  refine ev_hr hc rfl ?_ k
  show lalC i S h[p]? = _
  rw [hp]
  unfold lalC
  simp [hi]
theorem ev_ba {p m : Nat} {i : Int32} {f : Nat → Int32} (hc : cAt M pc = some (.baload, nx, a, b, v)) (hp : h[p]? = some (.inl (2, m, .inl f))) (hi : inB i m = true) (k : Ek sc d M nx L (.int (f i.toNatClampNeg) :: S) h r h' c n) : Ek sc d M pc L (.int i :: .ref p :: S) h r h' c n := by
  refine ev_hr hc rfl ?_ k
  show balC i S h[p]? = _
  rw [hp]
  unfold balC
  simp [hi]
theorem ev_len {p m : Nat} {x : (Nat → Int32) ⊕ (Nat → Int64) ⊕ (Nat → UInt32) ⊕ (Nat → UInt64) ⊕ (Nat → Option Nat)} (hc : cAt M pc = some (.arraylength, nx, a, b, v)) (hp : rd sc h p = some (.inl (0, m, x)) ∨ rd sc h p = some (.inl (1, m, x))) (k : Ek sc d M nx L (.int (Int32.ofNat m) :: S) h r h' c n) : Ek sc d M pc L (.ref p :: S) h r h' c n := by
  refine ev_hr hc rfl ?_ k
  show lenC S (rd sc h p) = _
  rcases hp with hp | hp <;> rw [hp] <;> rfl
theorem ev_is {p m : Nat} {i x : Int32} {f : Nat → Int32} (hc : cAt M pc = some (.iastore, nx, a, b, v)) (hp : h[p]? = some (.inl (0, m, .inl f))) (hi : inB i m = true) (k : Ek sc d M nx L S (h.set p (.inl (0, m, .inl (upd f i.toNatClampNeg x)))) r h' c n) : Ek sc d M pc L (.int x :: .int i :: .ref p :: S) h r h' c n := by
  refine ev_hw hc rfl ?_ k
  show iasC x i p S h h[p]? = _
  rw [hp]
  unfold iasC
  simp [hi]
theorem ev_lst {p m : Nat} {i : Int32} {x : Int64} {f : Nat → Int64} (hc : cAt M pc = some (.lastore, nx, a, b, v)) (hp : h[p]? = some (.inl (1, m, .inr (.inl f)))) (hi : inB i m = true) (k : Ek sc d M nx L S (h.set p (.inl (1, m, .inr (.inl (vp_updL f i.toNatClampNeg x))))) r h' c n) : Ek sc d M pc L (.long x :: .int i :: .ref p :: S) h r h' c n := by
  refine ev_hw hc rfl ?_ k
  show lasC x i p S h h[p]? = _
  rw [hp]
  unfold lasC
  simp [hi]
theorem ev_bs {p m : Nat} {i x : Int32} {f : Nat → Int32} (hc : cAt M pc = some (.bastore, nx, a, b, v)) (hp : h[p]? = some (.inl (2, m, .inl f))) (hi : inB i m = true) (k : Ek sc d M nx L S (h.set p (.inl (2, m, .inl (upd f i.toNatClampNeg (vp_nar .boolean x))))) r h' c n) : Ek sc d M pc L (.int x :: .int i :: .ref p :: S) h r h' c n := by
  refine ev_hw hc rfl ?_ k
  show basC x i p S h h[p]? = _
  rw [hp]
  unfold basC
  simp [hi]
def calP (b z : Nat) (S : Stk) : Option (Stk × Stk) :=
  bif Nat.ble b S.length && (Nat.ble (catS (S.drop b)) 8 && Nat.ble (catS (S.take b)) (z / 100)) then some ((S.take b).reverse, S.drop b) else none
theorem cal_of {z : Nat} {as rest : Stk} (hs : calP b z S = some (as, rest)) (hr : rcv ins (z % 100) as h = true) : cal ins b (.retAddr z) S h = some (as, rest, z / 100) := by
  unfold calP at hs
  obtain ⟨h1, h2⟩ := bifE hs
  cases h2
  show calZ ins b z S h = _
  unfold calZ
  obtain ⟨h3, h4⟩ := andE h1
  obtain ⟨h4, h5⟩ := andE h4
  rw [h3, h4, h5, hr]
  rfl
/-- a call of a method on the object p -/
theorem ev_cv {i z p : Nat} {fs : List Value} {As rest : Stk} {r1 : Option Value} {h1 : AHp} (hc : cAt M pc = some (.invokevirtual i, nx, a, b, .retAddr z)) (hs : calP b z S = some (.ref p :: As, rest)) (hp : h[p]? = some (.inr (z % 100, fs))) (k1 : Ev sc d a 0 (iniL (z / 100) (.ref p :: As)) [] h r1 h1) (k2 : Ek sc (d + 1) M nx L (r1.toList ++ rest) h1 r h' c n) : Ek sc (d + 1) M pc L S h r h' c n := by
  have h9 := ev_cal hc rfl (cal_of (ins := .invokevirtual i) hs (by show rcC (z % 100) h[p]? = true; rw [hp]; unfold rcC; simp)) k1 k2
  rw [Nat.zero_add, Nat.zero_add] at h9
  exact h9
theorem ev_cs {i z : Nat} {as rest : Stk} {r1 : Option Value} {h1 : AHp} (hc : cAt M pc = some (.invokestatic i, nx, a, b, .retAddr z)) (hk : kd (.invokestatic i) a = 6) (hs : calP b z S = some (as, rest)) (k1 : Ev sc d a 0 (iniL (z / 100) as) [] h r1 h1) (k2 : Ek sc (d + 1) M nx L (r1.toList ++ rest) h1 r h' c n) : Ek sc (d + 1) M pc L S h r h' c n := by
  have h9 := ev_cal hc hk (cal_of (ins := .invokestatic i) hs rfl) k1 k2
  rw [Nat.zero_add, Nat.zero_add] at h9
  exact h9
end EV
/-! fewer locals are enough -/
def wk : Lcs → Lcs → Prop
  | [], _ => True
  | none :: l, _ :: k => wk l k
  | some v :: l, x :: k => x = some v ∧ wk l k
  | _ :: _, [] => False
def wkR (L' L : Lcs) : Prop := L'.length = L.length ∧ ∀ i v, gL L' i = some v → gL L i = some v
theorem kil_keep {L : Lcs} {i j : Nat} {v : Value} (h : L[j]? = some (some v)) (hn : ¬ (j + 1 = i ∧ v.category = 2)) : (kil L i)[j]? = some (some v) := by
  cases i with
  | zero => exact h
  | succ n =>
    show (kil1 L n L[n]?)[j]? = some (some v)
    unfold kil1
    split
    · rename_i w e
      cases hw : isC1 w with
      | true => exact h
      | false =>
        show (L.set n none)[j]? = some (some v)
        rw [List.getElem?_set]
        split
        · rename_i hj
          subst hj
          have h3 := e.symm.trans h
          cases h3
          exact absurd ⟨rfl, C2_cat hw⟩ hn
        · exact h
    · exact h
theorem kil_len (L : Lcs) (i : Nat) : (kil L i).length = L.length := by
  cases i with
  | zero => rfl
  | succ n =>
    show (kil1 L n L[n]?).length = L.length
    unfold kil1
    split
    · rename_i w e
      cases hw : isC1 w with
      | true => rfl
      | false => exact List.length_set
    · rfl
theorem wkR_s1 {L' L : Lcs} (h : wkR L' L) (i : Nat) (v : Value) : wkR (sL1 L' i v) (sL1 L i v) := by
  refine ⟨?_, fun j w hj => ?_⟩
  · rw [sL1_eq, sL1_eq, List.length_set, List.length_set, kil_len, kil_len]
    exact h.1
  · have h1 := gL_lt hj
    apply gL_of
    rw [sL1_eq] at h1 ⊢
    rw [List.getElem?_set] at h1 ⊢
    rw [kil_len] at h1 ⊢
    rw [← h.1]
    split at h1
    · rename_i he
      rw [if_pos he]
      exact h1
    · rename_i he
      rw [if_neg he]
      obtain ⟨h2, h3⟩ := kil_get h1
      exact kil_keep (gL_lt (h.2 j w (gL_of h2))) h3
theorem wkR_s2 {L' L : Lcs} (h : wkR L' L) (i : Nat) (v : Value) : wkR (sL2 L' i v) (sL2 L i v) := by
  have h0 := wkR_s1 h i v
  refine ⟨?_, fun j w hj => ?_⟩
  · rw [sL2_eq, sL2_eq, ← sL1_eq, ← sL1_eq, List.length_set, List.length_set]
    exact h0.1
  · have h1 := gL_lt hj
    apply gL_of
    rw [sL2_eq, ← sL1_eq] at h1 ⊢
    rw [List.getElem?_set] at h1 ⊢
    split at h1
    · split at h1 <;> cases h1
    · rename_i he
      rw [if_neg he]
      exact gL_lt (h0.2 j w (gL_of h1))
theorem st1_wk {L' L : Lcs} (h : wkR L' L) {ins : Instr} {nx a pc' : Nat} {v : Value} {S S1 : Stk} {L1 : Lcs} (e : st1 ins nx a v L' S = some (pc', L1, S1)) : ∃ L2, st1 ins nx a v L S = some (pc', L2, S1) ∧ wkR L1 L2 := by
  unfold st1 at e ⊢
  split at e
  · cases e; exact ⟨L, rfl, h⟩
  · cases e; exact ⟨L, rfl, h⟩
  · cases e; exact ⟨L, rfl, h⟩
  · cases e; exact ⟨L, rfl, h⟩
  · cases e; exact ⟨L, rfl, h⟩
  · cases e; exact ⟨L, rfl, h⟩
  · cases e; exact ⟨L, rfl, h⟩
  · obtain ⟨w, hw, rfl, rfl, rfl⟩ := push_inv e
    obtain ⟨x, hg, rfl⟩ := ldI_inv hw
    exact ⟨L, by simp only [h.2 _ _ hg]; rfl, h⟩
  · obtain ⟨w, hw, rfl, rfl, rfl⟩ := push_inv e
    obtain ⟨x, hg, rfl⟩ := ldI_inv hw
    exact ⟨L, by simp only [h.2 _ _ hg]; rfl, h⟩
  · obtain ⟨w, hw, rfl, rfl, rfl⟩ := push_inv e
    obtain ⟨x, hg, rfl⟩ := ldL_inv hw
    exact ⟨L, by simp only [h.2 _ _ hg]; rfl, h⟩
  · obtain ⟨w, hw, rfl, rfl, rfl⟩ := push_inv e
    obtain ⟨x, hg, rfl⟩ := ldL_inv hw
    exact ⟨L, by simp only [h.2 _ _ hg]; rfl, h⟩
  · obtain ⟨w, hw, rfl, rfl, rfl⟩ := push_inv e
    obtain ⟨x, hg, rfl⟩ := ldA_inv hw
    exact ⟨L, by simp only [h.2 _ _ hg]; rfl, h⟩
  · obtain ⟨w, hw, rfl, rfl, rfl⟩ := push_inv e
    obtain ⟨x, hg, rfl⟩ := ldA_inv hw
    exact ⟨L, by simp only [h.2 _ _ hg]; rfl, h⟩
  · obtain ⟨x, rfl, rfl, rfl⟩ := stI_inv e
    exact ⟨_, rfl, wkR_s1 h _ _⟩
  · obtain ⟨x, rfl, rfl, rfl⟩ := stI_inv e
    exact ⟨_, rfl, wkR_s1 h _ _⟩
  · obtain ⟨x, rfl, rfl, rfl⟩ := stL_inv e
    exact ⟨_, rfl, wkR_s2 h _ _⟩
  · obtain ⟨x, rfl, rfl, rfl⟩ := stL_inv e
    exact ⟨_, rfl, wkR_s2 h _ _⟩
  · obtain ⟨x, rfl, rfl, rfl⟩ := stA_inv e
    exact ⟨_, rfl, wkR_s1 h _ _⟩
  · obtain ⟨x, rfl, rfl, rfl⟩ := stA_inv e
    exact ⟨_, rfl, wkR_s1 h _ _⟩
  · obtain ⟨x, n, hg, rfl, rfl, rfl, rfl⟩ := incS_inv e
    exact ⟨sL1 L a (.int (x + n)), by simp only [h.2 _ _ hg]; rfl, wkR_s1 h _ _⟩
  · cases e; exact ⟨L, rfl, h⟩
  · cases hA : alu ins S with
    | none => rw [hA] at e; cases e
    | some S2 =>
      rw [hA] at e
      cases e
      exact ⟨L, rfl, h⟩
theorem run_wk (sc : Scr) : ∀ (f d M pc : Nat) (L' L : Lcs) (S : Stk) (h : AHp) (x : Res), wkR L' L → run sc f d M pc L' S h = some x → run sc f d M pc L S h = some x := by
  intro f
  induction f with
  | zero => intro d M pc L' L S h x hw e; cases e
  | succ f ih =>
    intro d M pc L' L S h x hw e
    unfold run at e
    unfold run
    split at e
    · cases e
    · rename_i ins nx a b v hc
      split at e
      · rename_i hk
        try simp only [hk]
        split at e
        · cases e
        · rename_i hs
          obtain ⟨L2, h2, h3⟩ := st1_wk hw hs
          try simp only [h2]
          exact ih _ _ _ _ _ _ _ _ h3 e
      · rename_i hk
        try simp only [hk]
        split at e
        · cases e
        · rename_i hs
          try simp only [hs]
          exact ih _ _ _ _ _ _ _ _ hw e
      · rename_i hk
        try simp only [hk]
        split at e
        · cases e
        · rename_i hs
          try simp only [hs]
          exact ih _ _ _ _ _ _ _ _ hw e
      · rename_i hk
        try simp only [hk]
        split at e
        · cases e
        · rename_i hs
          try simp only [hs]
          exact ih _ _ _ _ _ _ _ _ hw e
      · rename_i hk
        try simp only [hk]
        split at e
        · cases e
        · rename_i hs
          try simp only [hs]
          exact ih _ _ _ _ _ _ _ _ hw e
      · rename_i hk
        try simp only [hk]
        split at e
        · cases e
        · rename_i hs
          try simp only [hs]
          split at e
          · cases e
          · rename_i e2
            try simp only [ih _ _ _ _ _ _ _ _ hw e2]
            exact e
      · rename_i hk
        try simp only [hk]
        split at e
        · cases e
        · split at e
          · cases e
          · rename_i hs
            try simp only [hs]
            split at e
            · cases e
            · rename_i e1
              try simp only [e1]
              split at e
              · cases e
              · rename_i e2
                try simp only [ih _ _ _ _ _ _ _ _ hw e2]
                exact e
      · exact e
theorem wk_get : ∀ {L' L : Lcs}, wk L' L → ∀ (i : Nat) (v : Value), L'[i]? = some (some v) → L[i]? = some (some v)
  | [], _, _, i, v, e => by cases e
  | none :: l, _ :: k, h, 0, v, e => by cases e
  | none :: l, _ :: k, h, i + 1, v, e => wk_get (L' := l) (L := k) h i v e
  | some w :: l, x :: k, h, 0, v, e => by
    cases e
    exact congrArg some h.1
  | some w :: l, x :: k, h, i + 1, v, e => wk_get (L' := l) (L := k) h.2 i v e
theorem ev_wk {sc : Scr} {d M pc : Nat} {L L' : Lcs} {S : Stk} {h h' : AHp} {r : Option Value} {c n : Nat} (hl : L'.length = L.length) (hw : wk L' L) (k : Ek sc d M pc L' S h r h' c n) : Ek sc d M pc L S h r h' c n := by
  obtain ⟨f, e⟩ := k
  exact ⟨f, run_wk sc f d M pc L' L S h _ ⟨hl, fun i v hi => gL_of (wk_get hw i v (gL_lt hi))⟩ e⟩
theorem ev_eq {sc : Scr} {d M pc : Nat} {L : Lcs} {S S' : Stk} {h h' : AHp} {r : Option Value} {c n : Nat} (e : S' = S) (k : Ek sc d M pc L S' h r h' c n) : Ek sc d M pc L S h r h' c n := e ▸ k
end
section
/-! bits of longs -/
def bs (x : Int64) (i : Nat) : Bool := x.toBitVec.getLsbD i
theorem bs_ext {x y : Int64} (h : ∀ i, i < 64 → bs x i = bs y i) : x = y := Int64.toBitVec_inj.mp (BitVec.eq_of_getLsbD_eq (fun i hi => h i hi))
theorem bs_big {x : Int64} {i : Nat} (h : 64 ≤ i) : bs x i = false := BitVec.getLsbD_of_ge _ _ h
theorem bs_and (x y : Int64) (i : Nat) : bs (x &&& y) i = (bs x i && bs y i) := by unfold bs; rw [Int64.toBitVec_and, BitVec.getLsbD_and]
theorem bs_or (x y : Int64) (i : Nat) : bs (x ||| y) i = (bs x i || bs y i) := by unfold bs; rw [Int64.toBitVec_or, BitVec.getLsbD_or]
theorem bs_xor (x y : Int64) (i : Nat) : bs (x ^^^ y) i = (bs x i ^^ bs y i) := by unfold bs; rw [Int64.toBitVec_xor, BitVec.getLsbD_xor]
theorem bs_0 (i : Nat) : bs 0 i = false := by unfold bs; show (0#64).getLsbD i = false; simp
theorem bs_m1 {i : Nat} (h : i < 64) : bs (-1) i = true := by
  unfold bs
  rw [show ((-1 : Int64)).toBitVec = BitVec.allOnes 64 from by decide, BitVec.getLsbD_allOnes]
  exact decide_eq_true h
theorem tb1 (i : Nat) : Nat.testBit 1 i = decide (i = 0) := by
  cases i with
  | zero => rfl
  | succ n => rw [Nat.testBit_succ]; simp
theorem bs_not (x : Int64) {i : Nat} (h : i < 64) : bs (x ^^^ (-1)) i = !bs x i := by rw [bs_xor, bs_m1 h]; simp
theorem lN_tb (n : Nat) : (lN n).toBitVec = BitVec.ofNat 64 n := rfl
theorem bs_lN {n : Nat} {i : Nat} (h : i < 64) : bs (lN n) i = n.testBit i := by
  unfold bs
  rw [lN_tb, BitVec.getLsbD_ofNat]
  simp [h]
theorem sh_c : ∀ k, k < 64 → ((nI k).toInt64 &&& 63) = lN k := by decide +kernel
theorem sh_u : ∀ k, k < 64 → ((nI k).toInt64.toUInt64 &&& Int64.toUInt64 63) = UInt64.ofNat k := by decide +kernel
theorem sh_m : ∀ k, k < 64 → (BitVec.ofNat 64 k).smod 64 = BitVec.ofNat 64 k := by decide +kernel
theorem bs_shl (x : Int64) {k : Nat} (hk : k < 64) {i : Nat} (hi : i < 64) : bs (x <<< ((nI k).toInt64 &&& 63)) i = (decide (k ≤ i) && bs x (i - k)) := by
  unfold bs
  rw [sh_c k hk, Int64.toBitVec_shiftLeft, lN_tb, sh_m k hk, BitVec.shiftLeft_eq', BitVec.getLsbD_shiftLeft, BitVec.toNat_ofNat, Nat.mod_eq_of_lt (by omega)]
  by_cases h : i < k
  · simp [h, hi, show ¬ k ≤ i by omega]
  · simp [h, hi, show k ≤ i by omega]
theorem bs_ushr (x : Int64) {k : Nat} (hk : k < 64) (i : Nat) : bs (x.toUInt64 >>> ((nI k).toInt64.toUInt64 &&& Int64.toUInt64 63)).toInt64 i = bs x (k + i) := by
  unfold bs
  rw [sh_u k hk]
  show (x.toUInt64 >>> UInt64.ofNat k).toBitVec.getLsbD i = _
  rw [UInt64.toBitVec_shiftRight]
  show (x.toBitVec >>> ((BitVec.ofNat 64 k) % 64)).getLsbD i = _
  rw [BitVec.ushiftRight_eq', BitVec.getLsbD_ushiftRight]
  congr 1
  rw [BitVec.toNat_umod, BitVec.toNat_ofNat, Nat.mod_eq_of_lt (show k < 2 ^ 64 by omega)]
  show k % 64 + i = k + i
  rw [Nat.mod_eq_of_lt hk]
theorem bs_shr0 (x : Int64) {k : Nat} (hk : k < 64) : bs (x >>> ((nI k).toInt64 &&& 63)) 0 = bs x k := by
  unfold bs
  rw [sh_c k hk, Int64.toBitVec_shiftRight, lN_tb, sh_m k hk, BitVec.sshiftRight_eq', BitVec.getLsbD_sshiftRight, BitVec.toNat_ofNat, Nat.mod_eq_of_lt (by omega)]
  simp [hk]
theorem bs_1 {i : Nat} : bs 1 i = decide (i = 0) := by
  by_cases h : i < 64
  · rw [show (1 : Int64) = lN 1 from rfl, bs_lN h, tb1]
  · rw [bs_big (by omega)]
    simp
    omega
theorem bs_bit {k : Nat} (hk : k < 64) {i : Nat} (hi : i < 64) : bs ((1 : Int64) <<< ((nI k).toInt64 &&& 63)) i = decide (i = k) := by
  rw [bs_shl _ hk hi, bs_1]
  by_cases h : i = k
  · subst h
    simp
  · by_cases h2 : k ≤ i
    · simp [h, h2]
      omega
    · simp [h, h2]
theorem bs_eq0 {x : Int64} : x = 0 ↔ ∀ i, i < 64 → bs x i = false := ⟨fun h i _ => by rw [h, bs_0], fun h => bs_ext (fun i hi => by rw [h i hi, bs_0])⟩
theorem bs_ne0 {x : Int64} (h : ¬ x = 0) : ∃ i, i < 64 ∧ bs x i = true := by
  apply Classical.byContradiction
  intro h2
  apply h
  apply bs_eq0.mpr
  intro i hi
  cases hb : bs x i with
  | false => rfl
  | true => exact absurd ⟨i, hi, hb⟩ h2
theorem bs_and1 (x : Int64) : x &&& 1 = if bs x 0 then 1 else 0 := by
  apply bs_ext
  intro i hi
  rw [bs_and, bs_1]
  by_cases h : i = 0
  · subst h
    cases hb : bs x 0 <;> simp [bs_0, bs_1]
  · cases hb : bs x 0 <;> simp [h, bs_0, bs_1]
/-- the model's question: is the bit there -/
theorem bs_holds (x : Int64) {k : Nat} (hk : k < 64) : (x >>> ((nI k).toInt64 &&& 63)) &&& 1 = if bs x k then 1 else 0 := by rw [bs_and1, bs_shr0 x hk]
theorem bs_has (x : Int64) {k : Nat} (hk : k < 64) : (x.toUInt64 >>> ((nI k).toInt64.toUInt64 &&& Int64.toUInt64 63)).toInt64 &&& 1 = if bs x k then 1 else 0 := by rw [bs_and1, bs_ushr x hk, Nat.add_zero]
/-- the long of which the bits are so -/
def mkN (f : Nat → Bool) : Nat → Nat
  | 0 => 0
  | n + 1 => mkN f n + (if f n then 2 ^ n else 0)
theorem mkN_lt (f : Nat → Bool) : ∀ n, mkN f n < 2 ^ n
  | 0 => Nat.zero_lt_succ 0
  | n + 1 => by
    have := mkN_lt f n
    show mkN f n + _ < 2 ^ (n + 1)
    rw [Nat.pow_succ]
    split <;> omega
theorem mkN_bit (f : Nat → Bool) : ∀ n i, (mkN f n).testBit i = (decide (i < n) && f i)
  | 0, i => by show (0 : Nat).testBit i = _; simp
  | n + 1, i => by
    have ih := mkN_bit f n i
    have hl := mkN_lt f n
    show (mkN f n + _).testBit i = _
    cases hf : f n with
    | false =>
      simp only [Bool.false_eq_true, if_false, Nat.add_zero]
      rw [ih]
      by_cases h : i = n
      · subst h
        simp [hf]
      · by_cases h2 : i < n
        · simp [h2, show i < n + 1 by omega]
        · simp [h2, show ¬ i < n + 1 by omega]
    | true =>
      simp only [if_true]
      rw [Nat.add_comm, show 2 ^ n + mkN f n = 2 ^ n * 1 + mkN f n by omega, Nat.testBit_two_pow_mul_add 1 hl]
      by_cases h : i < n
      · rw [if_pos h, ih]
        simp [h, show i < n + 1 by omega]
      · rw [if_neg h]
        by_cases h2 : i = n
        · subst h2
          simp [hf]
        · rw [tb1]
          simp [show ¬ i < n + 1 by omega]
          omega
def mk64 (f : Nat → Bool) : Int64 := lN (mkN f 64)
theorem bs_mk (f : Nat → Bool) {i : Nat} (h : i < 64) : bs (mk64 f) i = f i := by
  unfold mk64
  rw [bs_lN h, mkN_bit]
  simp [h]
theorem mk_eq {x : Int64} {f : Nat → Bool} (h : ∀ i, i < 64 → bs x i = f i) : x = mk64 f := bs_ext (fun i hi => by rw [h i hi, bs_mk f hi])
theorem mk_congr {f g : Nat → Bool} (h : ∀ i, i < 64 → f i = g i) : mk64 f = mk64 g := bs_ext (fun i hi => by rw [bs_mk f hi, bs_mk g hi, h i hi])
theorem mk_bs (x : Int64) : mk64 (bs x) = x := bs_ext (fun i hi => bs_mk _ hi)
end
section
/-! counts and longs: families of the kit, as given for pasting (COUNTS, BITS, NUMBERS) -/
/-! ===== how many places have a property ===== -/
def fb_ct (p : Nat → Bool) : Nat → Nat
  | 0 => 0
  | n + 1 => fb_ct p n + (if p n then 1 else 0)
theorem fb_ct_succ (p : Nat → Bool) (n : Nat) : fb_ct p (n + 1) = fb_ct p n + (if p n then 1 else 0) := rfl
theorem fb_ct_le (p : Nat → Bool) : ∀ n, fb_ct p n ≤ n
  | 0 => Nat.le_refl _
  | n + 1 => by
    have h := fb_ct_le p n
    rw [fb_ct_succ]
    split <;> omega
theorem fb_ct_step (p : Nat → Bool) (m : Nat) : ∀ n, fb_ct p m ≤ fb_ct p (m + n)
  | 0 => Nat.le_refl _
  | n + 1 => by
    have h := fb_ct_step p m n
    show fb_ct p m ≤ fb_ct p (m + n + 1)
    rw [fb_ct_succ]
    omega
theorem fb_ct_mono (p : Nat → Bool) {m n : Nat} (h : m ≤ n) : fb_ct p m ≤ fb_ct p n := by
  have := fb_ct_step p m (n - m)
  rwa [Nat.add_sub_cancel' h] at this
theorem fb_ct_cong {p q : Nat → Bool} : ∀ {n : Nat}, (∀ k, k < n → p k = q k) → fb_ct p n = fb_ct q n
  | 0, _ => rfl
  | n + 1, h => by
    rw [fb_ct_succ, fb_ct_succ, fb_ct_cong (fun k hk => h k (by omega)), h n (by omega)]
/-- one place changed -/
theorem fb_ct_out (p : Nat → Bool) (b : Bool) {i n : Nat} (h : n ≤ i) : fb_ct (fun k => if k = i then b else p k) n = fb_ct p n :=
  fb_ct_cong fun k hk => if_neg (by omega)
theorem fb_ct_upd (p : Nat → Bool) (b : Bool) {i : Nat} : ∀ {n : Nat}, i < n → fb_ct (fun k => if k = i then b else p k) n + (if p i then 1 else 0) = fb_ct p n + (if b then 1 else 0)
  | 0, h => absurd h (Nat.not_lt_zero i)
  | n + 1, h => by
    rw [fb_ct_succ, fb_ct_succ]
    rcases Nat.lt_or_ge i n with q | q
    · have := fb_ct_upd p b q
      have e : (if n = i then b else p n) = p n := if_neg (by omega)
      rw [e]
      omega
    · have e : i = n := by omega
      subst e
      rw [fb_ct_out p b (Nat.le_refl _)]
      simp only [if_true]
      omega
theorem fb_ct_sub {p q : Nat → Bool} : ∀ {n : Nat}, (∀ k, k < n → p k = true → q k = true) → fb_ct p n ≤ fb_ct q n
  | 0, _ => Nat.le_refl _
  | n + 1, h => by
    have h1 := fb_ct_sub (n := n) (p := p) (q := q) (fun k hk => h k (by omega))
    have h2 := h n (by omega)
    rw [fb_ct_succ, fb_ct_succ]
    cases hp : p n <;> cases hq : q n <;> simp_all <;> omega
theorem fb_ct_or {p q : Nat → Bool} : ∀ {n : Nat}, (∀ k, k < n → ¬ (p k = true ∧ q k = true)) → fb_ct (fun k => p k || q k) n = fb_ct p n + fb_ct q n
  | 0, _ => rfl
  | n + 1, h => by
    have h1 := fb_ct_or (n := n) (p := p) (q := q) (fun k hk => h k (by omega))
    have h2 := h n (by omega)
    rw [fb_ct_succ, fb_ct_succ, fb_ct_succ, h1]
    cases hp : p n <;> cases hq : q n <;> simp_all <;> omega
theorem fb_ct_not (p : Nat → Bool) : ∀ n, fb_ct p n + fb_ct (fun k => !p k) n = n
  | 0 => rfl
  | n + 1 => by
    have h := fb_ct_not p n
    rw [fb_ct_succ, fb_ct_succ]
    cases p n <;> simp <;> omega
theorem fb_ct_split (p : Nat → Bool) (m : Nat) : ∀ n, fb_ct p (m + n) = fb_ct p m + fb_ct (fun k => p (m + k)) n
  | 0 => rfl
  | n + 1 => by
    have h := fb_ct_split p m n
    show fb_ct p (m + n + 1) = _
    rw [fb_ct_succ, fb_ct_succ, h, Nat.add_assoc]
theorem fb_ct_zero {p : Nat → Bool} : ∀ {n : Nat}, fb_ct p n = 0 ↔ ∀ k, k < n → p k = false
  | 0 => ⟨fun _ k hk => absurd hk (Nat.not_lt_zero k), fun _ => rfl⟩
  | n + 1 => by
    have h := fb_ct_zero (p := p) (n := n)
    rw [fb_ct_succ]
    constructor
    · intro e k hk
      have e1 : fb_ct p n = 0 := by omega
      rcases Nat.lt_or_ge k n with q | q
      · exact h.mp e1 k q
      · have ek : k = n := by omega
        subst ek
        cases hp : p k
        · rfl
        · simp [hp] at e
    · intro a
      rw [h.mpr (fun k hk => a k (by omega)), a n (by omega)]
      rfl
theorem fb_ct_pos {p : Nat → Bool} {n : Nat} : 0 < fb_ct p n ↔ ∃ k, k < n ∧ p k = true := by
  constructor
  · intro h
    refine Classical.byContradiction fun hx => ?_
    have := fb_ct_zero.mpr (fun k hk => by
      cases hp : p k
      · rfl
      · exact absurd ⟨k, hk, hp⟩ hx : ∀ k, k < n → p k = false)
    omega
  · rintro ⟨k, hk, hp⟩
    rcases Nat.eq_zero_or_pos (fb_ct p n) with e | e
    · have := fb_ct_zero.mp e k hk
      rw [this] at hp
      cases hp
    · exact e
theorem fb_ct_all {p : Nat → Bool} {n : Nat} : fb_ct p n = n ↔ ∀ k, k < n → p k = true := by
  have h := fb_ct_not p n
  constructor
  · intro e k hk
    have z : fb_ct (fun k => !p k) n = 0 := by omega
    have := fb_ct_zero.mp z k hk
    cases hp : p k
    · simp [hp] at this
    · rfl
  · intro a
    have z : fb_ct (fun k => !p k) n = 0 := fb_ct_zero.mpr (fun k hk => by simp [a k hk])
    omega
/-- the k-th place with the property -/
theorem fb_ct_kth {p : Nat → Bool} {k : Nat} : ∀ {n : Nat}, k < fb_ct p n → ∃ i, i < n ∧ p i = true ∧ fb_ct p i = k
  | 0, h => absurd h (Nat.not_lt_zero k)
  | n + 1, h => by
    rcases Nat.lt_or_ge k (fb_ct p n) with q | q
    · obtain ⟨i, h1, h2⟩ := fb_ct_kth q
      exact ⟨i, by omega, h2⟩
    · rw [fb_ct_succ] at h
      cases hp : p n
      · simp [hp] at h; omega
      · simp [hp] at h
        exact ⟨n, by omega, hp, by omega⟩
theorem fb_ct_kth_one {p : Nat → Bool} {i j : Nat} (hi : p i = true) (hj : p j = true) (e : fb_ct p i = fb_ct p j) : i = j := by
  have key : ∀ a b : Nat, a < b → p a = true → fb_ct p a < fb_ct p b := by
    intro a b hab ha
    have h := fb_ct_mono p (show a + 1 ≤ b from hab)
    rw [fb_ct_succ, ha] at h
    simp at h
    omega
  rcases Nat.lt_trichotomy i j with q | q | q
  · have := key i j q hi; omega
  · exact q
  · have := key j i q hj; omega
/-! ===== lN n to 2^64: shifts, and, or, masks, one bit ===== -/
theorem wb_tb (n : Nat) : (lN n).toBitVec = BitVec.ofNat 64 n := rfl
theorem wb_inj {a b : Int64} (h : a.toBitVec = b.toBitVec) : a = b := Int64.toBitVec_inj.mp h
theorem wb_tn {n : Nat} (h : n < 2 ^ 64) : (lN n).toBitVec.toNat = n := by rw [wb_tb, BitVec.toNat_ofNat, Nat.mod_eq_of_lt h]
theorem wb_of (x : Int64) : ∃ n, n < 2 ^ 64 ∧ x = lN n := ⟨x.toBitVec.toNat, x.toBitVec.isLt, wb_inj (by rw [wb_tb]; simp)⟩
theorem wb_of32 (x : Int32) : ∃ n, n < 2 ^ 32 ∧ x = nI n := ⟨x.toBitVec.toNat, x.toBitVec.isLt, Int32.toBitVec_inj.mp (by show _ = BitVec.ofNat 32 _; simp)⟩
theorem wb_c : ∀ k, k < 64 → ((nI k).toInt64 &&& 63) = lN k := by decide +kernel
theorem wb_cu : ∀ k, k < 64 → ((nI k).toInt64.toUInt64 &&& Int64.toUInt64 63) = UInt64.ofNat k := by decide +kernel
theorem wb_sm : ∀ k, k < 64 → (BitVec.ofNat 64 k).smod 64 = BitVec.ofNat 64 k := by decide +kernel
theorem wb_pw {a b : Nat} (h : a ≤ b) : 2 ^ b = 2 ^ a * 2 ^ (b - a) := by rw [← Nat.pow_add]; congr 1; omega
theorem wb_lt2 {a b : Nat} (h : a < b) : 2 ^ a < 2 ^ b := Nat.pow_lt_pow_right (by decide) h
theorem wb_mod (n : Nat) : lN n = lN (n % 2 ^ 64) := wb_inj (by rw [wb_tb, wb_tb]; apply BitVec.eq_of_toNat_eq; rw [BitVec.toNat_ofNat, BitVec.toNat_ofNat, Nat.mod_mod])
theorem wb_shr {n k : Nat} (hn : n < 2 ^ 64) (hk : k < 64) : ((lN n).toUInt64 >>> ((nI k).toInt64.toUInt64 &&& Int64.toUInt64 63)).toInt64 = lN (n / 2 ^ k) := by
  rw [wb_cu k hk]
  apply wb_inj
  apply BitVec.eq_of_toNat_eq
  show ((lN n).toUInt64 >>> UInt64.ofNat k).toNat = (BitVec.ofNat 64 _).toNat
  have h1 : (UInt64.ofNat k).toNat = k := by
    show (BitVec.ofNat 64 k).toNat = k
    rw [BitVec.toNat_ofNat, Nat.mod_eq_of_lt (by omega)]
  have h2 : (lN n).toUInt64.toNat = n := wb_tn hn
  rw [UInt64.toNat_shiftRight, h1, h2, Nat.mod_eq_of_lt hk, Nat.shiftRight_eq_div_pow, BitVec.toNat_ofNat, Nat.mod_eq_of_lt (Nat.lt_of_le_of_lt (Nat.div_le_self _ _) hn)]
theorem wb_shl (n : Nat) {k : Nat} (hk : k < 64) : lN n <<< ((nI k).toInt64 &&& 63) = lN (n * 2 ^ k) := by
  rw [wb_c k hk]
  apply wb_inj
  rw [Int64.toBitVec_shiftLeft, wb_tb, wb_tb, wb_tb, wb_sm k hk]
  apply BitVec.eq_of_toNat_eq
  rw [BitVec.shiftLeft_eq', BitVec.toNat_shiftLeft, BitVec.toNat_ofNat, BitVec.toNat_ofNat, BitVec.toNat_ofNat, Nat.mod_eq_of_lt (show k < 2 ^ 64 by omega), Nat.shiftLeft_eq, Nat.mul_mod, Nat.mod_mod, ← Nat.mul_mod]
theorem wb_and {a b : Nat} (ha : a < 2 ^ 64) (hb : b < 2 ^ 64) : lN a &&& lN b = lN (a &&& b) := by
  apply wb_inj
  rw [Int64.toBitVec_and, wb_tb, wb_tb, wb_tb]
  apply BitVec.eq_of_toNat_eq
  rw [BitVec.toNat_and, BitVec.toNat_ofNat, BitVec.toNat_ofNat, BitVec.toNat_ofNat, Nat.mod_eq_of_lt ha, Nat.mod_eq_of_lt hb, Nat.mod_eq_of_lt (Nat.and_lt_two_pow _ hb)]
theorem wb_or {a b : Nat} (ha : a < 2 ^ 64) (hb : b < 2 ^ 64) : lN a ||| lN b = lN (a ||| b) := by
  apply wb_inj
  rw [Int64.toBitVec_or, wb_tb, wb_tb, wb_tb]
  apply BitVec.eq_of_toNat_eq
  rw [BitVec.toNat_or, BitVec.toNat_ofNat, BitVec.toNat_ofNat, BitVec.toNat_ofNat, Nat.mod_eq_of_lt ha, Nat.mod_eq_of_lt hb, Nat.mod_eq_of_lt (Nat.or_lt_two_pow ha hb)]
theorem wb_mask {n k : Nat} (hn : n < 2 ^ 64) (hk : k < 64) : lN n &&& lN (2 ^ k - 1) = lN (n % 2 ^ k) := by
  rw [wb_and hn (by have := wb_lt2 hk; omega), Nat.and_two_pow_sub_one_eq_mod]
theorem wb_a1 {n : Nat} (hn : n < 2 ^ 64) : lN n &&& 1 = lN (n % 2) := wb_mask (k := 1) hn (by decide)
theorem wb_bit {n k : Nat} (hn : n < 2 ^ 64) (hk : k < 64) : ((lN n).toUInt64 >>> ((nI k).toInt64.toUInt64 &&& Int64.toUInt64 63)).toInt64 &&& 1 = lN (n / 2 ^ k % 2) := by
  rw [wb_shr hn hk, wb_a1 (Nat.lt_of_le_of_lt (Nat.div_le_self _ _) hn)]
theorem fa_and (a b : Nat) : nI a &&& nI b = nI (a &&& b) := by
  apply Int32.toBitVec_inj.1
  show BitVec.ofNat 32 a &&& BitVec.ofNat 32 b = BitVec.ofNat 32 (a &&& b)
  apply BitVec.eq_of_getLsbD_eq
  intro i hi
  simp [hi]
theorem fa_or (a b : Nat) : nI a ||| nI b = nI (a ||| b) := by
  apply Int32.toBitVec_inj.1
  show BitVec.ofNat 32 a ||| BitVec.ofNat 32 b = BitVec.ofNat 32 (a ||| b)
  apply BitVec.eq_of_getLsbD_eq
  intro i hi
  simp [hi]
/-- a remainder by a power of two, as a mask -/
theorem fa_mask (n k : Nat) : nI n &&& nI (2 ^ k - 1) = nI (n % 2 ^ k) := by rw [fa_and, Nat.and_two_pow_sub_one_eq_mod]
/-- 'or' of a high part and a low one that don't meet is their sum -/
theorem fb_rng (x : Int32) : -2147483648 ≤ x.toInt ∧ x.toInt < 2147483648 := by
  have h1 := Int32.le_toInt x
  have h2 := Int32.toInt_lt x
  omega
theorem fb_bmod {z : Int} (h1 : -2147483648 ≤ z) (h2 : z < 2147483648) : z.bmod (2 ^ 32) = z := by
  rw [Int.bmod_eq_of_le (by omega) (by omega)]
theorem fb_addI {x y : Int32} (h1 : -2147483648 ≤ x.toInt + y.toInt) (h2 : x.toInt + y.toInt < 2147483648) : (x + y).toInt = x.toInt + y.toInt := by
  rw [Int32.toInt_add, fb_bmod h1 h2]
theorem fb_subI {x y : Int32} (h1 : -2147483648 ≤ x.toInt - y.toInt) (h2 : x.toInt - y.toInt < 2147483648) : (x - y).toInt = x.toInt - y.toInt := by
  rw [Int32.toInt_sub, fb_bmod h1 h2]
theorem fb_mulI {x y : Int32} (h1 : -2147483648 ≤ x.toInt * y.toInt) (h2 : x.toInt * y.toInt < 2147483648) : (x * y).toInt = x.toInt * y.toInt := by
  rw [Int32.toInt_mul, fb_bmod h1 h2]
theorem fb_negI {x : Int32} (h : x.toInt ≠ -2147483648) : (-x).toInt = -x.toInt := by
  have := fb_rng x
  rw [Int32.toInt_neg, fb_bmod (by omega) (by omega)]
theorem fb_ofI {z : Int} (h1 : -2147483648 ≤ z) (h2 : z < 2147483648) : (Int32.ofInt z).toInt = z := by
  rw [Int32.toInt_ofInt, fb_bmod h1 h2]
theorem fb_asI (x : Int32) : Int32.ofInt x.toInt = x := Int32.ofInt_toInt x
theorem fa_lt (a b : Int32) : a < b ↔ a.toInt < b.toInt := Int32.lt_iff_toInt_lt
theorem fa_le (a b : Int32) : a ≤ b ↔ a.toInt ≤ b.toInt := Int32.le_iff_toInt_le
theorem fa_eq (a b : Int32) : a = b ↔ a.toInt = b.toInt := Int32.toInt_inj.symm
theorem fa_lt64 (a b : Int64) : a < b ↔ a.toInt < b.toInt := Int64.lt_iff_toInt_lt
theorem fa_le64 (a b : Int64) : a ≤ b ↔ a.toInt ≤ b.toInt := Int64.le_iff_toInt_le
theorem fa_eq64 (a b : Int64) : a = b ↔ a.toInt = b.toInt := Int64.toInt_inj.symm
/-- a comparison of two ints taken as longs -/
theorem fa_wide_lt (a b : Int32) : a.toInt64 < b.toInt64 ↔ a < b := by rw [fa_lt64, fa_lt, Int32.toInt_toInt64, Int32.toInt_toInt64]
theorem fa_wide_le (a b : Int32) : a.toInt64 ≤ b.toInt64 ↔ a ≤ b := by rw [fa_le64, fa_le, Int32.toInt_toInt64, Int32.toInt_toInt64]
theorem fa_wide_eq (a b : Int32) : a.toInt64 = b.toInt64 ↔ a = b := by rw [fa_eq64, fa_eq, Int32.toInt_toInt64, Int32.toInt_toInt64]
/-- one strict comparison gives all the others -/
theorem fa_of_lt {a b : Int32} (h : a < b) : a ≤ b ∧ ¬ b ≤ a ∧ ¬ b < a ∧ a ≠ b ∧ b ≠ a := by
  rw [fa_lt] at h
  refine ⟨?_, ?_, ?_, ?_, ?_⟩
  · rw [fa_le]; omega
  · rw [fa_le]; omega
  · rw [fa_lt]; omega
  · intro e; rw [fa_eq] at e; omega
  · intro e; rw [fa_eq] at e; omega
theorem fa_of_nlt {a b : Int32} (h : ¬ a < b) : b ≤ a := by
  rw [fa_lt] at h
  rw [fa_le]
  omega
theorem fa_of_nle {a b : Int32} (h : ¬ a ≤ b) : b < a := by
  rw [fa_le] at h
  rw [fa_lt]
  omega
theorem fa_le_ne {a b : Int32} (h : a ≤ b) (h2 : a ≠ b) : a < b := by
  rw [fa_le] at h
  rw [fa_lt]
  have h3 : a.toInt ≠ b.toInt := fun e => h2 ((fa_eq a b).mpr e)
  omega
theorem fb_first {p : Nat → Prop} [DecidablePred p] : ∀ {n : Nat}, (∃ i, i < n ∧ p i) → ∃ i, i < n ∧ p i ∧ ∀ j, j < i → ¬ p j
  | 0, h => by obtain ⟨i, hi, -⟩ := h; exact absurd hi (Nat.not_lt_zero i)
  | n + 1, h => by
    by_cases q : ∃ i, i < n ∧ p i
    · obtain ⟨i, h1, h2⟩ := fb_first q
      exact ⟨i, by omega, h2⟩
    · obtain ⟨i, h1, h2⟩ := h
      have e : i = n := by
        rcases Nat.lt_or_ge i n with r | r
        · exact absurd ⟨i, r, h2⟩ q
        · omega
      subst e
      exact ⟨i, by omega, h2, fun j hj hp => q ⟨j, hj, hp⟩⟩
theorem fb_first_one {p : Nat → Prop} {i j : Nat} (hi : p i) (hi2 : ∀ k, k < i → ¬ p k) (hj : p j) (hj2 : ∀ k, k < j → ¬ p k) : i = j := by
  rcases Nat.lt_trichotomy i j with q | q | q
  · exact absurd hi (hj2 i q)
  · exact q
  · exact absurd hj (hi2 j q)
end
section
/-! the lowest bit; how many bits -/
def loF (f : Nat → Bool) : Nat → Nat → Nat
  | 0, i => i
  | k + 1, i => if f i then i else loF f k (i + 1)
theorem loF_spec (f : Nat → Bool) : ∀ (k i j : Nat), i ≤ j → j < i + k → f j = true → (∀ q, i ≤ q → q < j → f q = false) → loF f k i = j
  | 0, i, j, h1, h2, _, _ => by omega
  | k + 1, i, j, h1, h2, h3, h4 => by
    unfold loF
    by_cases e : i = j
    · subst e
      rw [h3]
      rfl
    · rw [h4 i (Nat.le_refl _) (by omega)]
      exact loF_spec f k (i + 1) j (by omega) (by omega) h3 (fun q a b => h4 q (by omega) b)
def lo (x : Int64) : Nat := loF (bs x) 64 0
theorem lo_spec {x : Int64} (h : ¬ x = 0) : lo x < 64 ∧ bs x (lo x) = true ∧ ∀ j, j < lo x → bs x j = false := by
  obtain ⟨i, h1, h2⟩ := bs_ne0 h
  obtain ⟨j, j1, j2, j3⟩ := fb_first (p := fun i => bs x i = true) ⟨i, h1, h2⟩
  have hl : lo x = j := loF_spec (bs x) 64 0 j (Nat.zero_le _) (by omega) j2 (fun q _ hq => by
    have := j3 q hq
    cases hb : bs x q with
    | false => rfl
    | true => exact absurd hb this)
  rw [hl]
  refine ⟨j1, j2, fun q hq => ?_⟩
  have := j3 q hq
  cases hb : bs x q with
  | false => rfl
  | true => exact absurd hb this
theorem lo_of {x : Int64} {j : Nat} (h : j < 64) (h1 : bs x j = true) (h2 : ∀ q, q < j → bs x q = false) : lo x = j := loF_spec (bs x) 64 0 j (Nat.zero_le _) (by omega) h1 (fun q _ hq => h2 q hq)
theorem bs_nat (x : Int64) (i : Nat) : bs x i = x.toBitVec.toNat.testBit i := rfl
/-- one less: the bits below the lowest come, it goes -/
theorem nat_sub1 {n c : Nat} (h1 : n.testBit c = true) (h2 : ∀ j, j < c → n.testBit j = false) (i : Nat) : (n - 1).testBit i = if i < c then true else if i = c then false else n.testBit i := by
  have hm : n % 2 ^ (c + 1) = 2 ^ c := by
    apply Nat.eq_of_testBit_eq
    intro j
    rw [Nat.testBit_mod_two_pow, Nat.testBit_two_pow]
    by_cases e : c = j
    · subst e
      simp [h1]
    · by_cases e2 : j < c
      · simp [h2 j e2, e]
      · simp [show ¬ j < c + 1 by omega, e]
  have hd := Nat.div_add_mod n (2 ^ (c + 1))
  rw [hm] at hd
  have hp : 0 < 2 ^ c := Nat.two_pow_pos c
  have e1 : n - 1 = 2 ^ (c + 1) * (n / 2 ^ (c + 1)) + (2 ^ c - 1) := by omega
  have hlt : 2 ^ c - 1 < 2 ^ (c + 1) := by rw [Nat.pow_succ]; omega
  rw [e1, Nat.testBit_two_pow_mul_add _ hlt]
  have hlt2 : 2 ^ c < 2 ^ (c + 1) := by rw [Nat.pow_succ]; omega
  have e2 : n.testBit i = if i < c + 1 then (2 ^ c).testBit i else (n / 2 ^ (c + 1)).testBit (i - (c + 1)) := by
    conv => lhs; rw [← hd]
    rw [Nat.testBit_two_pow_mul_add _ hlt2]
  rw [e2, Nat.testBit_two_pow_sub_one, Nat.testBit_two_pow]
  by_cases a : i < c
  · simp [a, show i < c + 1 by omega]
  · by_cases b : i = c
    · subst b
      simp
    · simp [a, b, show ¬ i < c + 1 by omega]
theorem sub1_bs {x : Int64} (h : ¬ x = 0) {i : Nat} (hi : i < 64) : bs (x - 1) i = if i < lo x then true else if i = lo x then false else bs x i := by
  obtain ⟨l1, l2, l3⟩ := lo_spec h
  have hn : (x - 1).toBitVec.toNat = x.toBitVec.toNat - 1 := by
    rw [Int64.toBitVec_sub]
    have hpos : 1 ≤ x.toBitVec.toNat := by
      apply Nat.one_le_iff_ne_zero.mpr
      intro e
      apply h
      apply Int64.toBitVec_inj.mp
      apply BitVec.eq_of_toNat_eq
      rw [e]
      rfl
    exact BitVec.toNat_sub_of_le (by rw [BitVec.le_def]; exact hpos)
  rw [bs_nat, hn, nat_sub1 l2 l3]
  rfl
theorem neg_bs {x : Int64} (h : ¬ x = 0) {i : Nat} (hi : i < 64) : bs (-x) i = !bs (x - 1) i := by
  have hpos : 1 ≤ x.toBitVec.toNat := by
    apply Nat.one_le_iff_ne_zero.mpr
    intro e
    apply h
    apply Int64.toBitVec_inj.mp
    apply BitVec.eq_of_toNat_eq
    rw [e]
    rfl
  have hlt : x.toBitVec.toNat < 2 ^ 64 := x.toBitVec.isLt
  have hn : (x - 1).toBitVec.toNat = x.toBitVec.toNat - 1 := by
    rw [Int64.toBitVec_sub]
    exact BitVec.toNat_sub_of_le (by rw [BitVec.le_def]; exact hpos)
  have hm : (-x).toBitVec.toNat = 2 ^ 64 - (x.toBitVec.toNat - 1 + 1) := by
    rw [Int64.toBitVec_neg, BitVec.toNat_neg, Nat.mod_eq_of_lt (by omega)]
    omega
  rw [bs_nat, bs_nat, hm, hn, Nat.testBit_two_pow_sub_succ (by omega)]
  simp [hi]
theorem lowbit {x : Int64} (h : ¬ x = 0) : x &&& -x = (1 : Int64) <<< ((nI (lo x)).toInt64 &&& 63) := by
  obtain ⟨l1, l2, l3⟩ := lo_spec h
  apply bs_ext
  intro i hi
  rw [bs_and, neg_bs h hi, sub1_bs h hi, bs_bit l1 hi]
  by_cases a : i < lo x
  · simp [a, l3 i a]
    omega
  · by_cases b : i = lo x
    · subst b
      simp [l2]
    · simp [a, b]
theorem dropbit {x : Int64} (h : ¬ x = 0) {i : Nat} (hi : i < 64) : bs (x &&& (x - 1)) i = (bs x i && !decide (i = lo x)) := by
  obtain ⟨l1, l2, l3⟩ := lo_spec h
  rw [bs_and, sub1_bs h hi]
  by_cases a : i < lo x
  · simp [a, l3 i a]
  · by_cases b : i = lo x
    · subst b
      simp
    · simp [a, b]
def pop (x : Int64) : Nat := fb_ct (bs x) 64
theorem pop_0 : pop 0 = 0 := fb_ct_zero.mpr (fun k _ => bs_0 k)
theorem pop_le (x : Int64) : pop x ≤ 64 := fb_ct_le _ _
theorem pop_cut {x : Int64} {n : Nat} (hn : n ≤ 64) (h : ∀ i, n ≤ i → i < 64 → bs x i = false) : pop x = fb_ct (bs x) n := by
  unfold pop
  have e := fb_ct_split (bs x) n (64 - n)
  rw [show n + (64 - n) = 64 by omega] at e
  have e2 : fb_ct (fun k => bs x (n + k)) (64 - n) = 0 := fb_ct_zero.mpr (fun k hk => h (n + k) (by omega) (by omega))
  omega
theorem pop_drop {x : Int64} (h : ¬ x = 0) : pop (x &&& (x - 1)) + 1 = pop x := by
  obtain ⟨l1, l2, l3⟩ := lo_spec h
  unfold pop
  have h1 := fb_ct_upd (bs x) false (i := lo x) l1
  rw [l2] at h1
  have h2 : fb_ct (bs (x &&& (x - 1))) 64 = fb_ct (fun k => if k = lo x then false else bs x k) 64 := by
    apply fb_ct_cong
    intro k hk
    rw [dropbit h hk]
    by_cases e : k = lo x <;> simp [e]
  rw [h2]
  simpa using h1
theorem pop_pos {x : Int64} (h : ¬ x = 0) : 0 < pop x := by
  have := pop_drop h
  omega
theorem pop_zero {x : Int64} (h : pop x = 0) : x = 0 := by
  apply Classical.byContradiction
  intro h2
  have := pop_pos h2
  omega
theorem pop_bit {k : Nat} (hk : k < 64) : pop ((1 : Int64) <<< ((nI k).toInt64 &&& 63)) = 1 := by
  unfold pop
  have h1 := fb_ct_upd (fun _ => false) true (i := k) hk
  have h2 : fb_ct (fun _ => false) 64 = 0 := fb_ct_zero.mpr (fun _ _ => rfl)
  rw [h2] at h1
  have h3 : fb_ct (bs ((1 : Int64) <<< ((nI k).toInt64 &&& 63))) 64 = fb_ct (fun j => if j = k then true else (fun _ => false) j) 64 := by
    apply fb_ct_cong
    intro j hj
    rw [bs_bit hk hj]
    by_cases e : j = k <;> simp [e]
  rw [h3]
  simpa using h1
/-- the lowest bit's number, as the class tells it -/
theorem low_num {x : Int64} (h : ¬ x = 0) : pop ((x &&& -x) - 1) = lo x := by
  obtain ⟨l1, l2, l3⟩ := lo_spec h
  have hb := lowbit h
  have hy : ¬ (x &&& -x) = 0 := by
    intro e
    have := bs_bit l1 l1
    rw [← hb, e, bs_0] at this
    simp at this
  have hl : lo (x &&& -x) = lo x := lo_of l1 (by rw [hb, bs_bit l1 l1]; simp) (fun q hq => by rw [hb, bs_bit l1 (by omega)]; simp; omega)
  have hall : ∀ i, i < 64 → bs ((x &&& -x) - 1) i = decide (i < lo x) := by
    intro i hi
    rw [sub1_bs hy hi, hl]
    by_cases a : i < lo x
    · simp [a]
    · by_cases b : i = lo x
      · subst b
        simp
      · rw [if_neg a, if_neg b, hb, bs_bit l1 hi]
        simp [a, b]
  rw [pop_cut (n := lo x) (by omega) (fun i a b => by rw [hall i b]; simp; omega)]
  exact fb_ct_all.mpr (fun k hk => by rw [hall k (by omega)]; simp [hk])
end
section
/-! Long.bitCount counts the bits -/
theorem and_blk {w a b c d : Nat} (ha : a < 2 ^ w) (hc : c < 2 ^ w) : (a + 2 ^ w * b) &&& (c + 2 ^ w * d) = (a &&& c) + 2 ^ w * (b &&& d) := by
  apply Nat.eq_of_testBit_eq
  intro i
  have hac : a &&& c < 2 ^ w := Nat.and_lt_two_pow _ hc
  rw [Nat.testBit_and, Nat.add_comm a, Nat.add_comm c, Nat.add_comm (a &&& c), Nat.testBit_two_pow_mul_add _ ha, Nat.testBit_two_pow_mul_add _ hc, Nat.testBit_two_pow_mul_add _ hac]
  split
  · rw [Nat.testBit_and]
  · rw [Nat.testBit_and]
def mk8 (m : Nat) : Nat → Nat
  | 0 => 0
  | k + 1 => m + 256 * mk8 m k
def w1 (k n : Nat) : Nat := n - (n / 2 &&& mk8 85 k)
def w2 (k n : Nat) : Nat := (n &&& mk8 51 k) + (n / 4 &&& mk8 51 k)
def w3 (k n : Nat) : Nat := (n + n / 16) &&& mk8 15 k
def g1 (b : Nat) : Nat := b - (b / 2 &&& 85)
def g2 (b : Nat) : Nat := (b &&& 51) + (b / 4 &&& 51)
theorem t1 : ∀ b, b < 256 → ∀ t, t < 2 → (b / 2 + 128 * t) &&& 85 = b / 2 &&& 85 := by decide +kernel
theorem t2 : ∀ b, b < 256 → ∀ t, t < 4 → (b / 4 + 64 * t) &&& 51 = b / 4 &&& 51 := by decide +kernel
theorem t3 : ∀ b, b < 69 → ∀ t, t < 5 → (b + b / 16 + 16 * t) &&& 15 = (b + b / 16) &&& 15 := by decide +kernel
theorem t4 : ∀ b, b < 256 → g2 (g1 b) < 69 ∧ g2 (g1 b) % 16 < 5 ∧ (g2 (g1 b) + g2 (g1 b) / 16) &&& 15 = fb_ct b.testBit 8 := by decide +kernel
theorem t5 : ∀ b, b < 256 → (b / 2 &&& 85) ≤ b := by decide +kernel
theorem w1_blk {k b n : Nat} (hb : b < 256) : w1 (k + 1) (b + 256 * n) = g1 b + 256 * w1 k n := by
  unfold w1 g1
  rw [show mk8 85 (k + 1) = 85 + 256 * mk8 85 k from rfl]
  have e1 : (b + 256 * n) / 2 = (b / 2 + 128 * (n % 2)) + 2 ^ 8 * (n / 2) := by omega
  rw [e1, show (256 : Nat) = 2 ^ 8 from rfl, and_blk (by omega) (by omega), t1 b hb _ (by omega)]
  have e2 := t5 b hb
  have e3 : (n / 2 &&& mk8 85 k) ≤ n := Nat.le_trans (Nat.and_le_left) (by omega)
  omega
theorem w2_blk {k c n : Nat} (hc : c < 256) : w2 (k + 1) (c + 256 * n) = g2 c + 256 * w2 k n := by
  unfold w2 g2
  rw [show mk8 51 (k + 1) = 51 + 256 * mk8 51 k from rfl]
  have e1 : (c + 256 * n) / 4 = (c / 4 + 64 * (n % 4)) + 2 ^ 8 * (n / 4) := by omega
  rw [e1, show (256 : Nat) = 2 ^ 8 from rfl, and_blk (by omega) (by omega), and_blk (by omega) (by omega), t2 c hc _ (by omega)]
  omega
theorem w3_blk {k e f : Nat} (he : e < 69) (hf : f % 16 < 5) : w3 (k + 1) (e + 256 * f) = ((e + e / 16) &&& 15) + 256 * w3 k f := by
  unfold w3
  rw [show mk8 15 (k + 1) = 15 + 256 * mk8 15 k from rfl]
  have e1 : e + 256 * f + (e + 256 * f) / 16 = (e + e / 16 + 16 * (f % 16)) + 2 ^ 8 * (f + f / 16) := by omega
  rw [e1, show (256 : Nat) = 2 ^ 8 from rfl, and_blk (by omega) (by omega), t3 e he _ hf]
def wT3 (k n : Nat) : Nat := w3 k (w2 k (w1 k n))
theorem g1_lt {b : Nat} (h : b < 256) : g1 b < 256 := Nat.lt_of_le_of_lt (Nat.sub_le _ _) h
theorem w2_nib : ∀ k n, w2 k (w1 k n) % 16 < 5
  | 0, n => by
    show ((w1 0 n &&& 0) + (w1 0 n / 4 &&& 0)) % 16 < 5
    rw [Nat.and_zero, Nat.and_zero]
    decide
  | k + 1, n => by
    have e : n = n % 256 + 256 * (n / 256) := by omega
    have hb : n % 256 < 256 := by omega
    rw [e, w1_blk hb, w2_blk (g1_lt hb)]
    have := (t4 _ hb).2.1
    omega
theorem wT_blk {k b n : Nat} (hb : b < 256) : wT3 (k + 1) (b + 256 * n) = fb_ct b.testBit 8 + 256 * wT3 k n := by
  unfold wT3
  rw [w1_blk hb, w2_blk (g1_lt hb), w3_blk (t4 b hb).1 (w2_nib k n), (t4 b hb).2.2]
theorem ct_blk {b n m : Nat} (hb : b < 256) : fb_ct (b + 256 * n).testBit (8 + m) = fb_ct b.testBit 8 + fb_ct n.testBit m := by
  rw [fb_ct_split]
  congr 1
  · apply fb_ct_cong
    intro k hk
    rw [Nat.add_comm, show (256 : Nat) = 2 ^ 8 from rfl, Nat.testBit_two_pow_mul_add _ hb, if_pos hk]
  · apply fb_ct_cong
    intro k hk
    rw [Nat.add_comm b, show (256 : Nat) = 2 ^ 8 from rfl, Nat.testBit_two_pow_mul_add _ hb, if_neg (by omega)]
    congr 1
    omega
/-- by bytes: what stands behind the third stage, and the count -/
theorem bytes8 (n : Nat) (hn : n < 2 ^ 64) : ∃ p0 p1 p2 p3 p4 p5 p6 p7 : Nat, p0 ≤ 8 ∧ p1 ≤ 8 ∧ p2 ≤ 8 ∧ p3 ≤ 8 ∧ p4 ≤ 8 ∧ p5 ≤ 8 ∧ p6 ≤ 8 ∧ p7 ≤ 8 ∧
    wT3 8 n = p0 + 256 * (p1 + 256 * (p2 + 256 * (p3 + 256 * (p4 + 256 * (p5 + 256 * (p6 + 256 * p7)))))) ∧ fb_ct n.testBit 64 = p0 + (p1 + (p2 + (p3 + (p4 + (p5 + (p6 + p7)))))) := by
  have step : ∀ k x : Nat, ∃ p y : Nat, y = x / 256 ∧ p ≤ 8 ∧ wT3 (k + 1) x = p + 256 * wT3 k y ∧ ∀ m, fb_ct x.testBit (8 + m) = p + fb_ct y.testBit m := by
    intro k x
    have e : x = x % 256 + 256 * (x / 256) := by omega
    have hb : x % 256 < 256 := by omega
    refine ⟨fb_ct (x % 256).testBit 8, x / 256, rfl, fb_ct_le _ _, ?_, fun m => ?_⟩
    · conv => lhs; rw [e]
      exact wT_blk hb
    · conv => lhs; rw [e]
      exact ct_blk hb
  obtain ⟨p0, y0, z0, a0, b0, c0⟩ := step 7 n
  obtain ⟨p1, y1, z1, a1, b1, c1⟩ := step 6 y0
  obtain ⟨p2, y2, z2, a2, b2, c2⟩ := step 5 y1
  obtain ⟨p3, y3, z3, a3, b3, c3⟩ := step 4 y2
  obtain ⟨p4, y4, z4, a4, b4, c4⟩ := step 3 y3
  obtain ⟨p5, y5, z5, a5, b5, c5⟩ := step 2 y4
  obtain ⟨p6, y6, z6, a6, b6, c6⟩ := step 1 y5
  obtain ⟨p7, y7, z7, a7, b7, c7⟩ := step 0 y6
  have hz : wT3 0 y7 = 0 := by show (_ &&& 0) = 0; rw [Nat.and_zero]
  refine ⟨p0, p1, p2, p3, p4, p5, p6, p7, a0, a1, a2, a3, a4, a5, a6, a7, ?_, ?_⟩
  · rw [b0, b1, b2, b3, b4, b5, b6, b7, hz, Nat.mul_zero, Nat.add_zero]
  · rw [show (64 : Nat) = 8 + 56 from rfl, c0, show (56 : Nat) = 8 + 48 from rfl, c1, show (48 : Nat) = 8 + 40 from rfl, c2, show (40 : Nat) = 8 + 32 from rfl, c3, show (32 : Nat) = 8 + 24 from rfl, c4, show (24 : Nat) = 8 + 16 from rfl, c5, show (16 : Nat) = 8 + 8 from rfl, c6, show (8 : Nat) = 8 + 0 from rfl, c7]
    rfl
theorem dv1 {p q : Nat} (h : p ≤ 8) : (p + 256 * q) / 256 = q := by omega
theorem dv2 {a b c : Nat} (ha : a ≤ 16) (hb : b ≤ 16) : (a + 256 * (b + 256 * c)) / 65536 = c := by omega
theorem dv3 {a b c d r : Nat} (ha : a ≤ 32) (hb : b ≤ 32) (hc : c ≤ 32) (hd : d ≤ 32) : (a + 256 * (b + 256 * (c + 256 * (d + 256 * r)))) / 4294967296 = r := by omega
theorem dv4 {a b x y : Nat} (ha : a ≤ 32) (hb : b ≤ 32) : (a + 256 * x + (b + 256 * y)) % 128 = a + b := by omega
theorem ds1 {p0 p1 p2 q1 q2 q3 : Nat} (h1 : q1 = p1 + 256 * q2) (h2 : q2 = p2 + 256 * q3) : p0 + 256 * q1 + q1 = (p0 + p1) + 256 * ((p1 + p2) + 256 * (q2 + q3)) := by omega
theorem ds2 {a b q2 q3 c : Nat} (h : q2 + q3 = c) : (a + 256 * (b + 256 * c)) + c = (a + 256 * (b + 256 * (q2 + q3))) + (q2 + q3) := by rw [h]
theorem swar (n : Nat) (hn : n < 2 ^ 64) : (let y := wT3 8 n; let z1 := y + y / 256; let z2 := z1 + z1 / 65536; (z2 + z2 / 4294967296) % 128) = fb_ct n.testBit 64 ∧ wT3 8 n < 2 ^ 60 := by
  obtain ⟨p0, p1, p2, p3, p4, p5, p6, p7, a0, a1, a2, a3, a4, a5, a6, a7, h1, h2⟩ := bytes8 n hn
  obtain ⟨q7, e7⟩ : ∃ q, q = p7 + 256 * 0 := ⟨_, rfl⟩
  obtain ⟨q6, e6⟩ : ∃ q, q = p6 + 256 * q7 := ⟨_, rfl⟩
  obtain ⟨q5, e5⟩ : ∃ q, q = p5 + 256 * q6 := ⟨_, rfl⟩
  obtain ⟨q4, e4⟩ : ∃ q, q = p4 + 256 * q5 := ⟨_, rfl⟩
  obtain ⟨q3, e3⟩ : ∃ q, q = p3 + 256 * q4 := ⟨_, rfl⟩
  obtain ⟨q2, e2⟩ : ∃ q, q = p2 + 256 * q3 := ⟨_, rfl⟩
  obtain ⟨q1, e1⟩ : ∃ q, q = p1 + 256 * q2 := ⟨_, rfl⟩
  have hy : wT3 8 n = p0 + 256 * q1 := by rw [h1, e1, e2, e3, e4, e5, e6, e7, Nat.mul_zero, Nat.add_zero]
  have b7 : q7 ≤ 8 := by omega
  have b6 : q6 ≤ 257 * 8 := by clear hy h1 h2 e1 e2 e3 e4 e5; omega
  have b5 : q5 ≤ 8 + 256 * (257 * 8) := by clear hy h1 h2 e1 e2 e3 e4 e6; omega
  have b4 : q4 ≤ 8 + 256 * (8 + 256 * (257 * 8)) := by clear hy h1 h2 e1 e2 e3 e5 e6; omega
  have b3 : q3 ≤ 8 + 256 * (8 + 256 * (8 + 256 * (257 * 8))) := by clear hy h1 h2 e1 e2 e4 e5 e6; omega
  have b2 : q2 ≤ 8 + 256 * (8 + 256 * (8 + 256 * (8 + 256 * (257 * 8)))) := by clear hy h1 h2 e1 e3 e4 e5 e6; omega
  have b1 : q1 ≤ 8 + 256 * (8 + 256 * (8 + 256 * (8 + 256 * (8 + 256 * (257 * 8))))) := by clear hy h1 h2 e2 e3 e4 e5 e6; omega
  rw [hy, h2]
  refine ⟨?_, by clear hy h1 h2 e1 e2 e3 e4 e5 e6; omega⟩
  clear h1 h2 hy b1 b2 b3 b4 b5 b6 b7
  dsimp only
  rw [dv1 a0, ds1 e1 e2, dv2 (by omega) (by omega)]
  have f : (p0 + p1) + 256 * ((p1 + p2) + 256 * (q2 + q3)) + (q2 + q3) = (p0 + p1 + p2 + p3) + 256 * ((p1 + p2 + p3 + p4) + 256 * ((p2 + p3 + p4 + p5) + 256 * ((p3 + p4 + p5 + p6) + 256 * (q4 + q5 + q6 + q7)))) := by
    clear e1 a0 a1 a2 a3 a4 a5 a6 a7
    omega
  rw [f, dv3 (by omega) (by omega) (by omega) (by omega)]
  have g : q4 + q5 + q6 + q7 = (p4 + p5 + p6 + p7) + 256 * (q5 + q6 + q7) := by
    clear e1 e2 e3 f
    omega
  rw [g, dv4 (by omega) (by omega)]
  omega
end
section
/-! ends of methods; the library's counters -/
section EVR
variable {sc : Scr} {d M pc nx a b : Nat} {v : Value} {L : Lcs} {h h' : AHp}
theorem ev_ri {x y : Int32} (hc : cAt M pc = some (.ireturn, nx, a, 0, v)) (e : x = y) (eh : h = h') : Ek sc d M pc L [.int x] h (some (.int y)) h' 0 0 := by
  subst e; subst eh
  exact ev_rt hc rfl rfl
theorem ev_rz {x y : Int32} (hc : cAt M pc = some (.ireturn, nx, a, b, v)) (hx : x = 0 ∨ x = 1) (e : x = y) (eh : h = h') : Ek sc d M pc L [.int x] h (some (.int y)) h' 0 0 := by
  subst e; subst eh
  refine ev_rt hc rfl ?_
  rcases hx with rfl | rfl
  · show (bif Nat.beq b 0 || (decide ((0 : Int32) = 0) || decide ((0 : Int32) = 1)) then some (some (Value.int 0)) else none) = _
    simp
  · show (bif Nat.beq b 0 || (decide ((1 : Int32) = 0) || decide ((1 : Int32) = 1)) then some (some (Value.int 1)) else none) = _
    simp
theorem ev_rl {x y : Int64} (hc : cAt M pc = some (.lreturn, nx, a, b, v)) (e : x = y) (eh : h = h') : Ek sc d M pc L [.long x] h (some (.long y)) h' 0 0 := by
  subst e; subst eh
  exact ev_rt hc rfl rfl
theorem ev_rv (hc : cAt M pc = some (.return_, nx, a, b, v)) (eh : h = h') : Ek sc d M pc L [] h none h' 0 0 := by
  subst eh
  exact ev_rt hc rfl rfl
end EVR
theorem uN_eq (x : Int64) : x = lN x.toBitVec.toNat := wb_inj (by rw [wb_tb]; simp)
def ush (x : Int64) (k : Int32) : Int64 := (x.toUInt64 >>> (k.toInt64.toUInt64 &&& Int64.toUInt64 63)).toInt64
theorem ush_lN {n k : Nat} (hn : n < 2 ^ 64) (hk : k < 64) : ush (lN n) (nI k) = lN (n / 2 ^ k) := wb_shr hn hk
def bc1 (x : Int64) : Int64 := x - (ush x 1 &&& 6148914691236517205)
def bc2 (x : Int64) : Int64 := (x &&& 3689348814741910323) + (ush x 2 &&& 3689348814741910323)
def bc3 (x : Int64) : Int64 := (x + ush x 4) &&& 1085102592571150095
def bc4 (x : Int64) (k : Int32) : Int64 := x + ush x k
def bcF (x : Int64) : Int32 := (bc4 (bc4 (bc4 (bc3 (bc2 (bc1 x))) 8) 16) 32).toInt32 &&& 127
theorem bc1_lN {n : Nat} (hn : n < 2 ^ 64) : bc1 (lN n) = lN (w1 8 n) ∧ w1 8 n < 2 ^ 64 := by
  refine ⟨?_, Nat.lt_of_le_of_lt (Nat.sub_le _ _) hn⟩
  unfold bc1
  rw [show (1 : Int32) = nI 1 from rfl, ush_lN hn (by decide), show (6148914691236517205 : Int64) = lN 6148914691236517205 from by decide, wb_and (by omega) (by decide), lN_sub (Nat.le_trans Nat.and_le_left (by omega))]
  rfl
theorem bc2_lN {n : Nat} (hn : n < 2 ^ 64) : bc2 (lN n) = lN (w2 8 n) ∧ w2 8 n < 2 ^ 63 := by
  constructor
  · unfold bc2
    rw [show (2 : Int32) = nI 2 from rfl, ush_lN hn (by decide), show (3689348814741910323 : Int64) = lN 3689348814741910323 from by decide, wb_and (by omega) (by decide), wb_and (by omega) (by decide), lN_add]
    rfl
  · unfold w2
    have h1 : (n &&& mk8 51 8) ≤ mk8 51 8 := Nat.and_le_right
    have h2 : (n / 4 &&& mk8 51 8) ≤ mk8 51 8 := Nat.and_le_right
    have h3 : mk8 51 8 = 3689348814741910323 := by decide
    omega
theorem bc3_lN {n : Nat} (hn : n < 2 ^ 63) : bc3 (lN n) = lN (w3 8 n) := by
  unfold bc3
  rw [show (4 : Int32) = nI 4 from rfl, ush_lN (by omega) (by decide), lN_add, show (1085102592571150095 : Int64) = lN 1085102592571150095 from by decide, wb_and (by omega) (by decide)]
  rfl
theorem bc4_lN {n k : Nat} (hn : n < 2 ^ 64) (hk : k < 64) : bc4 (lN n) (nI k) = lN (n + n / 2 ^ k) := by
  unfold bc4
  rw [ush_lN hn hk, lN_add]
theorem bcF_eq (x : Int64) : bcF x = nI (pop x) := by
  have hn : x.toBitVec.toNat < 2 ^ 64 := x.toBitVec.isLt
  have hp : pop x = fb_ct x.toBitVec.toNat.testBit 64 := rfl
  rw [hp]
  have hx := uN_eq x
  generalize x.toBitVec.toNat = n at hn hx
  subst hx
  obtain ⟨s1, s2⟩ := swar n hn
  unfold bcF
  rw [(bc1_lN hn).1, (bc2_lN (bc1_lN hn).2).1, bc3_lN (bc2_lN (bc1_lN hn).2).2]
  have hy : w3 8 (w2 8 (w1 8 n)) = wT3 8 n := rfl
  rw [hy]
  generalize wT3 8 n = y at s1 s2
  dsimp only at s1
  rw [show (8 : Int32) = nI 8 from rfl, bc4_lN (by omega) (by decide), show (16 : Int32) = nI 16 from rfl, bc4_lN (by omega) (by decide), show (32 : Int32) = nI 32 from rfl, bc4_lN (by omega) (by decide), lN_i, show (127 : Int32) = nI (2 ^ 7 - 1) from rfl, fa_mask, ← s1]
theorem e_bitCountL (sc : Scr) (d : Nat) (h : AHp) (x : Int64) : Ev sc d m_JL_bitCount 0 (iniL 2 [.long x]) [] h (some (.int (nI (pop x)))) h := by
  refine ev_gos 99 rfl ?_
  exact ev_ri rfl (bcF_eq x) rfl
end
section
/-! the cells of both objects as one list, by role: s the ints, l the longs, A the arrays of ints by place, B the arrays of longs; w tells which of two cells the land is -/
abbrev oI (ci : Nat) (fs : List Value) : ACell := .inr (ci, fs)
abbrev aI (n : Nat) (f : Nat → Int32) : ACell := .inl (0, n, .inl f)
abbrev aJ (n : Nat) (f : Nat → Int64) : ACell := .inl (1, n, .inr (.inl f))
abbrev aZ (n : Nat) (f : Nat → Int32) : ACell := .inl (2, n, .inl f)
def wL (w : Bool) : Nat := bif w then 6 else 3
def wK (w : Bool) : Nat := bif w then 7 else 4
def wS (w : Bool) : Nat := bif w then 8 else 5
def upA {α : Type} (A : Nat → α) (p : Nat) (f : α) : Nat → α := fun q => bif Nat.beq q p then f else A q
abbrev St : Type := (Nat → Int32) × (Nat → Int64) × (Nat → Nat → Int32) × (Nat → Nat → Int64)
def landC (s0 : Nat) (l0 : Nat) (pk ps : Nat) (s : Nat → Int32) (l : Nat → Int64) : ACell := oI 1 [.int (s s0), .int (s (s0 + 1)), .int (s (s0 + 2)), .int (s (s0 + 3)), .long (l l0), .long (l (l0 + 1)), .long (l (l0 + 2)), .long (l (l0 + 3)), .ref pk, .ref ps]
def HH (w : Bool) (s : Nat → Int32) (l : Nat → Int64) (A : Nat → Nat → Int32) (B : Nat → Nat → Int64) : AHp := [
  oI 5 [.ref 1, .ref (wL w), .ref (wL (!w)), .ref 9, .ref 12, .ref 15, .int (s 6), .int (s 7), .ref 17, .ref 19, .ref 20, .ref 21, .ref 25, .int (s 8)],
  oI 3 [.ref 2, .int (s 0), .int (s 1), .int (s 2), .int (s 3), .int (s 4), .int (s 5)],
  aI 240 (A 2),
  bif w then landC 19 4 (wK (!w)) (wS (!w)) s l else landC 15 0 (wK w) (wS w) s l,
  bif w then aI 7 (A 7) else aI 7 (A 4),
  bif w then aJ 245 (B 8) else aJ 245 (B 5),
  bif w then landC 15 0 (wK w) (wS w) s l else landC 19 4 (wK (!w)) (wS (!w)) s l,
  bif w then aI 7 (A 4) else aI 7 (A 7),
  bif w then aJ 245 (B 5) else aJ 245 (B 8),
  oI 0 [.ref 10, .ref 11, .int (s 9), .int (s 10)],
  aI 49 (A 10),
  aI 7 (A 11),
  oI 0 [.ref 13, .ref 14, .int (s 11), .int (s 12)],
  aI 49 (A 13),
  aI 7 (A 14),
  oI 4 [.int 30, .ref 16],
  aI 1740 (A 16),
  oI 4 [.int 2, .ref 18],
  aI 116 (A 18),
  aI 2 (A 19),
  aZ 2 (A 20),
  oI 2 [.ref 22, .ref 23, .ref 24, .int (s 13), .int (s 14)],
  aI 6 (A 22),
  aZ 6 (A 23),
  aI 20 (A 24),
  aI 49 (A 25),
  oI 6 [.ref 27, .ref 28, .ref 29, .ref 30, .ref 31, .ref 32, .int (s 23), .ref 33, .ref 34, .long (l 8), .ref 35, .int (s 24), .int (s 25), .ref 36, .int (s 26), .ref 37, .int (s 27), .int (s 28), .int (s 29), .int (s 30), .int (s 31), .int (s 32), .int (s 33), .ref 38],
  aI 21 (A 27),
  aI 21 (A 28),
  aI 58 (A 29),
  aI 58 (A 30),
  aI 49 (A 31),
  aI 1740 (A 32),
  aI 118 (A 33),
  aZ 2 (A 34),
  aI 240 (A 35),
  aI 12 (A 36),
  aI 20 (A 37),
  aI 7 (A 38)]
section HHS
variable {w : Bool} {s : Nat → Int32} {l : Nat → Int64} {A : Nat → Nat → Int32} {B : Nat → Nat → Int64}
theorem HH_land : (HH w s l A B)[wL w]? = some (landC 15 0 (wK w) (wS w) s l) := by cases w <;> rfl
theorem HH_draft : (HH w s l A B)[wL (!w)]? = some (landC 19 4 (wK (!w)) (wS (!w)) s l) := by cases w <;> rfl
theorem HH_kinds : (HH w s l A B)[wK w]? = some (aI 7 (A 4)) := by cases w <;> rfl
theorem HH_dkinds : (HH w s l A B)[wK (!w)]? = some (aI 7 (A 7)) := by cases w <;> rfl
theorem HH_shapes : (HH w s l A B)[wS w]? = some (aJ 245 (B 5)) := by cases w <;> rfl
theorem HH_dshapes : (HH w s l A B)[wS (!w)]? = some (aJ 245 (B 8)) := by cases w <;> rfl
theorem HA_2 (f : Nat → Int32) : (HH w s l A B).set 2 (aI 240 f) = HH w s l (upA A 2 f) B := rfl
theorem HA_10 (f : Nat → Int32) : (HH w s l A B).set 10 (aI 49 f) = HH w s l (upA A 10 f) B := rfl
theorem HA_11 (f : Nat → Int32) : (HH w s l A B).set 11 (aI 7 f) = HH w s l (upA A 11 f) B := rfl
theorem HA_13 (f : Nat → Int32) : (HH w s l A B).set 13 (aI 49 f) = HH w s l (upA A 13 f) B := rfl
theorem HA_14 (f : Nat → Int32) : (HH w s l A B).set 14 (aI 7 f) = HH w s l (upA A 14 f) B := rfl
theorem HA_16 (f : Nat → Int32) : (HH w s l A B).set 16 (aI 1740 f) = HH w s l (upA A 16 f) B := rfl
theorem HA_18 (f : Nat → Int32) : (HH w s l A B).set 18 (aI 116 f) = HH w s l (upA A 18 f) B := rfl
theorem HA_19 (f : Nat → Int32) : (HH w s l A B).set 19 (aI 2 f) = HH w s l (upA A 19 f) B := rfl
theorem HA_22 (f : Nat → Int32) : (HH w s l A B).set 22 (aI 6 f) = HH w s l (upA A 22 f) B := rfl
theorem HA_24 (f : Nat → Int32) : (HH w s l A B).set 24 (aI 20 f) = HH w s l (upA A 24 f) B := rfl
theorem HA_25 (f : Nat → Int32) : (HH w s l A B).set 25 (aI 49 f) = HH w s l (upA A 25 f) B := rfl
theorem HA_27 (f : Nat → Int32) : (HH w s l A B).set 27 (aI 21 f) = HH w s l (upA A 27 f) B := rfl
theorem HA_28 (f : Nat → Int32) : (HH w s l A B).set 28 (aI 21 f) = HH w s l (upA A 28 f) B := rfl
theorem HA_29 (f : Nat → Int32) : (HH w s l A B).set 29 (aI 58 f) = HH w s l (upA A 29 f) B := rfl
theorem HA_30 (f : Nat → Int32) : (HH w s l A B).set 30 (aI 58 f) = HH w s l (upA A 30 f) B := rfl
theorem HA_31 (f : Nat → Int32) : (HH w s l A B).set 31 (aI 49 f) = HH w s l (upA A 31 f) B := rfl
theorem HA_32 (f : Nat → Int32) : (HH w s l A B).set 32 (aI 1740 f) = HH w s l (upA A 32 f) B := rfl
theorem HA_33 (f : Nat → Int32) : (HH w s l A B).set 33 (aI 118 f) = HH w s l (upA A 33 f) B := rfl
theorem HA_35 (f : Nat → Int32) : (HH w s l A B).set 35 (aI 240 f) = HH w s l (upA A 35 f) B := rfl
theorem HA_36 (f : Nat → Int32) : (HH w s l A B).set 36 (aI 12 f) = HH w s l (upA A 36 f) B := rfl
theorem HA_37 (f : Nat → Int32) : (HH w s l A B).set 37 (aI 20 f) = HH w s l (upA A 37 f) B := rfl
theorem HA_38 (f : Nat → Int32) : (HH w s l A B).set 38 (aI 7 f) = HH w s l (upA A 38 f) B := rfl
theorem HA_20 (f : Nat → Int32) : (HH w s l A B).set 20 (aZ 2 f) = HH w s l (upA A 20 f) B := rfl
theorem HA_23 (f : Nat → Int32) : (HH w s l A B).set 23 (aZ 6 f) = HH w s l (upA A 23 f) B := rfl
theorem HA_34 (f : Nat → Int32) : (HH w s l A B).set 34 (aZ 2 f) = HH w s l (upA A 34 f) B := rfl
theorem HA_dk (f : Nat → Int32) : (HH w s l A B).set (wK (!w)) (aI 7 f) = HH w s l (upA A 7 f) B := by cases w <;> rfl
theorem HA_ds (f : Nat → Int64) : (HH w s l A B).set (wS (!w)) (aJ 245 f) = HH w s l A (upA B 8 f) := by cases w <;> rfl
end HHS
theorem upA_id {α : Type} (A : Nat → α) (p : Nat) : upA A p (A p) = A := by
  funext q
  unfold upA
  cases hq : Nat.beq q p with
  | false => rfl
  | true => rw [Nat.eq_of_beq_eq_true hq]; rfl
theorem upA_up {α : Type} (A : Nat → α) (p : Nat) (f g : α) : upA (upA A p f) p g = upA A p g := by
  funext q
  unfold upA
  cases hq : Nat.beq q p <;> rfl
theorem upA_at {α : Type} (A : Nat → α) (p : Nat) (f : α) : upA A p f p = f := by
  unfold upA
  rw [Nat.beq_refl]
  rfl
section HHR
variable {sc : Scr} {d M pc nx i : Nat} {v : Value} {L : Lcs} {S : Stk} {h' : AHp} {r : Option Value} {c n : Nat}
variable {w : Bool} {s : Nat → Int32} {l : Nat → Int64} {A : Nat → Nat → Int32} {B : Nat → Nat → Int64}
theorem pf_C_6 {x : Int32} (hc : cAt M pc = some (.putfield i, nx, 5, 6, v)) (k : Ek sc d M nx L S (HH w (upA s 6 x) l A B) r h' c n) : Ek sc d M pc L (.int x :: .ref 0 :: S) (HH w s l A B) r h' c n := ev_pf hc rfl rfl k
theorem pf_C_7 {x : Int32} (hc : cAt M pc = some (.putfield i, nx, 5, 7, v)) (k : Ek sc d M nx L S (HH w (upA s 7 x) l A B) r h' c n) : Ek sc d M pc L (.int x :: .ref 0 :: S) (HH w s l A B) r h' c n := ev_pf hc rfl rfl k
theorem pf_C_8 {x : Int32} (hc : cAt M pc = some (.putfield i, nx, 5, 13, v)) (k : Ek sc d M nx L S (HH w (upA s 8 x) l A B) r h' c n) : Ek sc d M pc L (.int x :: .ref 0 :: S) (HH w s l A B) r h' c n := ev_pf hc rfl rfl k
theorem pf_R_0 {x : Int32} (hc : cAt M pc = some (.putfield i, nx, 3, 1, v)) (k : Ek sc d M nx L S (HH w (upA s 0 x) l A B) r h' c n) : Ek sc d M pc L (.int x :: .ref 1 :: S) (HH w s l A B) r h' c n := ev_pf hc rfl rfl k
theorem pf_R_1 {x : Int32} (hc : cAt M pc = some (.putfield i, nx, 3, 2, v)) (k : Ek sc d M nx L S (HH w (upA s 1 x) l A B) r h' c n) : Ek sc d M pc L (.int x :: .ref 1 :: S) (HH w s l A B) r h' c n := ev_pf hc rfl rfl k
theorem pf_R_2 {x : Int32} (hc : cAt M pc = some (.putfield i, nx, 3, 3, v)) (k : Ek sc d M nx L S (HH w (upA s 2 x) l A B) r h' c n) : Ek sc d M pc L (.int x :: .ref 1 :: S) (HH w s l A B) r h' c n := ev_pf hc rfl rfl k
theorem pf_R_3 {x : Int32} (hc : cAt M pc = some (.putfield i, nx, 3, 4, v)) (k : Ek sc d M nx L S (HH w (upA s 3 x) l A B) r h' c n) : Ek sc d M pc L (.int x :: .ref 1 :: S) (HH w s l A B) r h' c n := ev_pf hc rfl rfl k
theorem pf_R_4 {x : Int32} (hc : cAt M pc = some (.putfield i, nx, 3, 5, v)) (k : Ek sc d M nx L S (HH w (upA s 4 x) l A B) r h' c n) : Ek sc d M pc L (.int x :: .ref 1 :: S) (HH w s l A B) r h' c n := ev_pf hc rfl rfl k
theorem pf_R_5 {x : Int32} (hx : x = 0 ∨ x = 1) (hc : cAt M pc = some (.putfield i, nx, 3, 6, v)) (k : Ek sc d M nx L S (HH w (upA s 5 x) l A B) r h' c n) : Ek sc d M pc L (.int x :: .ref 1 :: S) (HH w s l A B) r h' c n := ev_pf hc rfl (by rcases hx with rfl | rfl <;> rfl) k
theorem pf_F_9 {x : Int32} (hc : cAt M pc = some (.putfield i, nx, 0, 2, v)) (k : Ek sc d M nx L S (HH w (upA s 9 x) l A B) r h' c n) : Ek sc d M pc L (.int x :: .ref 9 :: S) (HH w s l A B) r h' c n := ev_pf hc rfl rfl k
theorem pf_F_10 {x : Int32} (hc : cAt M pc = some (.putfield i, nx, 0, 3, v)) (k : Ek sc d M nx L S (HH w (upA s 10 x) l A B) r h' c n) : Ek sc d M pc L (.int x :: .ref 9 :: S) (HH w s l A B) r h' c n := ev_pf hc rfl rfl k
theorem pf_T_11 {x : Int32} (hc : cAt M pc = some (.putfield i, nx, 0, 2, v)) (k : Ek sc d M nx L S (HH w (upA s 11 x) l A B) r h' c n) : Ek sc d M pc L (.int x :: .ref 12 :: S) (HH w s l A B) r h' c n := ev_pf hc rfl rfl k
theorem pf_T_12 {x : Int32} (hc : cAt M pc = some (.putfield i, nx, 0, 3, v)) (k : Ek sc d M nx L S (HH w (upA s 12 x) l A B) r h' c n) : Ek sc d M pc L (.int x :: .ref 12 :: S) (HH w s l A B) r h' c n := ev_pf hc rfl rfl k
theorem pf_N_13 {x : Int32} (hc : cAt M pc = some (.putfield i, nx, 2, 3, v)) (k : Ek sc d M nx L S (HH w (upA s 13 x) l A B) r h' c n) : Ek sc d M pc L (.int x :: .ref 21 :: S) (HH w s l A B) r h' c n := ev_pf hc rfl rfl k
theorem pf_N_14 {x : Int32} (hc : cAt M pc = some (.putfield i, nx, 2, 4, v)) (k : Ek sc d M nx L S (HH w (upA s 14 x) l A B) r h' c n) : Ek sc d M pc L (.int x :: .ref 21 :: S) (HH w s l A B) r h' c n := ev_pf hc rfl rfl k
theorem pf_M_23 {x : Int32} (hc : cAt M pc = some (.putfield i, nx, 6, 6, v)) (k : Ek sc d M nx L S (HH w (upA s 23 x) l A B) r h' c n) : Ek sc d M pc L (.int x :: .ref 26 :: S) (HH w s l A B) r h' c n := ev_pf hc rfl rfl k
theorem pf_M_l8 {x : Int64} (hc : cAt M pc = some (.putfield i, nx, 6, 9, v)) (k : Ek sc d M nx L S (HH w s (upA l 8 x) A B) r h' c n) : Ek sc d M pc L (.long x :: .ref 26 :: S) (HH w s l A B) r h' c n := ev_pf hc rfl rfl k
theorem pf_M_24 {x : Int32} (hc : cAt M pc = some (.putfield i, nx, 6, 11, v)) (k : Ek sc d M nx L S (HH w (upA s 24 x) l A B) r h' c n) : Ek sc d M pc L (.int x :: .ref 26 :: S) (HH w s l A B) r h' c n := ev_pf hc rfl rfl k
theorem pf_M_25 {x : Int32} (hc : cAt M pc = some (.putfield i, nx, 6, 12, v)) (k : Ek sc d M nx L S (HH w (upA s 25 x) l A B) r h' c n) : Ek sc d M pc L (.int x :: .ref 26 :: S) (HH w s l A B) r h' c n := ev_pf hc rfl rfl k
theorem pf_M_26 {x : Int32} (hc : cAt M pc = some (.putfield i, nx, 6, 14, v)) (k : Ek sc d M nx L S (HH w (upA s 26 x) l A B) r h' c n) : Ek sc d M pc L (.int x :: .ref 26 :: S) (HH w s l A B) r h' c n := ev_pf hc rfl rfl k
theorem pf_M_27 {x : Int32} (hc : cAt M pc = some (.putfield i, nx, 6, 16, v)) (k : Ek sc d M nx L S (HH w (upA s 27 x) l A B) r h' c n) : Ek sc d M pc L (.int x :: .ref 26 :: S) (HH w s l A B) r h' c n := ev_pf hc rfl rfl k
theorem pf_M_28 {x : Int32} (hc : cAt M pc = some (.putfield i, nx, 6, 17, v)) (k : Ek sc d M nx L S (HH w (upA s 28 x) l A B) r h' c n) : Ek sc d M pc L (.int x :: .ref 26 :: S) (HH w s l A B) r h' c n := ev_pf hc rfl rfl k
theorem pf_M_29 {x : Int32} (hc : cAt M pc = some (.putfield i, nx, 6, 18, v)) (k : Ek sc d M nx L S (HH w (upA s 29 x) l A B) r h' c n) : Ek sc d M pc L (.int x :: .ref 26 :: S) (HH w s l A B) r h' c n := ev_pf hc rfl rfl k
theorem pf_M_30 {x : Int32} (hc : cAt M pc = some (.putfield i, nx, 6, 19, v)) (k : Ek sc d M nx L S (HH w (upA s 30 x) l A B) r h' c n) : Ek sc d M pc L (.int x :: .ref 26 :: S) (HH w s l A B) r h' c n := ev_pf hc rfl rfl k
theorem pf_M_31 {x : Int32} (hc : cAt M pc = some (.putfield i, nx, 6, 20, v)) (k : Ek sc d M nx L S (HH w (upA s 31 x) l A B) r h' c n) : Ek sc d M pc L (.int x :: .ref 26 :: S) (HH w s l A B) r h' c n := ev_pf hc rfl rfl k
theorem pf_M_32 {x : Int32} (hc : cAt M pc = some (.putfield i, nx, 6, 21, v)) (k : Ek sc d M nx L S (HH w (upA s 32 x) l A B) r h' c n) : Ek sc d M pc L (.int x :: .ref 26 :: S) (HH w s l A B) r h' c n := ev_pf hc rfl rfl k
theorem pf_M_33 {x : Int32} (hc : cAt M pc = some (.putfield i, nx, 6, 22, v)) (k : Ek sc d M nx L S (HH w (upA s 33 x) l A B) r h' c n) : Ek sc d M pc L (.int x :: .ref 26 :: S) (HH w s l A B) r h' c n := ev_pf hc rfl rfl k
theorem is_2 {j x : Int32} {a b : Nat} (hc : cAt M pc = some (.iastore, nx, a, b, v)) (hi : inB j 240 = true) (k : Ek sc d M nx L S (HH w s l (upA A 2 (upd (A 2) j.toNatClampNeg x)) B) r h' c n) : Ek sc d M pc L (.int x :: .int j :: .ref 2 :: S) (HH w s l A B) r h' c n := ev_is hc rfl hi k
theorem is_10 {j x : Int32} {a b : Nat} (hc : cAt M pc = some (.iastore, nx, a, b, v)) (hi : inB j 49 = true) (k : Ek sc d M nx L S (HH w s l (upA A 10 (upd (A 10) j.toNatClampNeg x)) B) r h' c n) : Ek sc d M pc L (.int x :: .int j :: .ref 10 :: S) (HH w s l A B) r h' c n := ev_is hc rfl hi k
theorem is_11 {j x : Int32} {a b : Nat} (hc : cAt M pc = some (.iastore, nx, a, b, v)) (hi : inB j 7 = true) (k : Ek sc d M nx L S (HH w s l (upA A 11 (upd (A 11) j.toNatClampNeg x)) B) r h' c n) : Ek sc d M pc L (.int x :: .int j :: .ref 11 :: S) (HH w s l A B) r h' c n := ev_is hc rfl hi k
theorem is_13 {j x : Int32} {a b : Nat} (hc : cAt M pc = some (.iastore, nx, a, b, v)) (hi : inB j 49 = true) (k : Ek sc d M nx L S (HH w s l (upA A 13 (upd (A 13) j.toNatClampNeg x)) B) r h' c n) : Ek sc d M pc L (.int x :: .int j :: .ref 13 :: S) (HH w s l A B) r h' c n := ev_is hc rfl hi k
theorem is_14 {j x : Int32} {a b : Nat} (hc : cAt M pc = some (.iastore, nx, a, b, v)) (hi : inB j 7 = true) (k : Ek sc d M nx L S (HH w s l (upA A 14 (upd (A 14) j.toNatClampNeg x)) B) r h' c n) : Ek sc d M pc L (.int x :: .int j :: .ref 14 :: S) (HH w s l A B) r h' c n := ev_is hc rfl hi k
theorem is_16 {j x : Int32} {a b : Nat} (hc : cAt M pc = some (.iastore, nx, a, b, v)) (hi : inB j 1740 = true) (k : Ek sc d M nx L S (HH w s l (upA A 16 (upd (A 16) j.toNatClampNeg x)) B) r h' c n) : Ek sc d M pc L (.int x :: .int j :: .ref 16 :: S) (HH w s l A B) r h' c n := ev_is hc rfl hi k
theorem is_18 {j x : Int32} {a b : Nat} (hc : cAt M pc = some (.iastore, nx, a, b, v)) (hi : inB j 116 = true) (k : Ek sc d M nx L S (HH w s l (upA A 18 (upd (A 18) j.toNatClampNeg x)) B) r h' c n) : Ek sc d M pc L (.int x :: .int j :: .ref 18 :: S) (HH w s l A B) r h' c n := ev_is hc rfl hi k
theorem is_19 {j x : Int32} {a b : Nat} (hc : cAt M pc = some (.iastore, nx, a, b, v)) (hi : inB j 2 = true) (k : Ek sc d M nx L S (HH w s l (upA A 19 (upd (A 19) j.toNatClampNeg x)) B) r h' c n) : Ek sc d M pc L (.int x :: .int j :: .ref 19 :: S) (HH w s l A B) r h' c n := ev_is hc rfl hi k
theorem is_22 {j x : Int32} {a b : Nat} (hc : cAt M pc = some (.iastore, nx, a, b, v)) (hi : inB j 6 = true) (k : Ek sc d M nx L S (HH w s l (upA A 22 (upd (A 22) j.toNatClampNeg x)) B) r h' c n) : Ek sc d M pc L (.int x :: .int j :: .ref 22 :: S) (HH w s l A B) r h' c n := ev_is hc rfl hi k
theorem is_24 {j x : Int32} {a b : Nat} (hc : cAt M pc = some (.iastore, nx, a, b, v)) (hi : inB j 20 = true) (k : Ek sc d M nx L S (HH w s l (upA A 24 (upd (A 24) j.toNatClampNeg x)) B) r h' c n) : Ek sc d M pc L (.int x :: .int j :: .ref 24 :: S) (HH w s l A B) r h' c n := ev_is hc rfl hi k
theorem is_25 {j x : Int32} {a b : Nat} (hc : cAt M pc = some (.iastore, nx, a, b, v)) (hi : inB j 49 = true) (k : Ek sc d M nx L S (HH w s l (upA A 25 (upd (A 25) j.toNatClampNeg x)) B) r h' c n) : Ek sc d M pc L (.int x :: .int j :: .ref 25 :: S) (HH w s l A B) r h' c n := ev_is hc rfl hi k
theorem is_27 {j x : Int32} {a b : Nat} (hc : cAt M pc = some (.iastore, nx, a, b, v)) (hi : inB j 21 = true) (k : Ek sc d M nx L S (HH w s l (upA A 27 (upd (A 27) j.toNatClampNeg x)) B) r h' c n) : Ek sc d M pc L (.int x :: .int j :: .ref 27 :: S) (HH w s l A B) r h' c n := ev_is hc rfl hi k
theorem is_28 {j x : Int32} {a b : Nat} (hc : cAt M pc = some (.iastore, nx, a, b, v)) (hi : inB j 21 = true) (k : Ek sc d M nx L S (HH w s l (upA A 28 (upd (A 28) j.toNatClampNeg x)) B) r h' c n) : Ek sc d M pc L (.int x :: .int j :: .ref 28 :: S) (HH w s l A B) r h' c n := ev_is hc rfl hi k
theorem is_29 {j x : Int32} {a b : Nat} (hc : cAt M pc = some (.iastore, nx, a, b, v)) (hi : inB j 58 = true) (k : Ek sc d M nx L S (HH w s l (upA A 29 (upd (A 29) j.toNatClampNeg x)) B) r h' c n) : Ek sc d M pc L (.int x :: .int j :: .ref 29 :: S) (HH w s l A B) r h' c n := ev_is hc rfl hi k
theorem is_30 {j x : Int32} {a b : Nat} (hc : cAt M pc = some (.iastore, nx, a, b, v)) (hi : inB j 58 = true) (k : Ek sc d M nx L S (HH w s l (upA A 30 (upd (A 30) j.toNatClampNeg x)) B) r h' c n) : Ek sc d M pc L (.int x :: .int j :: .ref 30 :: S) (HH w s l A B) r h' c n := ev_is hc rfl hi k
theorem is_31 {j x : Int32} {a b : Nat} (hc : cAt M pc = some (.iastore, nx, a, b, v)) (hi : inB j 49 = true) (k : Ek sc d M nx L S (HH w s l (upA A 31 (upd (A 31) j.toNatClampNeg x)) B) r h' c n) : Ek sc d M pc L (.int x :: .int j :: .ref 31 :: S) (HH w s l A B) r h' c n := ev_is hc rfl hi k
theorem is_32 {j x : Int32} {a b : Nat} (hc : cAt M pc = some (.iastore, nx, a, b, v)) (hi : inB j 1740 = true) (k : Ek sc d M nx L S (HH w s l (upA A 32 (upd (A 32) j.toNatClampNeg x)) B) r h' c n) : Ek sc d M pc L (.int x :: .int j :: .ref 32 :: S) (HH w s l A B) r h' c n := ev_is hc rfl hi k
theorem is_33 {j x : Int32} {a b : Nat} (hc : cAt M pc = some (.iastore, nx, a, b, v)) (hi : inB j 118 = true) (k : Ek sc d M nx L S (HH w s l (upA A 33 (upd (A 33) j.toNatClampNeg x)) B) r h' c n) : Ek sc d M pc L (.int x :: .int j :: .ref 33 :: S) (HH w s l A B) r h' c n := ev_is hc rfl hi k
theorem is_35 {j x : Int32} {a b : Nat} (hc : cAt M pc = some (.iastore, nx, a, b, v)) (hi : inB j 240 = true) (k : Ek sc d M nx L S (HH w s l (upA A 35 (upd (A 35) j.toNatClampNeg x)) B) r h' c n) : Ek sc d M pc L (.int x :: .int j :: .ref 35 :: S) (HH w s l A B) r h' c n := ev_is hc rfl hi k
theorem is_36 {j x : Int32} {a b : Nat} (hc : cAt M pc = some (.iastore, nx, a, b, v)) (hi : inB j 12 = true) (k : Ek sc d M nx L S (HH w s l (upA A 36 (upd (A 36) j.toNatClampNeg x)) B) r h' c n) : Ek sc d M pc L (.int x :: .int j :: .ref 36 :: S) (HH w s l A B) r h' c n := ev_is hc rfl hi k
theorem is_37 {j x : Int32} {a b : Nat} (hc : cAt M pc = some (.iastore, nx, a, b, v)) (hi : inB j 20 = true) (k : Ek sc d M nx L S (HH w s l (upA A 37 (upd (A 37) j.toNatClampNeg x)) B) r h' c n) : Ek sc d M pc L (.int x :: .int j :: .ref 37 :: S) (HH w s l A B) r h' c n := ev_is hc rfl hi k
theorem is_38 {j x : Int32} {a b : Nat} (hc : cAt M pc = some (.iastore, nx, a, b, v)) (hi : inB j 7 = true) (k : Ek sc d M nx L S (HH w s l (upA A 38 (upd (A 38) j.toNatClampNeg x)) B) r h' c n) : Ek sc d M pc L (.int x :: .int j :: .ref 38 :: S) (HH w s l A B) r h' c n := ev_is hc rfl hi k
theorem is_20 {j x : Int32} {a b : Nat} (hc : cAt M pc = some (.bastore, nx, a, b, v)) (hi : inB j 2 = true) (k : Ek sc d M nx L S (HH w s l (upA A 20 (upd (A 20) j.toNatClampNeg (vp_nar .boolean x))) B) r h' c n) : Ek sc d M pc L (.int x :: .int j :: .ref 20 :: S) (HH w s l A B) r h' c n := ev_bs hc rfl hi k
theorem is_23 {j x : Int32} {a b : Nat} (hc : cAt M pc = some (.bastore, nx, a, b, v)) (hi : inB j 6 = true) (k : Ek sc d M nx L S (HH w s l (upA A 23 (upd (A 23) j.toNatClampNeg (vp_nar .boolean x))) B) r h' c n) : Ek sc d M pc L (.int x :: .int j :: .ref 23 :: S) (HH w s l A B) r h' c n := ev_bs hc rfl hi k
theorem is_34 {j x : Int32} {a b : Nat} (hc : cAt M pc = some (.bastore, nx, a, b, v)) (hi : inB j 2 = true) (k : Ek sc d M nx L S (HH w s l (upA A 34 (upd (A 34) j.toNatClampNeg (vp_nar .boolean x))) B) r h' c n) : Ek sc d M pc L (.int x :: .int j :: .ref 34 :: S) (HH w s l A B) r h' c n := ev_bs hc rfl hi k
theorem it_2 {j x : Int32} {g : Nat → Int32} {a b : Nat} (hc : cAt M pc = some (.iastore, nx, a, b, v)) (hi : inB j 240 = true) (k : Ek sc d M nx L S (HH w s l (upA A 2 (upd g j.toNatClampNeg x)) B) r h' c n) : Ek sc d M pc L (.int x :: .int j :: .ref 2 :: S) (HH w s l (upA A 2 g) B) r h' c n := by
  refine is_2 hc hi ?_
  rw [upA_up, upA_at]
  exact k
theorem it_10 {j x : Int32} {g : Nat → Int32} {a b : Nat} (hc : cAt M pc = some (.iastore, nx, a, b, v)) (hi : inB j 49 = true) (k : Ek sc d M nx L S (HH w s l (upA A 10 (upd g j.toNatClampNeg x)) B) r h' c n) : Ek sc d M pc L (.int x :: .int j :: .ref 10 :: S) (HH w s l (upA A 10 g) B) r h' c n := by
  refine is_10 hc hi ?_
  rw [upA_up, upA_at]
  exact k
theorem it_11 {j x : Int32} {g : Nat → Int32} {a b : Nat} (hc : cAt M pc = some (.iastore, nx, a, b, v)) (hi : inB j 7 = true) (k : Ek sc d M nx L S (HH w s l (upA A 11 (upd g j.toNatClampNeg x)) B) r h' c n) : Ek sc d M pc L (.int x :: .int j :: .ref 11 :: S) (HH w s l (upA A 11 g) B) r h' c n := by
  refine is_11 hc hi ?_
  rw [upA_up, upA_at]
  exact k
theorem it_13 {j x : Int32} {g : Nat → Int32} {a b : Nat} (hc : cAt M pc = some (.iastore, nx, a, b, v)) (hi : inB j 49 = true) (k : Ek sc d M nx L S (HH w s l (upA A 13 (upd g j.toNatClampNeg x)) B) r h' c n) : Ek sc d M pc L (.int x :: .int j :: .ref 13 :: S) (HH w s l (upA A 13 g) B) r h' c n := by
  refine is_13 hc hi ?_
  rw [upA_up, upA_at]
  exact k
theorem it_14 {j x : Int32} {g : Nat → Int32} {a b : Nat} (hc : cAt M pc = some (.iastore, nx, a, b, v)) (hi : inB j 7 = true) (k : Ek sc d M nx L S (HH w s l (upA A 14 (upd g j.toNatClampNeg x)) B) r h' c n) : Ek sc d M pc L (.int x :: .int j :: .ref 14 :: S) (HH w s l (upA A 14 g) B) r h' c n := by
  refine is_14 hc hi ?_
  rw [upA_up, upA_at]
  exact k
theorem it_16 {j x : Int32} {g : Nat → Int32} {a b : Nat} (hc : cAt M pc = some (.iastore, nx, a, b, v)) (hi : inB j 1740 = true) (k : Ek sc d M nx L S (HH w s l (upA A 16 (upd g j.toNatClampNeg x)) B) r h' c n) : Ek sc d M pc L (.int x :: .int j :: .ref 16 :: S) (HH w s l (upA A 16 g) B) r h' c n := by
  refine is_16 hc hi ?_
  rw [upA_up, upA_at]
  exact k
theorem it_18 {j x : Int32} {g : Nat → Int32} {a b : Nat} (hc : cAt M pc = some (.iastore, nx, a, b, v)) (hi : inB j 116 = true) (k : Ek sc d M nx L S (HH w s l (upA A 18 (upd g j.toNatClampNeg x)) B) r h' c n) : Ek sc d M pc L (.int x :: .int j :: .ref 18 :: S) (HH w s l (upA A 18 g) B) r h' c n := by
  refine is_18 hc hi ?_
  rw [upA_up, upA_at]
  exact k
theorem it_19 {j x : Int32} {g : Nat → Int32} {a b : Nat} (hc : cAt M pc = some (.iastore, nx, a, b, v)) (hi : inB j 2 = true) (k : Ek sc d M nx L S (HH w s l (upA A 19 (upd g j.toNatClampNeg x)) B) r h' c n) : Ek sc d M pc L (.int x :: .int j :: .ref 19 :: S) (HH w s l (upA A 19 g) B) r h' c n := by
  refine is_19 hc hi ?_
  rw [upA_up, upA_at]
  exact k
theorem it_22 {j x : Int32} {g : Nat → Int32} {a b : Nat} (hc : cAt M pc = some (.iastore, nx, a, b, v)) (hi : inB j 6 = true) (k : Ek sc d M nx L S (HH w s l (upA A 22 (upd g j.toNatClampNeg x)) B) r h' c n) : Ek sc d M pc L (.int x :: .int j :: .ref 22 :: S) (HH w s l (upA A 22 g) B) r h' c n := by
  refine is_22 hc hi ?_
  rw [upA_up, upA_at]
  exact k
theorem it_24 {j x : Int32} {g : Nat → Int32} {a b : Nat} (hc : cAt M pc = some (.iastore, nx, a, b, v)) (hi : inB j 20 = true) (k : Ek sc d M nx L S (HH w s l (upA A 24 (upd g j.toNatClampNeg x)) B) r h' c n) : Ek sc d M pc L (.int x :: .int j :: .ref 24 :: S) (HH w s l (upA A 24 g) B) r h' c n := by
  refine is_24 hc hi ?_
  rw [upA_up, upA_at]
  exact k
theorem it_25 {j x : Int32} {g : Nat → Int32} {a b : Nat} (hc : cAt M pc = some (.iastore, nx, a, b, v)) (hi : inB j 49 = true) (k : Ek sc d M nx L S (HH w s l (upA A 25 (upd g j.toNatClampNeg x)) B) r h' c n) : Ek sc d M pc L (.int x :: .int j :: .ref 25 :: S) (HH w s l (upA A 25 g) B) r h' c n := by
  refine is_25 hc hi ?_
  rw [upA_up, upA_at]
  exact k
theorem it_27 {j x : Int32} {g : Nat → Int32} {a b : Nat} (hc : cAt M pc = some (.iastore, nx, a, b, v)) (hi : inB j 21 = true) (k : Ek sc d M nx L S (HH w s l (upA A 27 (upd g j.toNatClampNeg x)) B) r h' c n) : Ek sc d M pc L (.int x :: .int j :: .ref 27 :: S) (HH w s l (upA A 27 g) B) r h' c n := by
  refine is_27 hc hi ?_
  rw [upA_up, upA_at]
  exact k
theorem it_28 {j x : Int32} {g : Nat → Int32} {a b : Nat} (hc : cAt M pc = some (.iastore, nx, a, b, v)) (hi : inB j 21 = true) (k : Ek sc d M nx L S (HH w s l (upA A 28 (upd g j.toNatClampNeg x)) B) r h' c n) : Ek sc d M pc L (.int x :: .int j :: .ref 28 :: S) (HH w s l (upA A 28 g) B) r h' c n := by
  refine is_28 hc hi ?_
  rw [upA_up, upA_at]
  exact k
theorem it_29 {j x : Int32} {g : Nat → Int32} {a b : Nat} (hc : cAt M pc = some (.iastore, nx, a, b, v)) (hi : inB j 58 = true) (k : Ek sc d M nx L S (HH w s l (upA A 29 (upd g j.toNatClampNeg x)) B) r h' c n) : Ek sc d M pc L (.int x :: .int j :: .ref 29 :: S) (HH w s l (upA A 29 g) B) r h' c n := by
  refine is_29 hc hi ?_
  rw [upA_up, upA_at]
  exact k
theorem it_30 {j x : Int32} {g : Nat → Int32} {a b : Nat} (hc : cAt M pc = some (.iastore, nx, a, b, v)) (hi : inB j 58 = true) (k : Ek sc d M nx L S (HH w s l (upA A 30 (upd g j.toNatClampNeg x)) B) r h' c n) : Ek sc d M pc L (.int x :: .int j :: .ref 30 :: S) (HH w s l (upA A 30 g) B) r h' c n := by
  refine is_30 hc hi ?_
  rw [upA_up, upA_at]
  exact k
theorem it_31 {j x : Int32} {g : Nat → Int32} {a b : Nat} (hc : cAt M pc = some (.iastore, nx, a, b, v)) (hi : inB j 49 = true) (k : Ek sc d M nx L S (HH w s l (upA A 31 (upd g j.toNatClampNeg x)) B) r h' c n) : Ek sc d M pc L (.int x :: .int j :: .ref 31 :: S) (HH w s l (upA A 31 g) B) r h' c n := by
  refine is_31 hc hi ?_
  rw [upA_up, upA_at]
  exact k
theorem it_32 {j x : Int32} {g : Nat → Int32} {a b : Nat} (hc : cAt M pc = some (.iastore, nx, a, b, v)) (hi : inB j 1740 = true) (k : Ek sc d M nx L S (HH w s l (upA A 32 (upd g j.toNatClampNeg x)) B) r h' c n) : Ek sc d M pc L (.int x :: .int j :: .ref 32 :: S) (HH w s l (upA A 32 g) B) r h' c n := by
  refine is_32 hc hi ?_
  rw [upA_up, upA_at]
  exact k
theorem it_33 {j x : Int32} {g : Nat → Int32} {a b : Nat} (hc : cAt M pc = some (.iastore, nx, a, b, v)) (hi : inB j 118 = true) (k : Ek sc d M nx L S (HH w s l (upA A 33 (upd g j.toNatClampNeg x)) B) r h' c n) : Ek sc d M pc L (.int x :: .int j :: .ref 33 :: S) (HH w s l (upA A 33 g) B) r h' c n := by
  refine is_33 hc hi ?_
  rw [upA_up, upA_at]
  exact k
theorem it_35 {j x : Int32} {g : Nat → Int32} {a b : Nat} (hc : cAt M pc = some (.iastore, nx, a, b, v)) (hi : inB j 240 = true) (k : Ek sc d M nx L S (HH w s l (upA A 35 (upd g j.toNatClampNeg x)) B) r h' c n) : Ek sc d M pc L (.int x :: .int j :: .ref 35 :: S) (HH w s l (upA A 35 g) B) r h' c n := by
  refine is_35 hc hi ?_
  rw [upA_up, upA_at]
  exact k
theorem it_36 {j x : Int32} {g : Nat → Int32} {a b : Nat} (hc : cAt M pc = some (.iastore, nx, a, b, v)) (hi : inB j 12 = true) (k : Ek sc d M nx L S (HH w s l (upA A 36 (upd g j.toNatClampNeg x)) B) r h' c n) : Ek sc d M pc L (.int x :: .int j :: .ref 36 :: S) (HH w s l (upA A 36 g) B) r h' c n := by
  refine is_36 hc hi ?_
  rw [upA_up, upA_at]
  exact k
theorem it_37 {j x : Int32} {g : Nat → Int32} {a b : Nat} (hc : cAt M pc = some (.iastore, nx, a, b, v)) (hi : inB j 20 = true) (k : Ek sc d M nx L S (HH w s l (upA A 37 (upd g j.toNatClampNeg x)) B) r h' c n) : Ek sc d M pc L (.int x :: .int j :: .ref 37 :: S) (HH w s l (upA A 37 g) B) r h' c n := by
  refine is_37 hc hi ?_
  rw [upA_up, upA_at]
  exact k
theorem it_38 {j x : Int32} {g : Nat → Int32} {a b : Nat} (hc : cAt M pc = some (.iastore, nx, a, b, v)) (hi : inB j 7 = true) (k : Ek sc d M nx L S (HH w s l (upA A 38 (upd g j.toNatClampNeg x)) B) r h' c n) : Ek sc d M pc L (.int x :: .int j :: .ref 38 :: S) (HH w s l (upA A 38 g) B) r h' c n := by
  refine is_38 hc hi ?_
  rw [upA_up, upA_at]
  exact k
theorem pf_D_19 {x : Int32} (hc : cAt M pc = some (.putfield i, nx, 1, 0, v)) (k : Ek sc d M nx L S (HH w (upA s 19 x) l A B) r h' c n) : Ek sc d M pc L (.int x :: .ref (wL (!w)) :: S) (HH w s l A B) r h' c n := by
  cases w <;> exact ev_pf hc rfl rfl k
theorem pf_D_20 {x : Int32} (hc : cAt M pc = some (.putfield i, nx, 1, 1, v)) (k : Ek sc d M nx L S (HH w (upA s 20 x) l A B) r h' c n) : Ek sc d M pc L (.int x :: .ref (wL (!w)) :: S) (HH w s l A B) r h' c n := by
  cases w <;> exact ev_pf hc rfl rfl k
theorem pf_D_21 {x : Int32} (hc : cAt M pc = some (.putfield i, nx, 1, 2, v)) (k : Ek sc d M nx L S (HH w (upA s 21 x) l A B) r h' c n) : Ek sc d M pc L (.int x :: .ref (wL (!w)) :: S) (HH w s l A B) r h' c n := by
  cases w <;> exact ev_pf hc rfl rfl k
theorem pf_D_22 {x : Int32} (hc : cAt M pc = some (.putfield i, nx, 1, 3, v)) (k : Ek sc d M nx L S (HH w (upA s 22 x) l A B) r h' c n) : Ek sc d M pc L (.int x :: .ref (wL (!w)) :: S) (HH w s l A B) r h' c n := by
  cases w <;> exact ev_pf hc rfl rfl k
theorem pf_D_l4 {x : Int64} (hc : cAt M pc = some (.putfield i, nx, 1, 4, v)) (k : Ek sc d M nx L S (HH w s (upA l 4 x) A B) r h' c n) : Ek sc d M pc L (.long x :: .ref (wL (!w)) :: S) (HH w s l A B) r h' c n := by
  cases w <;> exact ev_pf hc rfl rfl k
theorem pf_D_l5 {x : Int64} (hc : cAt M pc = some (.putfield i, nx, 1, 5, v)) (k : Ek sc d M nx L S (HH w s (upA l 5 x) A B) r h' c n) : Ek sc d M pc L (.long x :: .ref (wL (!w)) :: S) (HH w s l A B) r h' c n := by
  cases w <;> exact ev_pf hc rfl rfl k
theorem pf_D_l6 {x : Int64} (hc : cAt M pc = some (.putfield i, nx, 1, 6, v)) (k : Ek sc d M nx L S (HH w s (upA l 6 x) A B) r h' c n) : Ek sc d M pc L (.long x :: .ref (wL (!w)) :: S) (HH w s l A B) r h' c n := by
  cases w <;> exact ev_pf hc rfl rfl k
theorem pf_D_l7 {x : Int64} (hc : cAt M pc = some (.putfield i, nx, 1, 7, v)) (k : Ek sc d M nx L S (HH w s (upA l 7 x) A B) r h' c n) : Ek sc d M pc L (.long x :: .ref (wL (!w)) :: S) (HH w s l A B) r h' c n := by
  cases w <;> exact ev_pf hc rfl rfl k
theorem is_dk {j x : Int32} {a b : Nat} (hc : cAt M pc = some (.iastore, nx, a, b, v)) (hi : inB j 7 = true) (k : Ek sc d M nx L S (HH w s l (upA A 7 (upd (A 7) j.toNatClampNeg x)) B) r h' c n) : Ek sc d M pc L (.int x :: .int j :: .ref (wK (!w)) :: S) (HH w s l A B) r h' c n := by
  cases w <;> exact ev_is hc rfl hi k
theorem ls_ds {j : Int32} {x : Int64} {a b : Nat} {g : Nat → Int64} (hc : cAt M pc = some (.lastore, nx, a, b, v)) (hi : inB j 245 = true) (k : Ek sc d M nx L S (HH w s l A (upA B 8 (vp_updL g j.toNatClampNeg x))) r h' c n) : Ek sc d M pc L (.long x :: .int j :: .ref (wS (!w)) :: S) (HH w s l A (upA B 8 g)) r h' c n := by
  cases w <;> exact ev_lst hc rfl hi k
end HHR
end
section
/-! branches that are known; numbers; the model's static methods -/
section EVB
variable {sc : Scr} {d M pc nx a b : Nat} {v : Value} {ins : Instr} {L : Lcs} {S S' : Stk} {h h' : AHp} {r : Option Value} {c n : Nat} {cd : Bool}
theorem ev_ift (hc : cAt M pc = some (ins, nx, a, b, v)) (hk : kd ins a = 1) (hs : brS ins S = some (cd, S')) (e : cd = true) (k : Ek sc d M a L S' h r h' c n) : Ek sc d M pc L S h r h' c n := ev_if hc hk hs (fun _ => k) (fun e2 => by rw [e] at e2; cases e2)
theorem ev_iff (hc : cAt M pc = some (ins, nx, a, b, v)) (hk : kd ins a = 1) (hs : brS ins S = some (cd, S')) (e : cd = false) (k : Ek sc d M nx L S' h r h' c n) : Ek sc d M pc L S h r h' c n := ev_if hc hk hs (fun e2 => by rw [e] at e2; cases e2) (fun _ => k)
end EVB
theorem ev_gf2 {sc : Scr} {d M pc nx a b i p : Nat} {v w : Value} {L : Lcs} {S S0 : Stk} {h h' : AHp} {r : Option Value} {c n : Nat} {fs : List Value} (hc : cAt M pc = some (.getfield i, nx, a, b, v)) (hS : S = .ref p :: S0) (hp : h[p]? = some (.inr (a, fs))) (hf : fs[b]? = some w) (k : Ek sc d M nx L (w :: S0) h r h' c n) : Ek sc d M pc L S h r h' c n := by
  subst hS
  exact ev_gf hc hp hf k
theorem ev_wk2 {sc : Scr} {d M pc : Nat} {L L' : Lcs} {S : Stk} {h h' : AHp} {r : Option Value} {c n : Nat} (k : Ek sc d M pc L' S h r h' c n) (hl : L'.length = L.length) (hw : wk L' L) : Ek sc d M pc L S h r h' c n := ev_wk hl hw k
theorem dT {p : Prop} [Decidable p] (h : p) : decide p = true := decide_eq_true h
theorem dF {p : Prop} [Decidable p] (h : ¬ p) : decide p = false := decide_eq_false h
theorem i_eq {x : Int32} (h : x = 0) : ifB .eq x = true := decide_eq_true h
theorem j_eq {x : Int32} (h : ¬ x = 0) : ifB .eq x = false := decide_eq_false h
theorem d_eq {x y : Int32} (h : ¬ x = y) : cmB .eq x y = false := decide_eq_false h
theorem c_eq {x y : Int32} (h : x = y) : cmB .eq x y = true := decide_eq_true h
theorem i_ne {x : Int32} (h : ¬ x = 0) : ifB .ne x = true := decide_eq_true h
theorem j_ne {x : Int32} (h : x = 0) : ifB .ne x = false := decide_eq_false (fun z => z h)
theorem d_ne {x y : Int32} (h : x = y) : cmB .ne x y = false := decide_eq_false (fun z => z h)
theorem c_ne {x y : Int32} (h : ¬ x = y) : cmB .ne x y = true := decide_eq_true h
theorem i_lt {x : Int32} (h : x < 0) : ifB .lt x = true := decide_eq_true h
theorem j_lt {x : Int32} (h : ¬ x < 0) : ifB .lt x = false := decide_eq_false h
theorem d_lt {x y : Int32} (h : ¬ x < y) : cmB .lt x y = false := decide_eq_false h
theorem c_lt {x y : Int32} (h : x < y) : cmB .lt x y = true := decide_eq_true h
theorem i_ge {x : Int32} (h : 0 ≤ x) : ifB .ge x = true := decide_eq_true h
theorem j_ge {x : Int32} (h : ¬ 0 ≤ x) : ifB .ge x = false := decide_eq_false h
theorem d_ge {x y : Int32} (h : ¬ y ≤ x) : cmB .ge x y = false := decide_eq_false h
theorem c_ge {x y : Int32} (h : y ≤ x) : cmB .ge x y = true := decide_eq_true h
theorem i_gt {x : Int32} (h : 0 < x) : ifB .gt x = true := decide_eq_true h
theorem j_gt {x : Int32} (h : ¬ 0 < x) : ifB .gt x = false := decide_eq_false h
theorem d_gt {x y : Int32} (h : ¬ y < x) : cmB .gt x y = false := decide_eq_false h
theorem c_gt {x y : Int32} (h : y < x) : cmB .gt x y = true := decide_eq_true h
theorem i_le {x : Int32} (h : x ≤ 0) : ifB .le x = true := decide_eq_true h
theorem j_le {x : Int32} (h : ¬ x ≤ 0) : ifB .le x = false := decide_eq_false h
theorem d_le {x y : Int32} (h : ¬ x ≤ y) : cmB .le x y = false := decide_eq_false h
theorem c_le {x y : Int32} (h : x ≤ y) : cmB .le x y = true := decide_eq_true h
theorem lc (x y : Int64) : (lg_cmp x y = 1 ∧ y < x) ∨ (lg_cmp x y = 0 ∧ x = y) ∨ (lg_cmp x y = -1 ∧ x < y) := by
  unfold lg_cmp
  by_cases h1 : x > y
  · rw [if_pos h1]; exact Or.inl ⟨rfl, h1⟩
  · rw [if_neg h1]
    by_cases h2 : x = y
    · rw [if_pos h2]; exact Or.inr (Or.inl ⟨rfl, h2⟩)
    · rw [if_neg h2]
      refine Or.inr (Or.inr ⟨rfl, ?_⟩)
      rw [gt_iff_lt, Int64.lt_iff_toInt_lt] at h1
      rw [Int64.lt_iff_toInt_lt]
      have h3 : x.toInt ≠ y.toInt := fun e => h2 (Int64.toInt_inj.mp e)
      omega
theorem lt_ir (x : Int64) : ¬ x < x := by rw [Int64.lt_iff_toInt_lt]; omega
theorem lt_as {x y : Int64} (h : x < y) : ¬ y < x := by rw [Int64.lt_iff_toInt_lt] at h ⊢; omega
theorem lt_nle {x y : Int64} (h : x < y) : ¬ y ≤ x := by rw [Int64.lt_iff_toInt_lt] at h; rw [Int64.le_iff_toInt_le]; omega
theorem nlt_le {x y : Int64} (h : ¬ x < y) : y ≤ x := by rw [Int64.lt_iff_toInt_lt] at h; rw [Int64.le_iff_toInt_le]; omega
theorem lc_lt {x y : Int64} : lg_cmp x y < 0 ↔ x < y := by
  rcases lc x y with ⟨e, h⟩ | ⟨e, h⟩ | ⟨e, h⟩ <;> rw [e]
  · exact ⟨fun z => absurd z (by decide), fun z => absurd z (lt_as h)⟩
  · subst h; exact ⟨fun z => absurd z (by decide), fun z => absurd z (lt_ir x)⟩
  · exact ⟨fun _ => h, fun _ => by decide⟩
theorem lc_gt {x y : Int64} : 0 < lg_cmp x y ↔ y < x := by
  rcases lc x y with ⟨e, h⟩ | ⟨e, h⟩ | ⟨e, h⟩ <;> rw [e]
  · exact ⟨fun _ => h, fun _ => by decide⟩
  · subst h; exact ⟨fun z => absurd z (by decide), fun z => absurd z (lt_ir x)⟩
  · exact ⟨fun z => absurd z (by decide), fun z => absurd z (lt_as h)⟩
theorem lc_eq {x y : Int64} : lg_cmp x y = 0 ↔ x = y := by
  rcases lc x y with ⟨e, h⟩ | ⟨e, h⟩ | ⟨e, h⟩ <;> rw [e]
  · exact ⟨fun z => absurd z (by decide), fun z => absurd (z ▸ h) (lt_ir _)⟩
  · exact ⟨fun _ => h, fun _ => rfl⟩
  · exact ⟨fun z => absurd z (by decide), fun z => absurd (z ▸ h) (lt_ir _)⟩
theorem lc_ge {x y : Int64} : 0 ≤ lg_cmp x y ↔ y ≤ x := by
  rcases lc x y with ⟨e, h⟩ | ⟨e, h⟩ | ⟨e, h⟩ <;> rw [e]
  · exact ⟨fun _ => nlt_le (lt_as h), fun _ => by decide⟩
  · subst h; exact ⟨fun _ => nlt_le (lt_ir x), fun _ => by decide⟩
  · exact ⟨fun z => absurd z (by decide), fun z => absurd z (lt_nle h)⟩
def b01 (b : Bool) : Int32 := bif b then 1 else 0
theorem b01_or (b : Bool) : b01 b = 0 ∨ b01 b = 1 := by cases b <;> simp [b01]
theorem ifB_eq_b01 (b : Bool) : ifB .eq (b01 b) = !b := by cases b <;> rfl
theorem ifB_ne_b01 (b : Bool) : ifB .ne (b01 b) = b := by cases b <;> rfl
theorem e_in (sc : Scr) (d : Nat) (h : AHp) (x a b : Int64) : Ev sc d m_M_in 0 (iniL 6 [.long x, .long a, .long b]) [] h (some (.int (b01 (decide (a ≤ x) && decide (x ≤ b))))) h := by
  refine ev_gos 99 rfl ?_
  refine ev_if rfl rfl rfl (fun c => ?_) (fun c => ?_)
  · have c1 := lc_lt.mp (of_decide_eq_true c)
    refine ev_gos 99 rfl ?_
    exact ev_rz rfl (Or.inl rfl) (by rw [dF (lt_nle c1)]; rfl) rfl
  · have c1 := nlt_le (fun z => of_decide_eq_false c (lc_lt.mpr z))
    refine ev_gos 99 rfl ?_
    refine ev_if rfl rfl rfl (fun c => ?_) (fun c => ?_)
    · have c2 := lc_gt.mp (of_decide_eq_true c)
      refine ev_gos 99 rfl ?_
      exact ev_rz rfl (Or.inl rfl) (by rw [dF (lt_nle c2), Bool.and_false]; rfl) rfl
    · have c2 := nlt_le (fun z => of_decide_eq_false c (lc_gt.mpr z))
      refine ev_gos 99 rfl ?_
      exact ev_rz rfl (Or.inr rfl) (by rw [dT c1, dT c2]; rfl) rfl
theorem e_holds (sc : Scr) (d : Nat) (h : AHp) (x : Int64) {k : Nat} (hk : k < 64) : Ev sc d m_M_holds 0 (iniL 3 [.long x, .int (nI k)]) [] h (some (.int (b01 (bs x k)))) h := by
  refine ev_gos 99 rfl ?_
  have e := bs_holds x hk
  refine ev_if rfl rfl rfl (fun c => ?_) (fun c => ?_)
  · have c1 := of_decide_eq_true c
    refine ev_gos 99 rfl ?_
    refine ev_rz rfl (Or.inl rfl) ?_ rfl
    cases hb : bs x k with
    | false => rfl
    | true =>
      rw [hb] at e
      exact absurd (lc_eq.mpr e) c1
  · have c1 := Classical.not_not.mp (of_decide_eq_false c)
    refine ev_gos 99 rfl ?_
    refine ev_rz rfl (Or.inr rfl) ?_ rfl
    cases hb : bs x k with
    | true => rfl
    | false =>
      rw [hb] at e
      have := (lc_eq.mp c1).symm.trans e
      exact absurd this (by decide)
theorem e_bits_loop (sc : Scr) (d : Nat) (h : AHp) (x0 : Int64) : ∀ (n : Nat) (x : Int64) (k : Nat), pop x = n → k + n = pop x0 → Ev sc d m_M_bits 7 [some (.long x0), none, some (.int (nI k)), some (.long x), none] [.int (lg_cmp x 0)] h (some (.int (nI (pop x0)))) h := by
  intro n
  induction n with
  | zero =>
    intro x k h1 h2
    have hx := pop_zero h1
    subst hx
    refine ev_ift rfl rfl rfl (i_eq (lc_eq.mpr rfl)) ?_
    refine ev_gos 99 rfl ?_
    exact ev_ri rfl (by rw [← h2, Nat.add_zero]) rfl
  | succ n ih =>
    intro x k h1 h2
    have hx : ¬ x = 0 := fun e => by rw [e, pop_0] at h1; cases h1
    refine ev_iff rfl rfl rfl (j_eq (fun z => hx (lc_eq.mp z))) ?_
    refine ev_gos 99 rfl ?_
    have h3 := ih (x &&& (x - 1)) (k + 1) (by have := pop_drop hx; omega) (by omega)
    rw [← nI_1] at h3
    exact h3
theorem e_bits (sc : Scr) (d : Nat) (h : AHp) (x : Int64) : Ev sc d m_M_bits 0 (iniL 5 [.long x]) [] h (some (.int (nI (pop x)))) h := by
  refine ev_gos 99 rfl ?_
  exact e_bits_loop sc d h x (pop x) x 0 rfl (Nat.zero_add _)
theorem e_lesser (sc : Scr) (d : Nat) (h : AHp) (x y : Int32) : Ev sc d m_M_lesser 0 (iniL 2 [.int x, .int y]) [] h (some (.int (if x < y then x else y))) h := by
  refine ev_gos 99 rfl ?_
  refine ev_if rfl rfl rfl (fun c => ?_) (fun c => ?_)
  · have c1 := of_decide_eq_true c
    refine ev_gos 99 rfl ?_
    exact ev_ri rfl (by rw [if_neg (fun z => by rw [Int32.lt_iff_toInt_lt] at z; rw [Int32.le_iff_toInt_le] at c1; omega)]) rfl
  · have c1 := of_decide_eq_false c
    refine ev_gos 99 rfl ?_
    exact ev_ri rfl (by rw [if_pos (by rw [Int32.lt_iff_toInt_lt]; rw [Int32.le_iff_toInt_le] at c1; omega)]) rfl
theorem e_greater (sc : Scr) (d : Nat) (h : AHp) (x y : Int32) : Ev sc d m_M_greater 0 (iniL 2 [.int x, .int y]) [] h (some (.int (if y < x then x else y))) h := by
  refine ev_gos 99 rfl ?_
  refine ev_if rfl rfl rfl (fun c => ?_) (fun c => ?_)
  · have c1 := of_decide_eq_true c
    refine ev_gos 99 rfl ?_
    exact ev_ri rfl (by rw [if_neg (fun z => by rw [Int32.lt_iff_toInt_lt] at z; rw [Int32.le_iff_toInt_le] at c1; omega)]) rfl
  · have c1 := of_decide_eq_false c
    refine ev_gos 99 rfl ?_
    exact ev_ri rfl (by rw [if_pos (by rw [Int32.lt_iff_toInt_lt]; rw [Int32.le_iff_toInt_le] at c1; omega)]) rfl
def cntd (n : Nat) : Nat := if n < 3 then n else if n < 5 then 1 else n / 3 + 1
theorem nI_lt3 {a b : Nat} (ha : a < 2 ^ 31) (hb : b < 2 ^ 31) (h : ¬ b ≤ a) : ¬ nI b ≤ nI a := fun z => h ((nI_leI hb ha).mp z)
theorem e_counted (sc : Scr) (d : Nat) (h : AHp) {n : Nat} (hn : n < 2 ^ 31) : Ev sc d m_M_counted 0 (iniL 1 [.int (nI n)]) [] h (some (.int (nI (cntd n)))) h := by
  refine ev_gos 99 rfl ?_
  unfold cntd
  by_cases h1 : n < 3
  · refine ev_iff rfl rfl rfl (d_ge (nI_lt3 hn (by decide) (by omega) : ¬ nI 3 ≤ nI n)) ?_
    refine ev_gos 99 rfl ?_
    exact ev_ri rfl (by rw [if_pos h1]) rfl
  · refine ev_ift rfl rfl rfl (c_ge ((nI_leI (by decide) hn).mpr (by omega) : nI 3 ≤ nI n)) ?_
    refine ev_gos 99 rfl ?_
    by_cases h2 : n < 5
    · refine ev_iff rfl rfl rfl (d_ge (nI_lt3 hn (by decide) (by omega) : ¬ nI 5 ≤ nI n)) ?_
      refine ev_gos 99 rfl ?_
      exact ev_ri rfl (by rw [if_neg h1, if_pos h2]; rfl) rfl
    · refine ev_ift rfl rfl rfl (c_ge ((nI_leI (by decide) hn).mpr (by omega) : nI 5 ≤ nI n)) ?_
      refine ev_gos 99 rfl ?_
      refine ev_ri rfl ?_ rfl
      rw [if_neg h1, if_neg h2]
      show nI n / nI 3 + 1 = _
      rw [pk_div hn (by decide) (by decide), nI_1]
theorem e_lowest_loop (sc : Scr) (d : Nat) (h : AHp) (x : Int64) (hx : ¬ x = 0) : ∀ (n k : Nat), k + n = lo x → Ev sc (d + 1) m_M_lowest 4 [some (.long x), none, some (.int (nI k))] [.int (nI k), .long x] h (some (.int (nI (lo x)))) h := by
  obtain ⟨l1, l2, l3⟩ := lo_spec hx
  intro n
  induction n with
  | zero =>
    intro k hk
    have e : k = lo x := by omega
    subst e
    refine ev_cs rfl rfl rfl (e_holds sc d h x l1) ?_
    rw [l2]
    refine ev_ift rfl rfl rfl rfl ?_
    refine ev_gos 99 rfl ?_
    exact ev_ri rfl rfl rfl
  | succ n ih =>
    intro k hk
    refine ev_cs rfl rfl rfl (e_holds sc d h x (k := k) (by omega)) ?_
    rw [l3 k (by omega)]
    refine ev_iff rfl rfl rfl rfl ?_
    refine ev_gos 99 rfl ?_
    have h3 := ih (k + 1) (by omega)
    rw [← nI_1] at h3
    exact h3
theorem e_lowest (sc : Scr) (d : Nat) (h : AHp) {x : Int64} (hx : ¬ x = 0) : Ev sc (d + 1) m_M_lowest 0 (iniL 3 [.long x]) [] h (some (.int (nI (lo x)))) h := by
  refine ev_gos 99 rfl ?_
  exact e_lowest_loop sc d h x hx (lo x) 0 (Nat.zero_add _)
end
section
/-! the field: moves of sets of cells, growing, groups -/
def allS (N : Nat) : Int64 := mk64 (fun i => decide (i < N))
def lefS (W N : Nat) : Int64 := mk64 (fun i => decide (i < N) && decide (i % W = 0))
def rigS (W N : Nat) : Int64 := mk64 (fun i => decide (i < N) && decide (i % W = W - 1))
def mvS (W N : Nat) (x : Int64) : Nat → Int64
  | 1 => (x &&& (rigS W N ^^^ (-1))) <<< ((1 : Int32).toInt64 &&& 63)
  | 2 => (x <<< ((nI W).toInt64 &&& 63)) &&& allS N
  | 3 => ush (x &&& (lefS W N ^^^ (-1))) 1
  | 4 => ush x (nI W)
  | _ => 0
def grnS (W N : Nat) (x : Int64) : Int64 := (((x ||| mvS W N x 1) ||| mvS W N x 2) ||| mvS W N x 3) ||| mvS W N x 4
def stG (W N : Nat) (X g : Int64) : Int64 := grnS W N g &&& X
def itG (W N : Nat) (X : Int64) : Nat → Int64 → Int64
  | 0, g => g
  | n + 1, g => itG W N X n (stG W N X g)
theorem itG_fix {W N : Nat} {X g : Int64} (h : stG W N X g = g) : ∀ n, itG W N X n g = g
  | 0 => rfl
  | n + 1 => by
    show itG W N X n (stG W N X g) = g
    rw [h]
    exact itG_fix h n
/-- the group of the cells g within X -/
def grpS (W N : Nat) (X g : Int64) : Int64 := itG W N X 49 (g &&& X)
def bit (c : Nat) : Int64 := (1 : Int64) <<< ((nI c).toInt64 &&& 63)
theorem bs_bitc {k : Nat} (hk : k < 64) {i : Nat} (hi : i < 64) : bs (bit k) i = decide (i = k) := bs_bit hk hi
/-- the group that begins lowest -/
def fgS (W N : Nat) (X : Int64) : Int64 := grpS W N X (X &&& -X)
/-! over the groups, from the lowest on -/
def gfd {α : Type} (W N : Nat) (f : α → Int64 → α) : Nat → Int64 → α → α
  | 0, _, a => a
  | n + 1, X, a => bif decide (X = 0) then a else gfd W N f n (X &&& (fgS W N X ^^^ (-1))) (f a (fgS W N X))
theorem gfd_0 {α : Type} (W N : Nat) (f : α → Int64 → α) (n : Nat) (a : α) : gfd W N f n 0 a = a := by
  cases n <;> rfl
theorem gfd_s {α : Type} {W N : Nat} {f : α → Int64 → α} {n : Nat} {X : Int64} {a : α} (h : ¬ X = 0) : gfd W N f (n + 1) X a = gfd W N f n (X &&& (fgS W N X ^^^ (-1))) (f a (fgS W N X)) := by
  show (bif decide (X = 0) then a else _) = _
  rw [decide_eq_false h]
  rfl
def anyF (f : Nat → Bool) : Nat → Bool
  | 0 => false
  | n + 1 => anyF f n || f n
theorem anyF_iff {f : Nat → Bool} : ∀ {n : Nat}, anyF f n = true ↔ ∃ i, i < n ∧ f i = true
  | 0 => ⟨fun h => (by cases h), fun ⟨i, h, _⟩ => absurd h (Nat.not_lt_zero i)⟩
  | n + 1 => by
    show (anyF f n || f n) = true ↔ _
    rw [Bool.or_eq_true, anyF_iff]
    constructor
    · intro h
      rcases h with ⟨i, h1, h2⟩ | h
      · exact ⟨i, by omega, h2⟩
      · exact ⟨n, by omega, h⟩
    · intro ⟨i, h1, h2⟩
      by_cases e : i = n
      · subst e
        exact Or.inr h2
      · exact Or.inl ⟨i, by omega, h2⟩
theorem anyF_false {f : Nat → Bool} {n : Nat} (h : ∀ i, i < n → f i = false) : anyF f n = false := by
  cases e : anyF f n with
  | false => rfl
  | true =>
    obtain ⟨i, h1, h2⟩ := anyF_iff.mp e
    rw [h i h1] at h2
    cases h2
def grpN (W N : Nat) (X : Int64) : Nat := gfd W N (fun a _ => a + 1) 49 X 0
def cntS (W N : Nat) (X : Int64) : Nat := gfd W N (fun a g => a + cntd (pop g)) 49 X 0
def bigF (a : Int32 × Nat) (g : Int64) : Int32 × Nat := if a.2 < pop g then (nI (lo g), pop g) else a
def bigS (W N : Nat) (X : Int64) : Int32 := (gfd W N bigF 49 X (-1, 0)).1
def isSh (sh : Nat → Int64) (g : Int64) : Bool := anyF (fun j => decide (sh j = g)) 245
def frgS (W N : Nat) (sh : Nat → Int64) (X : Int64) : Nat := gfd W N (fun a g => a + (bif isSh sh g then 0 else 1)) 49 X 0
end
section
/-! the class's static methods; Land -/
theorem c49 {k : Nat} (h : k < 49) : k < 2 ^ 31 := by omega
theorem e_has (sc : Scr) (d : Nat) (h : AHp) (x : Int64) {k : Nat} (hk : k < 49) : Ev sc d m_C_has 0 (iniL 3 [.long x, .int (nI k)]) [] h (some (.int (b01 (bs x k)))) h := by
  refine ev_gos 99 rfl ?_
  refine ev_iff rfl rfl rfl (j_lt (nI_pos (c49 hk))) ?_
  refine ev_gos 99 rfl ?_
  refine ev_iff rfl rfl rfl (d_ge (nI_lt3 (c49 hk) (by decide) (by omega) : ¬ nI 49 ≤ nI k)) ?_
  refine ev_gos 99 rfl ?_
  have e := bs_has x (k := k) (by omega)
  cases hb : bs x k with
  | false =>
    rw [hb] at e
    refine ev_ift rfl rfl rfl (i_eq (lc_eq.mpr e)) ?_
    refine ev_gos 99 rfl ?_
    exact ev_rz rfl (Or.inl rfl) rfl rfl
  | true =>
    rw [hb] at e
    refine ev_iff rfl rfl rfl (j_eq (fun z => absurd (e.symm.trans (lc_eq.mp z)) (by decide))) ?_
    refine ev_gos 99 rfl ?_
    exact ev_rz rfl (Or.inr rfl) rfl rfl
theorem e_leastOf (sc : Scr) (d : Nat) (h : AHp) {x : Int64} (hx : ¬ x = 0) : Ev sc (d + 1) m_C_leastOf 0 (iniL 2 [.long x]) [] h (some (.int (nI (lo x)))) h := by
  refine ev_gos 99 rfl ?_
  refine ev_ift rfl rfl rfl (i_ne (fun z => hx (lc_eq.mp z))) ?_
  refine ev_gos 99 rfl ?_
  refine ev_cs rfl rfl rfl (e_bitCountL sc d h ((x &&& -x) - 1)) ?_
  exact ev_ri rfl (by rw [low_num hx]) rfl
abbrev Lnd (xw xh xp tw : Int32) (al le re rk : Int64) (pk ps : Nat) : ACell := oI 1 [.int xw, .int xh, .int xp, .int tw, .long al, .long le, .long re, .long rk, .ref pk, .ref ps]
section LND
variable {sc : Scr} {d p pk ps W N : Nat} {h : AHp} {xw xh xp tw : Int32} {al le re rk : Int64}
theorem e_cells (hL : h[p]? = some (Lnd xw xh xp tw al le re rk pk ps)) : Ev sc d m_L_cells 0 (iniL 1 [.ref p]) [] h (some (.int (xw * xh))) h := by
  repeat (first | refine ev_gos 99 rfl ?_ | refine ev_gf2 rfl rfl rfl rfl ?_ | refine ev_gf2 rfl rfl (by with_reducible assumption) rfl ?_)
  exact ev_ri rfl rfl rfl
theorem e_moved (hL : h[p]? = some (Lnd xw xh xp tw al le re rk pk ps)) (hw : xw = nI W) (ha : al = allS N) (hl : le = lefS W N) (hr : re = rigS W N) (x : Int64) {k : Nat} (h1 : 1 ≤ k) (h4 : k ≤ 4) : Ev sc d m_L_moved 0 (iniL 4 [.ref p, .long x, .int (nI k)]) [] h (some (.long (mvS W N x k))) h := by
  subst hw; subst ha; subst hl; subst hr
  repeat (first | refine ev_gos 99 rfl ?_ | refine ev_gf2 rfl rfl rfl rfl ?_ | refine ev_gf2 rfl rfl (by with_reducible assumption) rfl ?_)
  rcases (show k = 1 ∨ k = 2 ∨ k = 3 ∨ k = 4 by omega) with rfl | rfl | rfl | rfl
  · refine ev_sw rfl rfl (rfl : _ = some 32) ?_
    repeat (first | refine ev_gos 99 rfl ?_ | refine ev_gf2 rfl rfl rfl rfl ?_ | refine ev_gf2 rfl rfl (by with_reducible assumption) rfl ?_)
    exact ev_rl rfl rfl rfl
  · refine ev_sw rfl rfl (rfl : _ = some 45) ?_
    repeat (first | refine ev_gos 99 rfl ?_ | refine ev_gf2 rfl rfl rfl rfl ?_ | refine ev_gf2 rfl rfl (by with_reducible assumption) rfl ?_)
    exact ev_rl rfl rfl rfl
  · refine ev_sw rfl rfl (rfl : _ = some 57) ?_
    repeat (first | refine ev_gos 99 rfl ?_ | refine ev_gf2 rfl rfl rfl rfl ?_ | refine ev_gf2 rfl rfl (by with_reducible assumption) rfl ?_)
    exact ev_rl rfl rfl rfl
  · refine ev_sw rfl rfl (rfl : _ = some 70) ?_
    repeat (first | refine ev_gos 99 rfl ?_ | refine ev_gf2 rfl rfl rfl rfl ?_ | refine ev_gf2 rfl rfl (by with_reducible assumption) rfl ?_)
    exact ev_rl rfl rfl rfl
theorem e_grown (hL : h[p]? = some (Lnd xw xh xp tw al le re rk pk ps)) (hw : xw = nI W) (ha : al = allS N) (hl : le = lefS W N) (hr : re = rigS W N) (x : Int64) : Ev sc (d + 1) m_L_grown 0 (iniL 3 [.ref p, .long x]) [] h (some (.long (grnS W N x))) h := by
  repeat (first | refine ev_gos 99 rfl ?_ | refine ev_gf2 rfl rfl rfl rfl ?_ | refine ev_gf2 rfl rfl (by with_reducible assumption) rfl ?_)
  refine ev_cv rfl rfl hL (e_moved hL hw ha hl hr x (k := 1) (by decide) (by decide)) ?_
  repeat (first | refine ev_gos 99 rfl ?_ | refine ev_gf2 rfl rfl rfl rfl ?_ | refine ev_gf2 rfl rfl (by with_reducible assumption) rfl ?_)
  refine ev_cv rfl rfl hL (e_moved hL hw ha hl hr x (k := 2) (by decide) (by decide)) ?_
  repeat (first | refine ev_gos 99 rfl ?_ | refine ev_gf2 rfl rfl rfl rfl ?_ | refine ev_gf2 rfl rfl (by with_reducible assumption) rfl ?_)
  refine ev_cv rfl rfl hL (e_moved hL hw ha hl hr x (k := 3) (by decide) (by decide)) ?_
  repeat (first | refine ev_gos 99 rfl ?_ | refine ev_gf2 rfl rfl rfl rfl ?_ | refine ev_gf2 rfl rfl (by with_reducible assumption) rfl ?_)
  refine ev_cv rfl rfl hL (e_moved hL hw ha hl hr x (k := 4) (by decide) (by decide)) ?_
  repeat (first | refine ev_gos 99 rfl ?_ | refine ev_gf2 rfl rfl rfl rfl ?_ | refine ev_gf2 rfl rfl (by with_reducible assumption) rfl ?_)
  exact ev_rl rfl rfl rfl
theorem e_groupOf_loop (hL : h[p]? = some (Lnd xw xh xp tw al le re rk pk ps)) (hw : xw = nI W) (ha : al = allS N) (hl : le = lefS W N) (hr : re = rigS W N) (X st : Int64) : ∀ (n i : Nat) (g : Int64), i + n = 49 → Ev sc (d + 2) m_L_groupOf 12 [some (.ref p), some (.long st), none, some (.long X), none, some (.long g), none, some (.int (nI i)), none, none] [.int 49, .int (nI i)] h (some (.long (itG W N X n g))) h := by
  intro n
  induction n with
  | zero =>
    intro i g hi
    have e : i = 49 := by omega
    subst e
    refine ev_ift rfl rfl rfl (c_ge (by decide : (49 : Int32) ≤ nI 49)) ?_
    repeat (first | refine ev_gos 99 rfl ?_ | refine ev_gf2 rfl rfl rfl rfl ?_ | refine ev_gf2 rfl rfl (by with_reducible assumption) rfl ?_)
    exact ev_rl rfl rfl rfl
  | succ n ih =>
    intro i g hi
    refine ev_iff rfl rfl rfl (d_ge (nI_lt3 (c49 (by omega)) (by decide) (by omega) : ¬ nI 49 ≤ nI i)) ?_
    repeat (first | refine ev_gos 99 rfl ?_ | refine ev_gf2 rfl rfl rfl rfl ?_ | refine ev_gf2 rfl rfl (by with_reducible assumption) rfl ?_)
    refine ev_cv rfl rfl hL (e_grown hL hw ha hl hr g) ?_
    repeat (first | refine ev_gos 99 rfl ?_ | refine ev_gf2 rfl rfl rfl rfl ?_ | refine ev_gf2 rfl rfl (by with_reducible assumption) rfl ?_)
    by_cases hf : stG W N X g = g
    · refine ev_iff rfl rfl rfl (j_ne (lc_eq.mpr hf)) ?_
      repeat (first | refine ev_gos 99 rfl ?_ | refine ev_gf2 rfl rfl rfl rfl ?_ | refine ev_gf2 rfl rfl (by with_reducible assumption) rfl ?_)
      exact ev_rl rfl (itG_fix hf (n + 1)).symm rfl
    · refine ev_ift rfl rfl rfl (i_ne (fun z => hf (lc_eq.mp z))) ?_
      repeat (first | refine ev_gos 99 rfl ?_ | refine ev_gf2 rfl rfl rfl rfl ?_ | refine ev_gf2 rfl rfl (by with_reducible assumption) rfl ?_)
      have h3 := ih (i + 1) (stG W N X g) (by omega)
      rw [← nI_1] at h3
      exact ev_wk2 h3 rfl ⟨rfl, rfl, rfl, rfl, rfl, trivial⟩
theorem e_groupOf (hL : h[p]? = some (Lnd xw xh xp tw al le re rk pk ps)) (hw : xw = nI W) (ha : al = allS N) (hl : le = lefS W N) (hr : re = rigS W N) (X st : Int64) : Ev sc (d + 2) m_L_groupOf 0 (iniL 10 [.ref p, .long st, .long X]) [] h (some (.long (grpS W N X st))) h := by
  repeat (first | refine ev_gos 99 rfl ?_ | refine ev_gf2 rfl rfl rfl rfl ?_ | refine ev_gf2 rfl rfl (by with_reducible assumption) rfl ?_)
  exact e_groupOf_loop hL hw ha hl hr X st 49 0 (st &&& X) rfl
theorem e_firstGroup (hL : h[p]? = some (Lnd xw xh xp tw al le re rk pk ps)) (hw : xw = nI W) (ha : al = allS N) (hl : le = lefS W N) (hr : re = rigS W N) (X : Int64) : Ev sc (d + 3) m_L_firstGroup 0 (iniL 3 [.ref p, .long X]) [] h (some (.long (fgS W N X))) h := by
  repeat (first | refine ev_gos 99 rfl ?_ | refine ev_gf2 rfl rfl rfl rfl ?_ | refine ev_gf2 rfl rfl (by with_reducible assumption) rfl ?_)
  refine ev_cv rfl rfl hL (e_groupOf hL hw ha hl hr X (X &&& -X)) ?_
  repeat (first | refine ev_gos 99 rfl ?_ | refine ev_gf2 rfl rfl rfl rfl ?_ | refine ev_gf2 rfl rfl (by with_reducible assumption) rfl ?_)
  exact ev_rl rfl rfl rfl
end LND
end
section
/-! Land: over the groups -/
section LND2
variable {sc : Scr} {d p pk ps W N : Nat} {h : AHp} {xw xh xp tw : Int32} {al le re rk : Int64} {sh : Nat → Int64}
theorem e_countedAs {n : Nat} (hn : n < 2 ^ 31) : Ev sc d m_L_countedAs 0 (iniL 2 [.ref p, .int (nI n)]) [] h (some (.int (nI (cntd n)))) h := by
  refine ev_gos 99 rfl ?_
  unfold cntd
  by_cases h1 : n < 3
  · refine ev_iff rfl rfl rfl (d_gt (nI_nlt (a := 2) (b := n) (by omega) (by decide) : ¬ nI 2 < nI n)) ?_
    refine ev_gos 99 rfl ?_
    exact ev_ri rfl (by rw [if_pos h1]) rfl
  · refine ev_ift rfl rfl rfl (c_gt ((nI_ltI (by decide) hn).mpr (by omega) : nI 2 < nI n)) ?_
    refine ev_gos 99 rfl ?_
    by_cases h2 : n < 5
    · refine ev_iff rfl rfl rfl (d_gt (fun z => absurd ((nI_ltI (a := 4) (by decide) hn).mp z) (by omega) : ¬ nI 4 < nI n)) ?_
      refine ev_gos 99 rfl ?_
      exact ev_ri rfl (by rw [if_neg h1, if_pos h2]; rfl) rfl
    · refine ev_ift rfl rfl rfl (c_gt ((nI_ltI (by decide) hn).mpr (by omega) : nI 4 < nI n)) ?_
      refine ev_gos 99 rfl ?_
      refine ev_ri rfl ?_ rfl
      rw [if_neg h1, if_neg h2]
      show nI n / nI 3 + 1 = _
      rw [pk_div hn (by decide) (by decide), nI_1]
theorem e_groupsIn_loop (hL : h[p]? = some (Lnd xw xh xp tw al le re rk pk ps)) (hw : xw = nI W) (ha : al = allS N) (hl : le = lefS W N) (hr : re = rigS W N) (X0 : Int64) : ∀ (n i : Nat) (X : Int64), i + n = 49 → Ev sc (d + 4) m_L_groupsIn 9 [some (.ref p), some (.long X0), none, some (.long X), none, some (.int (nI i))] [.int 49, .int (nI i)] h (some (.int (nI (gfd W N (fun a _ => a + 1) n X i)))) h := by
  intro n
  induction n with
  | zero =>
    intro i X hi
    have e : i = 49 := by omega
    subst e
    refine ev_ift rfl rfl rfl (c_ge (by decide : (49 : Int32) ≤ nI 49)) ?_
    repeat (first | refine ev_gos 99 rfl ?_ | refine ev_gf2 rfl rfl rfl rfl ?_ | refine ev_gf2 rfl rfl (by with_reducible assumption) rfl ?_)
    exact ev_ri rfl rfl rfl
  | succ n ih =>
    intro i X hi
    refine ev_iff rfl rfl rfl (d_ge (nI_lt3 (c49 (by omega)) (by decide) (by omega) : ¬ nI 49 ≤ nI i)) ?_
    repeat (first | refine ev_gos 99 rfl ?_ | refine ev_gf2 rfl rfl rfl rfl ?_ | refine ev_gf2 rfl rfl (by with_reducible assumption) rfl ?_)
    by_cases hX : X = 0
    · subst hX
      refine ev_ift rfl rfl rfl (i_eq (lc_eq.mpr rfl)) ?_
      repeat (first | refine ev_gos 99 rfl ?_ | refine ev_gf2 rfl rfl rfl rfl ?_ | refine ev_gf2 rfl rfl (by with_reducible assumption) rfl ?_)
      exact ev_ri rfl (by rw [gfd_0]) rfl
    · refine ev_iff rfl rfl rfl (j_eq (fun z => hX (lc_eq.mp z))) ?_
      repeat (first | refine ev_gos 99 rfl ?_ | refine ev_gf2 rfl rfl rfl rfl ?_ | refine ev_gf2 rfl rfl (by with_reducible assumption) rfl ?_)
      refine ev_cv rfl rfl hL (e_firstGroup hL hw ha hl hr X) ?_
      repeat (first | refine ev_gos 99 rfl ?_ | refine ev_gf2 rfl rfl rfl rfl ?_ | refine ev_gf2 rfl rfl (by with_reducible assumption) rfl ?_)
      rw [gfd_s hX]
      have h3 := ih (i + 1) (X &&& (fgS W N X ^^^ (-1))) (by omega)
      rw [← nI_1] at h3
      exact h3
theorem e_groupsIn (hL : h[p]? = some (Lnd xw xh xp tw al le re rk pk ps)) (hw : xw = nI W) (ha : al = allS N) (hl : le = lefS W N) (hr : re = rigS W N) (X : Int64) : Ev sc (d + 4) m_L_groupsIn 0 (iniL 6 [.ref p, .long X]) [] h (some (.int (nI (grpN W N X)))) h := by
  repeat (first | refine ev_gos 99 rfl ?_ | refine ev_gf2 rfl rfl rfl rfl ?_ | refine ev_gf2 rfl rfl (by with_reducible assumption) rfl ?_)
  exact e_groupsIn_loop hL hw ha hl hr X 49 0 X rfl
theorem e_countOf_loop (hL : h[p]? = some (Lnd xw xh xp tw al le re rk pk ps)) (hw : xw = nI W) (ha : al = allS N) (hl : le = lefS W N) (hr : re = rigS W N) (X0 : Int64) : ∀ (n i a : Nat) (X : Int64), i + n = 49 → Ev sc (d + 4) m_L_countOf 12 [some (.ref p), some (.long X0), none, some (.long X), none, some (.int (nI a)), some (.int (nI i)), none, none] [.int 49, .int (nI i)] h (some (.int (nI (gfd W N (fun a g => a + cntd (pop g)) n X a)))) h := by
  intro n
  induction n with
  | zero =>
    intro i a X hi
    have e : i = 49 := by omega
    subst e
    refine ev_ift rfl rfl rfl (c_ge (by decide : (49 : Int32) ≤ nI 49)) ?_
    repeat (first | refine ev_gos 99 rfl ?_ | refine ev_gf2 rfl rfl rfl rfl ?_ | refine ev_gf2 rfl rfl (by with_reducible assumption) rfl ?_)
    exact ev_ri rfl rfl rfl
  | succ n ih =>
    intro i a X hi
    refine ev_iff rfl rfl rfl (d_ge (nI_lt3 (c49 (by omega)) (by decide) (by omega) : ¬ nI 49 ≤ nI i)) ?_
    repeat (first | refine ev_gos 99 rfl ?_ | refine ev_gf2 rfl rfl rfl rfl ?_ | refine ev_gf2 rfl rfl (by with_reducible assumption) rfl ?_)
    by_cases hX : X = 0
    · subst hX
      refine ev_ift rfl rfl rfl (i_eq (lc_eq.mpr rfl)) ?_
      repeat (first | refine ev_gos 99 rfl ?_ | refine ev_gf2 rfl rfl rfl rfl ?_ | refine ev_gf2 rfl rfl (by with_reducible assumption) rfl ?_)
      exact ev_ri rfl (by rw [gfd_0]) rfl
    · refine ev_iff rfl rfl rfl (j_eq (fun z => hX (lc_eq.mp z))) ?_
      repeat (first | refine ev_gos 99 rfl ?_ | refine ev_gf2 rfl rfl rfl rfl ?_ | refine ev_gf2 rfl rfl (by with_reducible assumption) rfl ?_)
      refine ev_cv rfl rfl hL (e_firstGroup hL hw ha hl hr X) ?_
      repeat (first | refine ev_gos 99 rfl ?_ | refine ev_gf2 rfl rfl rfl rfl ?_ | refine ev_gf2 rfl rfl (by with_reducible assumption) rfl ?_)
      refine ev_cs rfl rfl rfl (e_bitCountL sc _ h _) ?_
      refine ev_cv rfl rfl hL (e_countedAs (n := pop (fgS W N X)) (by have := pop_le (fgS W N X); omega)) ?_
      repeat (first | refine ev_gos 99 rfl ?_ | refine ev_gf2 rfl rfl rfl rfl ?_ | refine ev_gf2 rfl rfl (by with_reducible assumption) rfl ?_)
      rw [gfd_s hX]
      have h3 := ih (i + 1) (a + cntd (pop (fgS W N X))) (X &&& (fgS W N X ^^^ (-1))) (by omega)
      rw [← nI_1, ← nI_add] at h3
      exact ev_wk2 h3 rfl ⟨rfl, rfl, rfl, rfl, rfl, trivial⟩
theorem e_countOf (hL : h[p]? = some (Lnd xw xh xp tw al le re rk pk ps)) (hw : xw = nI W) (ha : al = allS N) (hl : le = lefS W N) (hr : re = rigS W N) (X : Int64) : Ev sc (d + 4) m_L_countOf 0 (iniL 9 [.ref p, .long X]) [] h (some (.int (nI (cntS W N X)))) h := by
  repeat (first | refine ev_gos 99 rfl ?_ | refine ev_gf2 rfl rfl rfl rfl ?_ | refine ev_gf2 rfl rfl (by with_reducible assumption) rfl ?_)
  exact e_countOf_loop hL hw ha hl hr X 49 0 0 X rfl
theorem e_isShape_loop (hL : h[p]? = some (Lnd xw xh xp tw al le re rk pk ps)) (hs : h[ps]? = some (aJ 245 sh)) (g : Int64) : ∀ (n i : Nat), i + n = 245 → (∀ j, j < i → ¬ sh j = g) → Ev sc d m_L_isShape 7 [some (.ref p), some (.long g), none, some (.int (nI i))] [.ref ps, .int (nI i)] h (some (.int (b01 (isSh sh g)))) h := by
  intro n
  induction n with
  | zero =>
    intro i hi hj
    have e : i = 245 := by omega
    subst e
    refine ev_len rfl (Or.inr (rd_of hs)) ?_
    refine ev_ift rfl rfl rfl (c_ge (by decide : Int32.ofNat 245 ≤ nI 245)) ?_
    repeat (first | refine ev_gos 99 rfl ?_ | refine ev_gf2 rfl rfl rfl rfl ?_ | refine ev_gf2 rfl rfl (by with_reducible assumption) rfl ?_)
    refine ev_rz rfl (Or.inl rfl) ?_ rfl
    unfold isSh
    rw [anyF_false (fun j hj2 => decide_eq_false (hj j hj2))]
    rfl
  | succ n ih =>
    intro i hi hj
    refine ev_len rfl (Or.inr (rd_of hs)) ?_
    refine ev_iff rfl rfl rfl (d_ge (nI_lt3 (by omega) (by decide) (by omega) : ¬ nI 245 ≤ nI i)) ?_
    repeat (first | refine ev_gos 99 rfl ?_ | refine ev_gf2 rfl rfl rfl rfl ?_ | refine ev_gf2 rfl rfl (by with_reducible assumption) rfl ?_)
    refine ev_la rfl hs (inB_of (by rw [nI_toInt (by omega)]; omega) (by rw [nI_toInt (by omega)]; omega)) ?_
    rw [nI_clamp (by omega)]
    repeat (first | refine ev_gos 99 rfl ?_ | refine ev_gf2 rfl rfl rfl rfl ?_ | refine ev_gf2 rfl rfl (by with_reducible assumption) rfl ?_)
    by_cases e : sh i = g
    · refine ev_iff rfl rfl rfl (j_ne (lc_eq.mpr e)) ?_
      repeat (first | refine ev_gos 99 rfl ?_ | refine ev_gf2 rfl rfl rfl rfl ?_ | refine ev_gf2 rfl rfl (by with_reducible assumption) rfl ?_)
      refine ev_rz rfl (Or.inr rfl) ?_ rfl
      unfold isSh
      rw [anyF_iff.mpr ⟨i, by omega, decide_eq_true e⟩]
      rfl
    · refine ev_ift rfl rfl rfl (i_ne (fun z => e (lc_eq.mp z))) ?_
      repeat (first | refine ev_gos 99 rfl ?_ | refine ev_gf2 rfl rfl rfl rfl ?_ | refine ev_gf2 rfl rfl (by with_reducible assumption) rfl ?_)
      have h3 := ih (i + 1) (by omega) (fun j hj2 => by
        by_cases e2 : j = i
        · subst e2; exact e
        · exact hj j (by omega))
      rw [← nI_1] at h3
      exact h3
theorem e_isShape (hL : h[p]? = some (Lnd xw xh xp tw al le re rk pk ps)) (hs : h[ps]? = some (aJ 245 sh)) (g : Int64) : Ev sc d m_L_isShape 0 (iniL 4 [.ref p, .long g]) [] h (some (.int (b01 (isSh sh g)))) h := by
  repeat (first | refine ev_gos 99 rfl ?_ | refine ev_gf2 rfl rfl rfl rfl ?_ | refine ev_gf2 rfl rfl (by with_reducible assumption) rfl ?_)
  exact e_isShape_loop hL hs g 245 0 rfl (fun j hj => by omega)
theorem e_forgedIn_loop (hL : h[p]? = some (Lnd xw xh xp tw al le re rk pk ps)) (hs : h[ps]? = some (aJ 245 sh)) (hw : xw = nI W) (ha : al = allS N) (hl : le = lefS W N) (hr : re = rigS W N) (X0 : Int64) : ∀ (n i a : Nat) (X : Int64), i + n = 49 → Ev sc (d + 4) m_L_forgedIn 12 [some (.ref p), some (.long X0), none, some (.long X), none, some (.int (nI a)), some (.int (nI i)), none, none] [.int 49, .int (nI i)] h (some (.int (nI (gfd W N (fun a g => a + (bif isSh sh g then 0 else 1)) n X a)))) h := by
  intro n
  induction n with
  | zero =>
    intro i a X hi
    have e : i = 49 := by omega
    subst e
    refine ev_ift rfl rfl rfl (c_ge (by decide : (49 : Int32) ≤ nI 49)) ?_
    repeat (first | refine ev_gos 99 rfl ?_ | refine ev_gf2 rfl rfl rfl rfl ?_ | refine ev_gf2 rfl rfl (by with_reducible assumption) rfl ?_)
    exact ev_ri rfl rfl rfl
  | succ n ih =>
    intro i a X hi
    refine ev_iff rfl rfl rfl (d_ge (nI_lt3 (c49 (by omega)) (by decide) (by omega) : ¬ nI 49 ≤ nI i)) ?_
    repeat (first | refine ev_gos 99 rfl ?_ | refine ev_gf2 rfl rfl rfl rfl ?_ | refine ev_gf2 rfl rfl (by with_reducible assumption) rfl ?_)
    by_cases hX : X = 0
    · subst hX
      refine ev_ift rfl rfl rfl (i_eq (lc_eq.mpr rfl)) ?_
      repeat (first | refine ev_gos 99 rfl ?_ | refine ev_gf2 rfl rfl rfl rfl ?_ | refine ev_gf2 rfl rfl (by with_reducible assumption) rfl ?_)
      exact ev_ri rfl (by rw [gfd_0]) rfl
    · refine ev_iff rfl rfl rfl (j_eq (fun z => hX (lc_eq.mp z))) ?_
      repeat (first | refine ev_gos 99 rfl ?_ | refine ev_gf2 rfl rfl rfl rfl ?_ | refine ev_gf2 rfl rfl (by with_reducible assumption) rfl ?_)
      refine ev_cv rfl rfl hL (e_firstGroup hL hw ha hl hr X) ?_
      repeat (first | refine ev_gos 99 rfl ?_ | refine ev_gf2 rfl rfl rfl rfl ?_ | refine ev_gf2 rfl rfl (by with_reducible assumption) rfl ?_)
      refine ev_cv rfl rfl hL (e_isShape hL hs _) ?_
      rw [gfd_s hX]
      cases hS : isSh sh (fgS W N X) with
      | true =>
        refine ev_ift rfl rfl rfl rfl ?_
        repeat (first | refine ev_gos 99 rfl ?_ | refine ev_gf2 rfl rfl rfl rfl ?_ | refine ev_gf2 rfl rfl (by with_reducible assumption) rfl ?_)
        have h3 := ih (i + 1) a (X &&& (fgS W N X ^^^ (-1))) (by omega)
        rw [← nI_1] at h3
        exact ev_wk2 h3 rfl ⟨rfl, rfl, rfl, rfl, rfl, trivial⟩
      | false =>
        refine ev_iff rfl rfl rfl rfl ?_
        repeat (first | refine ev_gos 99 rfl ?_ | refine ev_gf2 rfl rfl rfl rfl ?_ | refine ev_gf2 rfl rfl (by with_reducible assumption) rfl ?_)
        have h3 := ih (i + 1) (a + 1) (X &&& (fgS W N X ^^^ (-1))) (by omega)
        rw [← nI_1, ← nI_1] at h3
        exact ev_wk2 h3 rfl ⟨rfl, rfl, rfl, rfl, rfl, trivial⟩
theorem e_forgedIn (hL : h[p]? = some (Lnd xw xh xp tw al le re rk pk ps)) (hs : h[ps]? = some (aJ 245 sh)) (hw : xw = nI W) (ha : al = allS N) (hl : le = lefS W N) (hr : re = rigS W N) (X : Int64) : Ev sc (d + 4) m_L_forgedIn 0 (iniL 9 [.ref p, .long X]) [] h (some (.int (nI (frgS W N sh X)))) h := by
  repeat (first | refine ev_gos 99 rfl ?_ | refine ev_gf2 rfl rfl rfl rfl ?_ | refine ev_gf2 rfl rfl (by with_reducible assumption) rfl ?_)
  exact e_forgedIn_loop hL hs hw ha hl hr X 49 0 0 X rfl
theorem e_greatestIn_loop (hL : h[p]? = some (Lnd xw xh xp tw al le re rk pk ps)) (hw : xw = nI W) (ha : al = allS N) (hl : le = lefS W N) (hr : re = rigS W N) (hne : ∀ X : Int64, ¬ X = 0 → ¬ fgS W N X = 0) (X0 : Int64) : ∀ (n i : Nat) (a : Int32 × Nat) (X : Int64), i + n = 49 → a.2 ≤ 64 → Ev sc (d + 4) m_L_greatestIn 15 [some (.ref p), some (.long X0), none, some (.long X), none, some (.int a.1), some (.int (nI a.2)), some (.int (nI i)), none, none] [.int 49, .int (nI i)] h (some (.int (gfd W N bigF n X a).1)) h := by
  intro n
  induction n with
  | zero =>
    intro i a X hi _
    have e : i = 49 := by omega
    subst e
    refine ev_ift rfl rfl rfl (c_ge (by decide : (49 : Int32) ≤ nI 49)) ?_
    repeat (first | refine ev_gos 99 rfl ?_ | refine ev_gf2 rfl rfl rfl rfl ?_ | refine ev_gf2 rfl rfl (by with_reducible assumption) rfl ?_)
    exact ev_ri rfl rfl rfl
  | succ n ih =>
    intro i a X hi ha2
    refine ev_iff rfl rfl rfl (d_ge (nI_lt3 (c49 (by omega)) (by decide) (by omega) : ¬ nI 49 ≤ nI i)) ?_
    repeat (first | refine ev_gos 99 rfl ?_ | refine ev_gf2 rfl rfl rfl rfl ?_ | refine ev_gf2 rfl rfl (by with_reducible assumption) rfl ?_)
    by_cases hX : X = 0
    · subst hX
      refine ev_ift rfl rfl rfl (i_eq (lc_eq.mpr rfl)) ?_
      repeat (first | refine ev_gos 99 rfl ?_ | refine ev_gf2 rfl rfl rfl rfl ?_ | refine ev_gf2 rfl rfl (by with_reducible assumption) rfl ?_)
      exact ev_ri rfl (by rw [gfd_0]) rfl
    · refine ev_iff rfl rfl rfl (j_eq (fun z => hX (lc_eq.mp z))) ?_
      repeat (first | refine ev_gos 99 rfl ?_ | refine ev_gf2 rfl rfl rfl rfl ?_ | refine ev_gf2 rfl rfl (by with_reducible assumption) rfl ?_)
      refine ev_cv rfl rfl hL (e_firstGroup hL hw ha hl hr X) ?_
      repeat (first | refine ev_gos 99 rfl ?_ | refine ev_gf2 rfl rfl rfl rfl ?_ | refine ev_gf2 rfl rfl (by with_reducible assumption) rfl ?_)
      refine ev_cs rfl rfl rfl (e_bitCountL sc _ h _) ?_
      repeat (first | refine ev_gos 99 rfl ?_ | refine ev_gf2 rfl rfl rfl rfl ?_ | refine ev_gf2 rfl rfl (by with_reducible assumption) rfl ?_)
      rw [gfd_s hX]
      have hp := pop_le (fgS W N X)
      unfold bigF
      by_cases hb : a.2 < pop (fgS W N X)
      · rw [if_pos hb]
        refine ev_iff rfl rfl rfl (d_le (nI_lt3 (by omega) (by omega) (by omega))) ?_
        repeat (first | refine ev_gos 99 rfl ?_ | refine ev_gf2 rfl rfl rfl rfl ?_ | refine ev_gf2 rfl rfl (by with_reducible assumption) rfl ?_)
        refine ev_cs rfl rfl rfl (e_leastOf sc _ h (hne X hX)) ?_
        repeat (first | refine ev_gos 99 rfl ?_ | refine ev_gf2 rfl rfl rfl rfl ?_ | refine ev_gf2 rfl rfl (by with_reducible assumption) rfl ?_)
        refine ev_cs rfl rfl rfl (e_bitCountL sc _ h _) ?_
        repeat (first | refine ev_gos 99 rfl ?_ | refine ev_gf2 rfl rfl rfl rfl ?_ | refine ev_gf2 rfl rfl (by with_reducible assumption) rfl ?_)
        have h3 := ih (i + 1) (nI (lo (fgS W N X)), pop (fgS W N X)) (X &&& (fgS W N X ^^^ (-1))) (by omega) hp
        rw [← nI_1] at h3
        exact ev_wk2 h3 rfl ⟨rfl, rfl, rfl, rfl, rfl, rfl, trivial⟩
      · rw [if_neg hb]
        refine ev_ift rfl rfl rfl (c_le ((nI_leI (by omega) (by omega)).mpr (by omega))) ?_
        repeat (first | refine ev_gos 99 rfl ?_ | refine ev_gf2 rfl rfl rfl rfl ?_ | refine ev_gf2 rfl rfl (by with_reducible assumption) rfl ?_)
        have h3 := ih (i + 1) a (X &&& (fgS W N X ^^^ (-1))) (by omega) ha2
        rw [← nI_1] at h3
        exact ev_wk2 h3 rfl ⟨rfl, rfl, rfl, rfl, rfl, rfl, trivial⟩
theorem e_greatestIn (hL : h[p]? = some (Lnd xw xh xp tw al le re rk pk ps)) (hw : xw = nI W) (ha : al = allS N) (hl : le = lefS W N) (hr : re = rigS W N) (hne : ∀ X : Int64, ¬ X = 0 → ¬ fgS W N X = 0) (X : Int64) : Ev sc (d + 4) m_L_greatestIn 0 (iniL 10 [.ref p, .long X]) [] h (some (.int (bigS W N X))) h := by
  repeat (first | refine ev_gos 99 rfl ?_ | refine ev_gf2 rfl rfl rfl rfl ?_ | refine ev_gf2 rfl rfl (by with_reducible assumption) rfl ?_)
  exact e_greatestIn_loop hL hw ha hl hr hne X 49 0 (-1, 0) X rfl (by decide)
end LND2
end
section
/-! Land: what is asked of it -/
def rowS (W y : Nat) : Int64 := mk64 (fun i => decide (W * y ≤ i) && decide (i < W * y + W))
theorem bitm1 {k : Nat} (hk : k < 64) {i : Nat} (hi : i < 64) : bs (bit k - 1) i = decide (i < k) := by
  have hne : ¬ bit k = 0 := by
    intro e
    have := bs_bitc hk hk
    rw [e, bs_0] at this
    simp at this
  have hl : lo (bit k) = k := lo_of hk (by rw [bs_bitc hk hk]; simp) (fun q hq => by rw [bs_bitc hk (by omega)]; simp; omega)
  rw [sub1_bs hne hi, hl, bs_bitc hk hi]
  by_cases a : i < k
  · simp [a]
  · by_cases b : i = k
    · simp [b]
    · simp [a, b]
theorem row_eq {W y : Nat} (h : W * y + W ≤ 63) : (bit W - 1) <<< ((nI W * nI y).toInt64 &&& 63) = rowS W y := by
  apply mk_eq
  intro i hi
  rw [pk_mul, bs_shl _ (by omega) hi]
  by_cases a : W * y ≤ i
  · rw [bitm1 (by omega) (by omega)]
    simp [a]
    omega
  · simp [a]
def absd (a b : Nat) : Nat := if a ≤ b then b - a else a - b
def dist (W a b : Nat) : Nat := absd (a % W) (b % W) + absd (a / W) (b / W)
theorem abs_nI {a b : Nat} (ha : a < 2 ^ 30) (hb : b < 2 ^ 30) : (if (0 : Int32) ≤ nI a - nI b then nI a - nI b else 0 - (nI a - nI b)) = nI (absd a b) := by
  have e := pk_sub_toInt ha hb
  unfold absd
  by_cases h : a ≤ b
  · rw [if_pos h]
    by_cases h2 : a = b
    · subst h2
      rw [pk_sub (Nat.le_refl _), Nat.sub_self]
      rfl
    · rw [if_neg (by rw [Int32.le_iff_toInt_le, e]; show ¬ (0 : Int) ≤ _; omega)]
      rw [fa_eq, nI_toInt (by omega), fb_subI (by rw [e]; show _ ≤ (0 : Int) - _; omega) (by rw [e]; show (0 : Int) - _ < _; omega), e]
      show (0 : Int) - _ = _
      omega
  · rw [if_neg h, if_pos (by rw [Int32.le_iff_toInt_le, e]; show (0 : Int) ≤ _; omega), pk_sub (by omega)]
theorem nI_ne {a : Nat} (h0 : 0 < a) (h : a < 2 ^ 31) : ¬ nI a = 0 := nI_ne0 h0 h
def lim (k d : Nat) : Bool := decide (¬ ((limbs k >>> (nI d &&& 31)) &&& 1) = 0)
def dshp (W N : Nat) (rk : Int64) (k c : Nat) : Nat → Nat → Int64 → Int64
  | 0, _, g => if g &&& rk = 0 then g else 0
  | n + 1, d, g => bif lim k d then (if mvS W N (bit c) d = 0 then 0 else dshp W N rk k c n (d + 1) (g ||| mvS W N (bit c) d)) else dshp W N rk k c n (d + 1) g
/-- the shape that the class draws -/
def drwS (W N : Nat) (rk : Int64) (k c : Nat) : Int64 := dshp W N rk k c 4 1 (bit c)
section LND3
variable {sc : Scr} {d p pk ps W N : Nat} {h : AHp} {xw xh xp tw : Int32} {al le re rk : Int64} {sh : Nat → Int64}
theorem e_isRock (hL : h[p]? = some (Lnd xw xh xp tw al le re rk pk ps)) {k : Nat} (hk : k < 49) : Ev sc (d + 1) m_L_isRock 0 (iniL 2 [.ref p, .int (nI k)]) [] h (some (.int (b01 (bs rk k)))) h := by
  repeat (first | refine ev_gos 99 rfl ?_ | refine ev_gf2 rfl rfl rfl rfl ?_ | refine ev_gf2 rfl rfl (by with_reducible assumption) rfl ?_)
  refine ev_cs rfl rfl rfl (e_has sc d h rk hk) ?_
  exact ev_rz rfl (b01_or _) rfl rfl
theorem e_row (hL : h[p]? = some (Lnd xw xh xp tw al le re rk pk ps)) (hw : xw = nI W) {y : Nat} (hy : W * y + W ≤ 63) : Ev sc d m_L_row 0 (iniL 2 [.ref p, .int (nI y)]) [] h (some (.long (rowS W y))) h := by
  subst hw
  repeat (first | refine ev_gos 99 rfl ?_ | refine ev_gf2 rfl rfl rfl rfl ?_ | refine ev_gf2 rfl rfl (by with_reducible assumption) rfl ?_)
  exact ev_rl rfl (row_eq hy) rfl
theorem ev_id {sc : Scr} {d M pc nx a b : Nat} {v : Value} {L : Lcs} {S : Stk} {h h' : AHp} {r : Option Value} {c n : Nat} {x y : Int32} (hc : cAt M pc = some (.idiv, nx, a, b, v)) (hy : ¬ y = 0) (k : Ek sc d M nx L (.int (x / y) :: S) h r h' c n) : Ek sc d M pc L (.int y :: .int x :: S) h r h' c n := by
  refine ev_stp (pc' := nx) (L' := L) (S' := .int (x / y) :: S) ?_ k
  unfold stp
  simp only [hc]
  show aluS nx L (iiD (fun x y => x / y) (.int y :: .int x :: S)) = _
  unfold iiD
  have hb : (y == 0) = false := beq_eq_false_iff_ne.mpr hy
  simp only [hb]
  rfl
theorem ev_ire {sc : Scr} {d M pc nx a b : Nat} {v : Value} {L : Lcs} {S : Stk} {h h' : AHp} {r : Option Value} {c n : Nat} {x y : Int32} (hc : cAt M pc = some (.irem, nx, a, b, v)) (hy : ¬ y = 0) (k : Ek sc d M nx L (.int (x - x / y * y) :: S) h r h' c n) : Ek sc d M pc L (.int y :: .int x :: S) h r h' c n := by
  refine ev_stp (pc' := nx) (L' := L) (S' := .int (x - x / y * y) :: S) ?_ k
  unfold stp
  simp only [hc]
  show aluS nx L (iiD (fun x y => x - x / y * y) (.int y :: .int x :: S)) = _
  unfold iiD
  have hb : (y == 0) = false := beq_eq_false_iff_ne.mpr hy
  simp only [hb]
  rfl
theorem e_steps (hL : h[p]? = some (Lnd xw xh xp tw al le re rk pk ps)) (hw : xw = nI W) (hW : 1 ≤ W) (hW7 : W ≤ 7) {a b : Nat} (ha : a < 49) (hb : b < 49) : Ev sc d m_L_steps 0 (iniL 3 [.ref p, .int (nI a), .int (nI b)]) [] h (some (.int (nI (dist W a b)))) h := by
  subst hw
  have hz : ¬ nI W = 0 := nI_ne hW (by omega)
  repeat (first | refine ev_gos 99 rfl ?_ | refine ev_gf2 rfl rfl rfl rfl ?_ | refine ev_gf2 rfl rfl (by with_reducible assumption) rfl ?_)
  refine ev_ift rfl rfl rfl (c_ge ((nI_leI (by decide) (by omega)).mpr hW : nI 1 ≤ nI W)) ?_
  repeat (first | refine ev_gos 99 rfl ?_ | refine ev_gf2 rfl rfl rfl rfl ?_ | refine ev_gf2 rfl rfl (by with_reducible assumption) rfl ?_)
  refine ev_ire rfl hz ?_
  repeat (first | refine ev_gos 99 rfl ?_ | refine ev_gf2 rfl rfl rfl rfl ?_ | refine ev_gf2 rfl rfl (by with_reducible assumption) rfl ?_)
  refine ev_ire rfl hz ?_
  rw [pk_rem (by omega) hW (by omega), pk_rem (by omega) hW (by omega)]
  repeat (first | refine ev_gos 99 rfl ?_ | refine ev_gf2 rfl rfl rfl rfl ?_ | refine ev_gf2 rfl rfl (by with_reducible assumption) rfl ?_)
  refine ev_hw rfl rfl rfl ?_
  repeat (first | refine ev_gos 99 rfl ?_ | refine ev_gf2 rfl rfl rfl rfl ?_ | refine ev_gf2 rfl rfl (by with_reducible assumption) rfl ?_)
  refine ev_id rfl hz ?_
  repeat (first | refine ev_gos 99 rfl ?_ | refine ev_gf2 rfl rfl rfl rfl ?_ | refine ev_gf2 rfl rfl (by with_reducible assumption) rfl ?_)
  refine ev_id rfl hz ?_
  rw [pk_div (by omega) hW (by omega), pk_div (by omega) hW (by omega)]
  repeat (first | refine ev_gos 99 rfl ?_ | refine ev_gf2 rfl rfl rfl rfl ?_ | refine ev_gf2 rfl rfl (by with_reducible assumption) rfl ?_)
  refine ev_hw rfl rfl rfl ?_
  repeat (first | refine ev_gos 99 rfl ?_ | refine ev_gf2 rfl rfl rfl rfl ?_ | refine ev_gf2 rfl rfl (by with_reducible assumption) rfl ?_)
  refine ev_ri rfl ?_ rfl
  have h1 : a % W < 2 ^ 30 := Nat.lt_of_le_of_lt (Nat.mod_le a W) (by omega)
  have h2 : b % W < 2 ^ 30 := Nat.lt_of_le_of_lt (Nat.mod_le b W) (by omega)
  have h3 : a / W < 2 ^ 30 := Nat.lt_of_le_of_lt (Nat.div_le_self a W) (by omega)
  have h4 : b / W < 2 ^ 30 := Nat.lt_of_le_of_lt (Nat.div_le_self b W) (by omega)
  unfold dist
  rw [← nI_add, ← abs_nI h1 h2, ← abs_nI h3 h4]
theorem e_shape (hL : h[p]? = some (Lnd xw xh xp tw al le re rk pk ps)) (hs : h[ps]? = some (aJ 245 sh)) {k c : Nat} (hk : k < 5) (hc : c < 49) : Ev sc d m_L_shape 0 (iniL 3 [.ref p, .int (nI k), .int (nI c)]) [] h (some (.long (sh (k * 49 + c)))) h := by
  repeat (first | refine ev_gos 99 rfl ?_ | refine ev_gf2 rfl rfl rfl rfl ?_ | refine ev_gf2 rfl rfl (by with_reducible assumption) rfl ?_)
  refine ev_iff rfl rfl rfl (j_lt (nI_pos (by omega))) ?_
  repeat (first | refine ev_gos 99 rfl ?_ | refine ev_gf2 rfl rfl rfl rfl ?_ | refine ev_gf2 rfl rfl (by with_reducible assumption) rfl ?_)
  refine ev_iff rfl rfl rfl (d_ge (nI_lt3 (by omega) (by decide) (by omega) : ¬ nI 5 ≤ nI k)) ?_
  repeat (first | refine ev_gos 99 rfl ?_ | refine ev_gf2 rfl rfl rfl rfl ?_ | refine ev_gf2 rfl rfl (by with_reducible assumption) rfl ?_)
  refine ev_iff rfl rfl rfl (j_lt (nI_pos (by omega))) ?_
  repeat (first | refine ev_gos 99 rfl ?_ | refine ev_gf2 rfl rfl rfl rfl ?_ | refine ev_gf2 rfl rfl (by with_reducible assumption) rfl ?_)
  refine ev_ift rfl rfl rfl (c_lt ((nI_ltI (by omega) (by decide)).mpr hc : nI c < nI 49)) ?_
  repeat (first | refine ev_gos 99 rfl ?_ | refine ev_gf2 rfl rfl rfl rfl ?_ | refine ev_gf2 rfl rfl (by with_reducible assumption) rfl ?_)
  have e : nI k * 49 + nI c = nI (k * 49 + c) := by rw [show (49 : Int32) = nI 49 from rfl, pk_mul, nI_add]
  refine ev_la rfl hs (inB_of (by show 0 ≤ (nI k * 49 + nI c).toInt; rw [e, nI_toInt (by omega)]; omega) (by show (nI k * 49 + nI c).toInt < _; rw [e, nI_toInt (by omega)]; omega)) ?_
  exact ev_rl rfl (by show sh (nI k * 49 + nI c).toNatClampNeg = _; rw [e, nI_clamp (by omega)]) rfl
theorem e_drawnShape_loop (hL : h[p]? = some (Lnd xw xh xp tw al le re rk pk ps)) (hw : xw = nI W) (ha : al = allS N) (hl : le = lefS W N) (hr : re = rigS W N) (hro : rd sc h 1001 = some (aI 5 limbs)) {k c : Nat} (hk : k < 5) : ∀ (n i : Nat) (g : Int64), i + n = 5 → 1 ≤ i → Ev sc (d + 1) m_L_drawnShape 13 [some (.ref p), some (.int (nI k)), some (.int (nI c)), some (.long (bit c)), none, some (.long g), none, some (.int (nI i)), none, none] [.int 5, .int (nI i)] h (some (.long (dshp W N rk k c n i g))) h := by
  intro n
  induction n with
  | zero =>
    intro i g hi h1
    have e : i = 5 := by omega
    subst e
    refine ev_ift rfl rfl rfl (c_ge (by decide : (5 : Int32) ≤ nI 5)) ?_
    repeat (first | refine ev_gos 99 rfl ?_ | refine ev_gf2 rfl rfl rfl rfl ?_ | refine ev_gf2 rfl rfl (by with_reducible assumption) rfl ?_)
    by_cases hz : g &&& rk = 0
    · refine ev_iff rfl rfl rfl (j_ne (lc_eq.mpr hz)) ?_
      repeat (first | refine ev_gos 99 rfl ?_ | refine ev_gf2 rfl rfl rfl rfl ?_ | refine ev_gf2 rfl rfl (by with_reducible assumption) rfl ?_)
      exact ev_rl rfl (by show g = if g &&& rk = 0 then g else 0; rw [if_pos hz]) rfl
    · refine ev_ift rfl rfl rfl (i_ne (fun z => hz (lc_eq.mp z))) ?_
      repeat (first | refine ev_gos 99 rfl ?_ | refine ev_gf2 rfl rfl rfl rfl ?_ | refine ev_gf2 rfl rfl (by with_reducible assumption) rfl ?_)
      exact ev_rl rfl (by show (0 : Int64) = if g &&& rk = 0 then g else 0; rw [if_neg hz]) rfl
  | succ n ih =>
    intro i g hi h1
    refine ev_iff rfl rfl rfl (d_ge (nI_lt3 (by omega) (by decide) (by omega) : ¬ nI 5 ≤ nI i)) ?_
    refine ev_hr rfl rfl rfl ?_
    repeat (first | refine ev_gos 99 rfl ?_ | refine ev_gf2 rfl rfl rfl rfl ?_ | refine ev_gf2 rfl rfl (by with_reducible assumption) rfl ?_)
    refine ev_ir rfl hro (inB_of (by rw [nI_toInt (by omega)]; omega) (by rw [nI_toInt (by omega)]; omega)) ?_
    rw [nI_clamp (by omega)]
    repeat (first | refine ev_gos 99 rfl ?_ | refine ev_gf2 rfl rfl rfl rfl ?_ | refine ev_gf2 rfl rfl (by with_reducible assumption) rfl ?_)
    cases hlm : lim k i with
    | false =>
      have hz : ((limbs k >>> (nI i &&& 31)) &&& 1) = 0 := Classical.not_not.mp (of_decide_eq_false hlm)
      refine ev_ift rfl rfl rfl (i_eq hz) ?_
      repeat (first | refine ev_gos 99 rfl ?_ | refine ev_gf2 rfl rfl rfl rfl ?_ | refine ev_gf2 rfl rfl (by with_reducible assumption) rfl ?_)
      have h3 := ih (i + 1) g (by omega) (by omega)
      rw [← nI_1] at h3
      have e : dshp W N rk k c (n + 1) i g = dshp W N rk k c n (i + 1) g := by
        show (bif lim k i then _ else _) = _
        rw [hlm]
        rfl
      rw [e]
      exact ev_wk2 h3 rfl ⟨rfl, rfl, rfl, rfl, rfl, rfl, trivial⟩
    | true =>
      have hz : ¬ ((limbs k >>> (nI i &&& 31)) &&& 1) = 0 := of_decide_eq_true hlm
      refine ev_iff rfl rfl rfl (j_eq hz) ?_
      repeat (first | refine ev_gos 99 rfl ?_ | refine ev_gf2 rfl rfl rfl rfl ?_ | refine ev_gf2 rfl rfl (by with_reducible assumption) rfl ?_)
      refine ev_cv rfl rfl hL (e_moved hL hw ha hl hr (bit c) (k := i) h1 (by omega)) ?_
      repeat (first | refine ev_gos 99 rfl ?_ | refine ev_gf2 rfl rfl rfl rfl ?_ | refine ev_gf2 rfl rfl (by with_reducible assumption) rfl ?_)
      have e : dshp W N rk k c (n + 1) i g = if mvS W N (bit c) i = 0 then 0 else dshp W N rk k c n (i + 1) (g ||| mvS W N (bit c) i) := by
        show (bif lim k i then _ else _) = _
        rw [hlm]
        rfl
      rw [e]
      by_cases hm : mvS W N (bit c) i = 0
      · rw [if_pos hm]
        refine ev_iff rfl rfl rfl (j_ne (lc_eq.mpr hm)) ?_
        repeat (first | refine ev_gos 99 rfl ?_ | refine ev_gf2 rfl rfl rfl rfl ?_ | refine ev_gf2 rfl rfl (by with_reducible assumption) rfl ?_)
        exact ev_rl rfl rfl rfl
      · rw [if_neg hm]
        refine ev_ift rfl rfl rfl (i_ne (fun z => hm (lc_eq.mp z))) ?_
        repeat (first | refine ev_gos 99 rfl ?_ | refine ev_gf2 rfl rfl rfl rfl ?_ | refine ev_gf2 rfl rfl (by with_reducible assumption) rfl ?_)
        have h3 := ih (i + 1) (g ||| mvS W N (bit c) i) (by omega) (by omega)
        rw [← nI_1] at h3
        exact ev_wk2 h3 rfl ⟨rfl, rfl, rfl, rfl, rfl, rfl, trivial⟩
theorem e_drawnShape (hL : h[p]? = some (Lnd xw xh xp tw al le re rk pk ps)) (hw : xw = nI W) (ha : al = allS N) (hl : le = lefS W N) (hr : re = rigS W N) (hro : rd sc h 1001 = some (aI 5 limbs)) {k c : Nat} (hk : k < 5) : Ev sc (d + 1) m_L_drawnShape 0 (iniL 10 [.ref p, .int (nI k), .int (nI c)]) [] h (some (.long (drwS W N rk k c))) h := by
  repeat (first | refine ev_gos 99 rfl ?_ | refine ev_gf2 rfl rfl rfl rfl ?_ | refine ev_gf2 rfl rfl (by with_reducible assumption) rfl ?_)
  exact e_drawnShape_loop hL hw ha hl hr hro hk 4 1 (bit c) rfl (by decide)
end LND3
end
section
/-! Field -/
def dnS (f : Nat → Int32) (x : Int32) (n : Nat) : Int64 := mk64 (fun i => decide (i < n) && decide (x ≤ f i))
theorem dnS_s {f : Nat → Int32} {x : Int32} {n : Nat} (hn : n < 64) : dnS f x (n + 1) = if x ≤ f n then dnS f x n ||| bit n else dnS f x n := by
  apply bs_ext
  intro i hi
  by_cases hx : x ≤ f n
  · rw [if_pos hx, bs_or, bs_bitc hn hi]
    unfold dnS
    rw [bs_mk _ hi, bs_mk _ hi]
    by_cases e : i = n
    · subst e
      simp [hx]
    · by_cases e2 : i < n
      · simp [e2, e, show i < n + 1 by omega]
      · simp [e2, e, show ¬ i < n + 1 by omega]
  · rw [if_neg hx]
    unfold dnS
    rw [bs_mk _ hi, bs_mk _ hi]
    by_cases e : i = n
    · subst e
      simp [hx]
    · by_cases e2 : i < n
      · simp [e2, show i < n + 1 by omega]
      · simp [e2, show ¬ i < n + 1 by omega]
theorem dnS_0 (f : Nat → Int32) (x : Int32) : dnS f x 0 = 0 := bs_ext (fun i hi => by unfold dnS; rw [bs_mk _ hi, bs_0]; simp)
abbrev Fld (pd pa : Nat) (wd nt : Int32) : ACell := oI 0 [.ref pd, .ref pa, .int wd, .int nt]
theorem inI {k m : Nat} (h : k < m) (hm : m < 2 ^ 31) : inB (nI k) m = true := inB_of (by rw [nI_toInt (by omega)]; omega) (by rw [nI_toInt (by omega)]; omega)
section FLD
variable {sc : Scr} {d p pd pa : Nat} {h : AHp} {wd nt : Int32} {f : Nat → Int32}
theorem e_dentedFrom_loop (hF : h[p]? = some (Fld pd pa wd nt)) (hd : h[pd]? = some (aI 49 f)) (x : Int32) : ∀ (n i : Nat), i + n = 49 → Ev sc d m_F_dentedFrom 9 [some (.ref p), some (.int x), some (.long (dnS f x i)), none, some (.int (nI i))] [.int 49, .int (nI i)] h (some (.long (dnS f x 49))) h := by
  intro n
  induction n with
  | zero =>
    intro i hi
    have e : i = 49 := by omega
    subst e
    refine ev_ift rfl rfl rfl (c_ge (by decide : (49 : Int32) ≤ nI 49)) ?_
    repeat (first | refine ev_gos 99 rfl ?_ | refine ev_gf2 rfl rfl rfl rfl ?_ | refine ev_gf2 rfl rfl (by with_reducible assumption) rfl ?_)
    exact ev_rl rfl rfl rfl
  | succ n ih =>
    intro i hi
    refine ev_iff rfl rfl rfl (d_ge (nI_lt3 (by omega) (by decide) (by omega) : ¬ nI 49 ≤ nI i)) ?_
    repeat (first | refine ev_gos 99 rfl ?_ | refine ev_gf2 rfl rfl rfl rfl ?_ | refine ev_gf2 rfl rfl (by with_reducible assumption) rfl ?_)
    refine ev_ia rfl hd (inI (by omega) (by decide)) ?_
    rw [nI_clamp (by omega)]
    repeat (first | refine ev_gos 99 rfl ?_ | refine ev_gf2 rfl rfl rfl rfl ?_ | refine ev_gf2 rfl rfl (by with_reducible assumption) rfl ?_)
    have h3 := ih (i + 1) (by omega)
    rw [← nI_1, dnS_s (by omega)] at h3
    by_cases hx : x ≤ f i
    · rw [if_pos hx] at h3
      refine ev_iff rfl rfl rfl (d_lt (fun z => by rw [Int32.lt_iff_toInt_lt] at z; rw [Int32.le_iff_toInt_le] at hx; omega)) ?_
      repeat (first | refine ev_gos 99 rfl ?_ | refine ev_gf2 rfl rfl rfl rfl ?_ | refine ev_gf2 rfl rfl (by with_reducible assumption) rfl ?_)
      exact h3
    · rw [if_neg hx] at h3
      refine ev_ift rfl rfl rfl (c_lt (by rw [Int32.lt_iff_toInt_lt]; rw [Int32.le_iff_toInt_le] at hx; omega)) ?_
      repeat (first | refine ev_gos 99 rfl ?_ | refine ev_gf2 rfl rfl rfl rfl ?_ | refine ev_gf2 rfl rfl (by with_reducible assumption) rfl ?_)
      exact h3
theorem e_dentedFrom (hF : h[p]? = some (Fld pd pa wd nt)) (hd : h[pd]? = some (aI 49 f)) (x : Int32) : Ev sc d m_F_dentedFrom 0 (iniL 5 [.ref p, .int x]) [] h (some (.long (dnS f x 49))) h := by
  repeat (first | refine ev_gos 99 rfl ?_ | refine ev_gf2 rfl rfl rfl rfl ?_ | refine ev_gf2 rfl rfl (by with_reducible assumption) rfl ?_)
  have h3 := e_dentedFrom_loop (sc := sc) (d := d) hF hd x 49 0 rfl
  rw [dnS_0] at h3
  exact h3
theorem e_dented (hF : h[p]? = some (Fld pd pa wd nt)) (hd : h[pd]? = some (aI 49 f)) : Ev sc (d + 1) m_F_dented 0 (iniL 1 [.ref p]) [] h (some (.long (dnS f 1 49))) h := by
  repeat (first | refine ev_gos 99 rfl ?_ | refine ev_gf2 rfl rfl rfl rfl ?_ | refine ev_gf2 rfl rfl (by with_reducible assumption) rfl ?_)
  refine ev_cv rfl rfl hF (e_dentedFrom hF hd 1) ?_
  exact ev_rl rfl rfl rfl
theorem e_seen (hF : h[p]? = some (Fld pd pa wd nt)) (hd : h[pd]? = some (aI 49 f)) : Ev sc (d + 1) m_F_seen 0 (iniL 1 [.ref p]) [] h (some (.long (dnS f 3 49))) h := by
  repeat (first | refine ev_gos 99 rfl ?_ | refine ev_gf2 rfl rfl rfl rfl ?_ | refine ev_gf2 rfl rfl (by with_reducible assumption) rfl ?_)
  refine ev_cv rfl rfl hF (e_dentedFrom hF hd 3) ?_
  exact ev_rl rfl rfl rfl
end FLD
/-! every place of a row by a rule -/
def mapP (F : Nat → Int32 → Int32) (f : Nat → Int32) (n : Nat) : Nat → Int32 := fun j => if j < n then F j (f j) else f j
theorem mapP_0 (F : Nat → Int32 → Int32) (f : Nat → Int32) : mapP F f 0 = f := by funext j; unfold mapP; rw [if_neg (by omega)]
theorem mapP_at (F : Nat → Int32 → Int32) (f : Nat → Int32) (n : Nat) : mapP F f n n = f n := by unfold mapP; rw [if_neg (by omega)]
theorem mapP_s (F : Nat → Int32 → Int32) (f : Nat → Int32) (n : Nat) : upd (mapP F f n) n (F n (f n)) = mapP F f (n + 1) := by
  funext j
  unfold upd mapP
  by_cases e : j = n
  · subst e
    simp
  · by_cases e2 : j < n
    · simp [e, e2, show j < n + 1 by omega]
    · simp [e, e2, show ¬ j < n + 1 by omega]
theorem mapP_n {F : Nat → Int32 → Int32} {f : Nat → Int32} {n : Nat} (h : F n (f n) = f n) : mapP F f n = mapP F f (n + 1) := by
  funext j
  unfold mapP
  by_cases e : j = n
  · subst e
    simp [h]
  · by_cases e2 : j < n
    · simp [e2, show j < n + 1 by omega]
    · simp [e2, show ¬ j < n + 1 by omega]
def prF (x : Int64) (c : Nat) (v : Int32) : Int32 := bif bs x c then 9 else v
def ngF (x : Int64) (c : Nat) (v : Int32) : Int32 := if 0 < v - (bif bs x c then 1 else 2) then v - (bif bs x c then 1 else 2) else 0
def mlF (_ : Nat) (v : Int32) : Int32 := if 0 < v - 3 then v - 3 else 0
def snF (_ : Nat) (v : Int32) : Int32 := if v ≤ 4 then 0 else v - 1
def roF (x : Int64) (c : Nat) (v : Int32) : Int32 := bif bs x c then (if 5 < v then v else 5) else v
section FLH
variable {sc : Scr} {d : Nat} {w : Bool} {s : Nat → Int32} {l : Nat → Int64} {A : Nat → Nat → Int32} {B : Nat → Nat → Int64} {f : Nat → Int32}
theorem e_press_loop (x : Int64) : ∀ (n i : Nat), i + n = 49 → Ev sc (d + 1) m_F_press 5 [some (.ref 9), some (.long x), none, some (.int (nI i))] [.int 49, .int (nI i)] (HH w s l (upA A 10 (mapP (prF x) f i)) B) none (HH w s l (upA A 10 (mapP (prF x) f 49)) B) := by
  intro n
  induction n with
  | zero =>
    intro i hi
    have e : i = 49 := by omega
    subst e
    refine ev_ift rfl rfl rfl (c_ge (by decide : (49 : Int32) ≤ nI 49)) ?_
    exact ev_rv rfl rfl
  | succ n ih =>
    intro i hi
    refine ev_iff rfl rfl rfl (d_ge (nI_lt3 (by omega) (by decide) (by omega) : ¬ nI 49 ≤ nI i)) ?_
    repeat (first | refine ev_gos 99 rfl ?_ | refine ev_gf2 rfl rfl rfl rfl ?_ | refine ev_gf2 rfl rfl (by with_reducible assumption) rfl ?_)
    refine ev_cs rfl rfl rfl (e_has sc d _ x (k := i) (by omega)) ?_
    have h3 := ih (i + 1) (by omega)
    rw [← nI_1] at h3
    cases hb : bs x i with
    | true =>
      refine ev_iff rfl rfl rfl rfl ?_
      repeat (first | refine ev_gos 99 rfl ?_ | refine ev_gf2 rfl rfl rfl rfl ?_ | refine ev_gf2 rfl rfl (by with_reducible assumption) rfl ?_)
      refine it_10 rfl (inI (by omega) (by decide)) ?_
      rw [nI_clamp (by omega)]
      rw [← mapP_s, show prF x i (f i) = 9 by unfold prF; rw [hb]; rfl] at h3
      repeat (first | refine ev_gos 99 rfl ?_ | refine ev_gf2 rfl rfl rfl rfl ?_ | refine ev_gf2 rfl rfl (by with_reducible assumption) rfl ?_)
      exact h3
    | false =>
      refine ev_ift rfl rfl rfl rfl ?_
      repeat (first | refine ev_gos 99 rfl ?_ | refine ev_gf2 rfl rfl rfl rfl ?_ | refine ev_gf2 rfl rfl (by with_reducible assumption) rfl ?_)
      rw [← mapP_n (F := prF x) (f := f) (n := i) (by unfold prF; rw [hb]; rfl)] at h3
      exact h3
theorem e_press (x : Int64) : Ev sc (d + 1) m_F_press 0 (iniL 4 [.ref 9, .long x]) [] (HH w s l A B) none (HH w s l (upA A 10 (mapP (prF x) (A 10) 49)) B) := by
  repeat (first | refine ev_gos 99 rfl ?_ | refine ev_gf2 rfl rfl rfl rfl ?_ | refine ev_gf2 rfl rfl (by with_reducible assumption) rfl ?_)
  have h3 := e_press_loop (sc := sc) (d := d) (w := w) (s := s) (l := l) (A := A) (B := B) (f := A 10) x 49 0 rfl
  rw [mapP_0, upA_id] at h3
  exact h3
end FLH
end
section
/-! Field: nights, thaws, snow, hares, pins; filling and copying rows -/
theorem gs_eq {h : AHp} {q : Nat} {x c : ACell} (hd : h[q]? = some x) : (h.set q c)[q]? = some c := by
  rw [List.getElem?_set, if_pos rfl, if_pos (List.getElem?_eq_some_iff.mp hd).1]
theorem gs_ne {h : AHp} {q p : Nat} {c : ACell} (hne : q ≠ p) : (h.set q c)[p]? = h[p]? := by
  rw [List.getElem?_set, if_neg hne]
theorem e_fill_loop {sc : Scr} {d q m : Nat} {h : AHp} {f : Nat → Int32} (hd : h[q]? = some (aI m f)) (hm : m < 2 ^ 31) (x : Int32) : ∀ (n i : Nat), i + n = m → Ev sc d m_JA_fill 7 [some (.ref q), some (.int x), some (.int (nI i)), some (.int (Int32.ofNat m))] [.int (Int32.ofNat m), .int (nI i)] (h.set q (aI m (mapP (fun _ _ => x) f i))) none (h.set q (aI m (mapP (fun _ _ => x) f m))) := by
  intro n
  induction n with
  | zero =>
    intro i hi
    have e : i = m := by omega
    subst e
    refine ev_ift rfl rfl rfl (c_ge ((nI_leI hm hm).mpr (Nat.le_refl i) : nI i ≤ nI i)) ?_
    exact ev_rv rfl rfl
  | succ n ih =>
    intro i hi
    refine ev_iff rfl rfl rfl (d_ge (nI_lt3 (by omega) hm (by omega) : ¬ nI m ≤ nI i)) ?_
    repeat (first | refine ev_gos 99 rfl ?_ | refine ev_gf2 rfl rfl rfl rfl ?_ | refine ev_gf2 rfl rfl (by with_reducible assumption) rfl ?_)
    refine ev_is rfl (gs_eq hd) (inI (by omega) hm) ?_
    rw [nI_clamp (by omega), List.set_set]
    have h3 := ih (i + 1) (by omega)
    rw [← nI_1, ← mapP_s] at h3
    repeat (first | refine ev_gos 99 rfl ?_ | refine ev_gf2 rfl rfl rfl rfl ?_ | refine ev_gf2 rfl rfl (by with_reducible assumption) rfl ?_)
    exact h3
theorem e_fill {sc : Scr} {d q m : Nat} {h : AHp} {f : Nat → Int32} (hd : h[q]? = some (aI m f)) (hm : m < 2 ^ 31) (x : Int32) : Ev sc d m_JA_fill 0 (iniL 4 [.ref q, .int x]) [] h none (h.set q (aI m (mapP (fun _ _ => x) f m))) := by
  repeat (first | refine ev_gos 99 rfl ?_ | refine ev_gf2 rfl rfl rfl rfl ?_ | refine ev_gf2 rfl rfl (by with_reducible assumption) rfl ?_)
  refine ev_len rfl (Or.inl (rd_of hd)) ?_
  repeat (first | refine ev_gos 99 rfl ?_ | refine ev_gf2 rfl rfl rfl rfl ?_ | refine ev_gf2 rfl rfl (by with_reducible assumption) rfl ?_)
  have h3 := e_fill_loop (sc := sc) (d := d) hd hm x m 0 (Nat.zero_add m)
  have e : h.set q (aI m (mapP (fun _ _ => x) f 0)) = h := by
    rw [mapP_0]
    apply List.ext_getElem?
    intro i
    by_cases hq : q = i
    · subst hq
      rw [gs_eq hd, hd]
    · rw [gs_ne hq]
  rw [e] at h3
  exact h3
section FLH2
variable {sc : Scr} {d : Nat} {w : Bool} {s : Nat → Int32} {l : Nat → Int64} {A : Nat → Nat → Int32} {B : Nat → Nat → Int64} {f : Nat → Int32} {W N : Nat}
theorem e_melt_loop : ∀ (n i : Nat), i + n = 49 → Ev sc (d + 1) m_F_melt 5 [some (.ref 9), some (.int (nI i))] [.int 49, .int (nI i)] (HH w s l (upA A 10 (mapP mlF f i)) B) none (HH w s l (upA A 10 (mapP mlF f 49)) B) := by
  intro n
  induction n with
  | zero =>
    intro i hi
    have e : i = 49 := by omega
    subst e
    refine ev_ift rfl rfl rfl (c_ge (by decide : (49 : Int32) ≤ nI 49)) ?_
    exact ev_rv rfl rfl
  | succ n ih =>
    intro i hi
    refine ev_iff rfl rfl rfl (d_ge (nI_lt3 (by omega) (by decide) (by omega) : ¬ nI 49 ≤ nI i)) ?_
    repeat (first | refine ev_gos 99 rfl ?_ | refine ev_gf2 rfl rfl rfl rfl ?_ | refine ev_gf2 rfl rfl (by with_reducible assumption) rfl ?_)
    refine ev_ia rfl rfl (inI (by omega) (by decide)) ?_
    rw [nI_clamp (by omega), upA_at, mapP_at]
    repeat (first | refine ev_gos 99 rfl ?_ | refine ev_gf2 rfl rfl rfl rfl ?_ | refine ev_gf2 rfl rfl (by with_reducible assumption) rfl ?_)
    refine ev_hw rfl rfl rfl ?_
    refine it_10 rfl (inI (by omega) (by decide)) ?_
    rw [nI_clamp (by omega)]
    have h3 := ih (i + 1) (by omega)
    rw [← nI_1, ← mapP_s] at h3
    repeat (first | refine ev_gos 99 rfl ?_ | refine ev_gf2 rfl rfl rfl rfl ?_ | refine ev_gf2 rfl rfl (by with_reducible assumption) rfl ?_)
    exact h3
theorem e_melt : Ev sc (d + 1) m_F_melt 0 (iniL 2 [.ref 9]) [] (HH w s l A B) none (HH w s l (upA A 10 (mapP mlF (A 10) 49)) B) := by
  repeat (first | refine ev_gos 99 rfl ?_ | refine ev_gf2 rfl rfl rfl rfl ?_ | refine ev_gf2 rfl rfl (by with_reducible assumption) rfl ?_)
  have h3 := e_melt_loop (sc := sc) (d := d) (w := w) (s := s) (l := l) (A := A) (B := B) (f := A 10) 49 0 rfl
  rw [mapP_0, upA_id] at h3
  exact h3
theorem e_snowOver_loop : ∀ (n i : Nat), i + n = 49 → Ev sc (d + 1) m_F_snowOver 5 [some (.ref 9), some (.int (nI i))] [.int 49, .int (nI i)] (HH w s l (upA A 10 (mapP snF f i)) B) none (HH w s l (upA A 10 (mapP snF f 49)) B) := by
  intro n
  induction n with
  | zero =>
    intro i hi
    have e : i = 49 := by omega
    subst e
    refine ev_ift rfl rfl rfl (c_ge (by decide : (49 : Int32) ≤ nI 49)) ?_
    exact ev_rv rfl rfl
  | succ n ih =>
    intro i hi
    refine ev_iff rfl rfl rfl (d_ge (nI_lt3 (by omega) (by decide) (by omega) : ¬ nI 49 ≤ nI i)) ?_
    repeat (first | refine ev_gos 99 rfl ?_ | refine ev_gf2 rfl rfl rfl rfl ?_ | refine ev_gf2 rfl rfl (by with_reducible assumption) rfl ?_)
    refine ev_ia rfl rfl (inI (by omega) (by decide)) ?_
    rw [nI_clamp (by omega), upA_at, mapP_at]
    repeat (first | refine ev_gos 99 rfl ?_ | refine ev_gf2 rfl rfl rfl rfl ?_ | refine ev_gf2 rfl rfl (by with_reducible assumption) rfl ?_)
    have h3 := ih (i + 1) (by omega)
    rw [← nI_1, ← mapP_s] at h3
    by_cases hx : f i ≤ 4
    · refine ev_iff rfl rfl rfl (d_gt (fun z => by rw [Int32.lt_iff_toInt_lt] at z; rw [Int32.le_iff_toInt_le] at hx; omega)) ?_
      repeat (first | refine ev_gos 99 rfl ?_ | refine ev_gf2 rfl rfl rfl rfl ?_ | refine ev_gf2 rfl rfl (by with_reducible assumption) rfl ?_)
      refine it_10 rfl (inI (by omega) (by decide)) ?_
      rw [nI_clamp (by omega)]
      rw [show snF i (f i) = 0 by unfold snF; rw [if_pos hx]] at h3
      repeat (first | refine ev_gos 99 rfl ?_ | refine ev_gf2 rfl rfl rfl rfl ?_ | refine ev_gf2 rfl rfl (by with_reducible assumption) rfl ?_)
      exact h3
    · refine ev_ift rfl rfl rfl (c_gt (by rw [Int32.lt_iff_toInt_lt]; rw [Int32.le_iff_toInt_le] at hx; omega)) ?_
      repeat (first | refine ev_gos 99 rfl ?_ | refine ev_gf2 rfl rfl rfl rfl ?_ | refine ev_gf2 rfl rfl (by with_reducible assumption) rfl ?_)
      refine ev_ia rfl rfl (inI (by omega) (by decide)) ?_
      rw [nI_clamp (by omega), upA_at, mapP_at]
      repeat (first | refine ev_gos 99 rfl ?_ | refine ev_gf2 rfl rfl rfl rfl ?_ | refine ev_gf2 rfl rfl (by with_reducible assumption) rfl ?_)
      refine it_10 rfl (inI (by omega) (by decide)) ?_
      rw [nI_clamp (by omega)]
      rw [show snF i (f i) = f i - 1 by unfold snF; rw [if_neg hx]] at h3
      repeat (first | refine ev_gos 99 rfl ?_ | refine ev_gf2 rfl rfl rfl rfl ?_ | refine ev_gf2 rfl rfl (by with_reducible assumption) rfl ?_)
      exact h3
theorem e_snowOver : Ev sc (d + 1) m_F_snowOver 0 (iniL 2 [.ref 9]) [] (HH w s l A B) none (HH w s l (upA A 10 (mapP snF (A 10) 49)) B) := by
  repeat (first | refine ev_gos 99 rfl ?_ | refine ev_gf2 rfl rfl rfl rfl ?_ | refine ev_gf2 rfl rfl (by with_reducible assumption) rfl ?_)
  have h3 := e_snowOver_loop (sc := sc) (d := d) (w := w) (s := s) (l := l) (A := A) (B := B) (f := A 10) 49 0 rfl
  rw [mapP_0, upA_id] at h3
  exact h3
theorem e_roll_loop (x : Int64) : ∀ (n i : Nat), i + n = 49 → Ev sc (d + 1) m_F_roll 5 [some (.ref 9), some (.long x), none, some (.int (nI i))] [.int 49, .int (nI i)] (HH w s l (upA A 10 (mapP (roF x) f i)) B) none (HH w s l (upA A 10 (mapP (roF x) f 49)) B) := by
  intro n
  induction n with
  | zero =>
    intro i hi
    have e : i = 49 := by omega
    subst e
    refine ev_ift rfl rfl rfl (c_ge (by decide : (49 : Int32) ≤ nI 49)) ?_
    exact ev_rv rfl rfl
  | succ n ih =>
    intro i hi
    refine ev_iff rfl rfl rfl (d_ge (nI_lt3 (by omega) (by decide) (by omega) : ¬ nI 49 ≤ nI i)) ?_
    repeat (first | refine ev_gos 99 rfl ?_ | refine ev_gf2 rfl rfl rfl rfl ?_ | refine ev_gf2 rfl rfl (by with_reducible assumption) rfl ?_)
    refine ev_cs rfl rfl rfl (e_has sc d _ x (k := i) (by omega)) ?_
    have h3 := ih (i + 1) (by omega)
    rw [← nI_1] at h3
    cases hb : bs x i with
    | true =>
      refine ev_iff rfl rfl rfl rfl ?_
      repeat (first | refine ev_gos 99 rfl ?_ | refine ev_gf2 rfl rfl rfl rfl ?_ | refine ev_gf2 rfl rfl (by with_reducible assumption) rfl ?_)
      refine ev_ia rfl rfl (inI (by omega) (by decide)) ?_
      rw [nI_clamp (by omega), upA_at, mapP_at]
      refine ev_hw rfl rfl rfl ?_
      refine it_10 rfl (inI (by omega) (by decide)) ?_
      rw [nI_clamp (by omega)]
      rw [← mapP_s, show roF x i (f i) = (if 5 < f i then f i else 5) by unfold roF; rw [hb]; rfl] at h3
      repeat (first | refine ev_gos 99 rfl ?_ | refine ev_gf2 rfl rfl rfl rfl ?_ | refine ev_gf2 rfl rfl (by with_reducible assumption) rfl ?_)
      exact h3
    | false =>
      refine ev_ift rfl rfl rfl rfl ?_
      repeat (first | refine ev_gos 99 rfl ?_ | refine ev_gf2 rfl rfl rfl rfl ?_ | refine ev_gf2 rfl rfl (by with_reducible assumption) rfl ?_)
      rw [← mapP_n (F := roF x) (f := f) (n := i) (by unfold roF; rw [hb]; rfl)] at h3
      exact h3
theorem e_roll (x : Int64) : Ev sc (d + 1) m_F_roll 0 (iniL 4 [.ref 9, .long x]) [] (HH w s l A B) none (HH w s l (upA A 10 (mapP (roF x) (A 10) 49)) B) := by
  repeat (first | refine ev_gos 99 rfl ?_ | refine ev_gf2 rfl rfl rfl rfl ?_ | refine ev_gf2 rfl rfl (by with_reducible assumption) rfl ?_)
  have h3 := e_roll_loop (sc := sc) (d := d) (w := w) (s := s) (l := l) (A := A) (B := B) (f := A 10) x 49 0 rfl
  rw [mapP_0, upA_id] at h3
  exact h3
theorem e_cross {c : Nat} (hc : c < 49) : Ev sc d m_F_cross 0 (iniL 2 [.ref 9, .int (nI c)]) [] (HH w s l A B) none (HH w s l (upA A 10 (upd (A 10) c (if A 10 c + 2 < 9 then A 10 c + 2 else 9))) B) := by
  repeat (first | refine ev_gos 99 rfl ?_ | refine ev_gf2 rfl rfl rfl rfl ?_ | refine ev_gf2 rfl rfl (by with_reducible assumption) rfl ?_)
  refine ev_iff rfl rfl rfl (j_lt (nI_pos (by omega))) ?_
  repeat (first | refine ev_gos 99 rfl ?_ | refine ev_gf2 rfl rfl rfl rfl ?_ | refine ev_gf2 rfl rfl (by with_reducible assumption) rfl ?_)
  refine ev_iff rfl rfl rfl (d_ge (nI_lt3 (by omega) (by decide) (by omega) : ¬ nI 49 ≤ nI c)) ?_
  repeat (first | refine ev_gos 99 rfl ?_ | refine ev_gf2 rfl rfl rfl rfl ?_ | refine ev_gf2 rfl rfl (by with_reducible assumption) rfl ?_)
  refine ev_ia rfl rfl (inI (by omega) (by decide)) ?_
  rw [nI_clamp (by omega)]
  repeat (first | refine ev_gos 99 rfl ?_ | refine ev_gf2 rfl rfl rfl rfl ?_ | refine ev_gf2 rfl rfl (by with_reducible assumption) rfl ?_)
  refine ev_hw rfl rfl rfl ?_
  refine is_10 rfl (inI (by omega) (by decide)) ?_
  rw [nI_clamp (by omega)]
  exact ev_rv rfl rfl
theorem e_begin (tw : Int32) : Ev sc (d + 1) m_F_begin 0 (iniL 2 [.ref 9, .int tw]) [] (HH w s l A B) none (HH w (upA (upA s 9 tw) 10 0) l (upA (upA A 10 (mapP (fun _ _ => 0) (A 10) 49)) 11 (mapP (fun _ _ => -1) (A 11) 7)) B) := by
  repeat (first | refine ev_gos 99 rfl ?_ | refine ev_gf2 rfl rfl rfl rfl ?_ | refine ev_gf2 rfl rfl (by with_reducible assumption) rfl ?_)
  refine ev_cs rfl rfl rfl (e_fill (h := HH w s l A B) (q := 10) (m := 49) (f := A 10) rfl (by decide) 0) ?_
  rw [HA_10]
  repeat (first | refine ev_gos 99 rfl ?_ | refine ev_gf2 rfl rfl rfl rfl ?_ | refine ev_gf2 rfl rfl (by with_reducible assumption) rfl ?_)
  refine ev_cs rfl rfl rfl (e_fill (h := HH w s l (upA A 10 (mapP (fun _ _ => 0) (A 10) 49)) B) (q := 11) (m := 7) (f := A 11) rfl (by decide) (-1)) ?_
  rw [HA_11]
  repeat (first | refine ev_gos 99 rfl ?_ | refine ev_gf2 rfl rfl rfl rfl ?_ | refine ev_gf2 rfl rfl (by with_reducible assumption) rfl ?_)
  refine pf_F_9 rfl ?_
  repeat (first | refine ev_gos 99 rfl ?_ | refine ev_gf2 rfl rfl rfl rfl ?_ | refine ev_gf2 rfl rfl (by with_reducible assumption) rfl ?_)
  refine pf_F_10 rfl ?_
  exact ev_rv rfl rfl
theorem e_become : Ev sc d m_F_become 0 (iniL 2 [.ref 12, .ref 9]) [] (HH w s l A B) none (HH w (upA (upA s 11 (s 9)) 12 (s 10)) l (upA (upA A 13 (va_cpy (A 10) (A 13) 0 0 49)) 14 (va_cpy (A 11) (A 14) 0 0 7)) B) := by
  repeat (first | refine ev_gos 99 rfl ?_ | refine ev_gf2 rfl rfl rfl rfl ?_ | refine ev_gf2 rfl rfl (by with_reducible assumption) rfl ?_)
  refine ev_hw rfl rfl rfl ?_
  refine (?_ : Ek sc d m_F_become 15 _ _ (HH w s l (upA A 13 (va_cpy (A 10) (A 13) 0 0 49)) B) _ _ _ _)
  repeat (first | refine ev_gos 99 rfl ?_ | refine ev_gf2 rfl rfl rfl rfl ?_ | refine ev_gf2 rfl rfl (by with_reducible assumption) rfl ?_)
  refine ev_hw rfl rfl rfl ?_
  refine (?_ : Ek sc d m_F_become 30 _ _ (HH w s l (upA (upA A 13 (va_cpy (A 10) (A 13) 0 0 49)) 14 (va_cpy (A 11) (A 14) 0 0 7)) B) _ _ _ _)
  repeat (first | refine ev_gos 99 rfl ?_ | refine ev_gf2 rfl rfl rfl rfl ?_ | refine ev_gf2 rfl rfl (by with_reducible assumption) rfl ?_)
  refine pf_T_11 rfl ?_
  repeat (first | refine ev_gos 99 rfl ?_ | refine ev_gf2 rfl rfl rfl rfl ?_ | refine ev_gf2 rfl rfl (by with_reducible assumption) rfl ?_)
  refine pf_T_12 rfl ?_
  exact ev_rv rfl rfl
/-- where the wind doesn't come -/
def shlS (W N : Nat) (rk : Int64) (f : Nat → Int32) (k : Nat) : Int64 := if k = 0 then allS N else mvS W N (rk ||| dnS f 1 49) k
theorem e_passN_loop (x y : Int64) (v3 : Int64) : ∀ (n i : Nat), i + n = 49 → Ev sc (d + 1) m_F_passNight 42 [some (.ref 9), some (.ref (wL w)), some (.long v3), none, some (.long x), none, some (.int (nI i)), none] [.int 49, .int (nI i)] (HH w s l (upA A 10 (mapP (ngF x) f i)) B) none (HH w (upA s 10 (s 10 + 1)) l (upA A 10 (mapP (ngF x) f 49)) B) := by
  intro n
  induction n with
  | zero =>
    intro i hi
    have e : i = 49 := by omega
    subst e
    refine ev_ift rfl rfl rfl (c_ge (by decide : (49 : Int32) ≤ nI 49)) ?_
    repeat (first | refine ev_gos 99 rfl ?_ | refine ev_gf2 rfl rfl rfl rfl ?_ | refine ev_gf2 rfl rfl (by with_reducible assumption) rfl ?_)
    refine pf_F_10 rfl ?_
    exact ev_rv rfl rfl
  | succ n ih =>
    intro i hi
    refine ev_iff rfl rfl rfl (d_ge (nI_lt3 (by omega) (by decide) (by omega) : ¬ nI 49 ≤ nI i)) ?_
    repeat (first | refine ev_gos 99 rfl ?_ | refine ev_gf2 rfl rfl rfl rfl ?_ | refine ev_gf2 rfl rfl (by with_reducible assumption) rfl ?_)
    refine ev_cs rfl rfl rfl (e_has sc d _ x (k := i) (by omega)) ?_
    have h3 := ih (i + 1) (by omega)
    rw [← nI_1, ← mapP_s] at h3
    cases hb : bs x i with
    | true =>
      refine ev_iff rfl rfl rfl rfl ?_
      repeat (first | refine ev_gos 99 rfl ?_ | refine ev_gf2 rfl rfl rfl rfl ?_ | refine ev_gf2 rfl rfl (by with_reducible assumption) rfl ?_)
      refine ev_ia rfl rfl (inI (by omega) (by decide)) ?_
      rw [nI_clamp (by omega), upA_at, mapP_at]
      repeat (first | refine ev_gos 99 rfl ?_ | refine ev_gf2 rfl rfl rfl rfl ?_ | refine ev_gf2 rfl rfl (by with_reducible assumption) rfl ?_)
      refine ev_hw rfl rfl rfl ?_
      refine it_10 rfl (inI (by omega) (by decide)) ?_
      rw [nI_clamp (by omega)]
      rw [show ngF x i (f i) = (if 0 < f i - 1 then f i - 1 else 0) by unfold ngF; rw [hb]; rfl] at h3
      repeat (first | refine ev_gos 99 rfl ?_ | refine ev_gf2 rfl rfl rfl rfl ?_ | refine ev_gf2 rfl rfl (by with_reducible assumption) rfl ?_)
      exact ev_wk2 h3 rfl ⟨rfl, rfl, rfl, rfl, rfl, trivial⟩
    | false =>
      refine ev_ift rfl rfl rfl rfl ?_
      repeat (first | refine ev_gos 99 rfl ?_ | refine ev_gf2 rfl rfl rfl rfl ?_ | refine ev_gf2 rfl rfl (by with_reducible assumption) rfl ?_)
      refine ev_ia rfl rfl (inI (by omega) (by decide)) ?_
      rw [nI_clamp (by omega), upA_at, mapP_at]
      repeat (first | refine ev_gos 99 rfl ?_ | refine ev_gf2 rfl rfl rfl rfl ?_ | refine ev_gf2 rfl rfl (by with_reducible assumption) rfl ?_)
      refine ev_hw rfl rfl rfl ?_
      refine it_10 rfl (inI (by omega) (by decide)) ?_
      rw [nI_clamp (by omega)]
      rw [show ngF x i (f i) = (if 0 < f i - 2 then f i - 2 else 0) by unfold ngF; rw [hb]; rfl] at h3
      repeat (first | refine ev_gos 99 rfl ?_ | refine ev_gf2 rfl rfl rfl rfl ?_ | refine ev_gf2 rfl rfl (by with_reducible assumption) rfl ?_)
      exact ev_wk2 h3 rfl ⟨rfl, rfl, rfl, rfl, rfl, trivial⟩
theorem e_passN (hw : s 15 = nI W) (ha : l 0 = allS N) (hl : l 1 = lefS W N) (hr : l 2 = rigS W N) {k : Nat} (hk : k ≤ 4) (hs : s 9 = nI k) : Ev sc (d + 2) m_F_passNight 0 (iniL 8 [.ref 9, .ref (wL w)]) [] (HH w s l A B) none (HH w (upA s 10 (s 10 + 1)) l (upA A 10 (mapP (ngF (shlS W N (l 3) (A 10) k)) (A 10) 49)) B) := by
  refine ev_gos 99 rfl ?_
  refine ev_gf2 rfl rfl HH_land rfl ?_
  repeat (first | refine ev_gos 99 rfl ?_ | refine ev_gf2 rfl rfl rfl rfl ?_ | refine ev_gf2 rfl rfl (by with_reducible assumption) rfl ?_)
  refine ev_cv rfl rfl rfl (e_dented (p := 9) (pd := 10) (pa := 11) (wd := s 9) (nt := s 10) (f := A 10) rfl rfl) ?_
  repeat (first | refine ev_gos 99 rfl ?_ | refine ev_gf2 rfl rfl rfl rfl ?_ | refine ev_gf2 rfl rfl (by with_reducible assumption) rfl ?_)
  have h3 := fun v3 => e_passN_loop (sc := sc) (d := d + 1) (w := w) (s := s) (l := l) (A := A) (B := B) (f := A 10) (shlS W N (l 3) (A 10) k) 0 v3 49 0 rfl
  by_cases hk0 : k = 0
  · refine ev_iff rfl rfl rfl (j_ne (by rw [hs, hk0]; rfl)) ?_
    refine ev_gos 99 rfl ?_
    refine ev_gf2 rfl rfl HH_land rfl ?_
    repeat (first | refine ev_gos 99 rfl ?_ | refine ev_gf2 rfl rfl rfl rfl ?_ | refine ev_gf2 rfl rfl (by with_reducible assumption) rfl ?_)
    have h4 := h3 (l 3 ||| dnS (A 10) 1 49)
    rw [mapP_0, upA_id] at h4
    have e : shlS W N (l 3) (A 10) k = l 0 := by unfold shlS; rw [if_pos hk0, ha]
    rw [e] at h4 ⊢
    exact h4
  · refine ev_ift rfl rfl rfl (i_ne (by rw [hs]; exact nI_ne (by omega) (by omega))) ?_
    repeat (first | refine ev_gos 99 rfl ?_ | refine ev_gf2 rfl rfl rfl rfl ?_ | refine ev_gf2 rfl rfl (by with_reducible assumption) rfl ?_)
    refine ev_cv rfl rfl HH_land (by rw [hs]; exact e_moved (p := wL w) HH_land hw ha hl hr _ (k := k) (by omega) hk) ?_
    repeat (first | refine ev_gos 99 rfl ?_ | refine ev_gf2 rfl rfl rfl rfl ?_ | refine ev_gf2 rfl rfl (by with_reducible assumption) rfl ?_)
    have h4 := h3 (l 3 ||| dnS (A 10) 1 49)
    rw [mapP_0, upA_id] at h4
    have e : shlS W N (l 3) (A 10) k = mvS W N (l 3 ||| dnS (A 10) 1 49) k := by unfold shlS; rw [if_neg hk0]
    rw [e] at h4 ⊢
    exact h4
theorem e_passT_loop (x y : Int64) (v3 : Int64) : ∀ (n i : Nat), i + n = 49 → Ev sc (d + 1) m_F_passNight 42 [some (.ref 12), some (.ref (wL w)), some (.long v3), none, some (.long x), none, some (.int (nI i)), none] [.int 49, .int (nI i)] (HH w s l (upA A 13 (mapP (ngF x) f i)) B) none (HH w (upA s 12 (s 12 + 1)) l (upA A 13 (mapP (ngF x) f 49)) B) := by
  intro n
  induction n with
  | zero =>
    intro i hi
    have e : i = 49 := by omega
    subst e
    refine ev_ift rfl rfl rfl (c_ge (by decide : (49 : Int32) ≤ nI 49)) ?_
    repeat (first | refine ev_gos 99 rfl ?_ | refine ev_gf2 rfl rfl rfl rfl ?_ | refine ev_gf2 rfl rfl (by with_reducible assumption) rfl ?_)
    refine pf_T_12 rfl ?_
    exact ev_rv rfl rfl
  | succ n ih =>
    intro i hi
    refine ev_iff rfl rfl rfl (d_ge (nI_lt3 (by omega) (by decide) (by omega) : ¬ nI 49 ≤ nI i)) ?_
    repeat (first | refine ev_gos 99 rfl ?_ | refine ev_gf2 rfl rfl rfl rfl ?_ | refine ev_gf2 rfl rfl (by with_reducible assumption) rfl ?_)
    refine ev_cs rfl rfl rfl (e_has sc d _ x (k := i) (by omega)) ?_
    have h3 := ih (i + 1) (by omega)
    rw [← nI_1, ← mapP_s] at h3
    cases hb : bs x i with
    | true =>
      refine ev_iff rfl rfl rfl rfl ?_
      repeat (first | refine ev_gos 99 rfl ?_ | refine ev_gf2 rfl rfl rfl rfl ?_ | refine ev_gf2 rfl rfl (by with_reducible assumption) rfl ?_)
      refine ev_ia rfl rfl (inI (by omega) (by decide)) ?_
      rw [nI_clamp (by omega), upA_at, mapP_at]
      repeat (first | refine ev_gos 99 rfl ?_ | refine ev_gf2 rfl rfl rfl rfl ?_ | refine ev_gf2 rfl rfl (by with_reducible assumption) rfl ?_)
      refine ev_hw rfl rfl rfl ?_
      refine it_13 rfl (inI (by omega) (by decide)) ?_
      rw [nI_clamp (by omega)]
      rw [show ngF x i (f i) = (if 0 < f i - 1 then f i - 1 else 0) by unfold ngF; rw [hb]; rfl] at h3
      repeat (first | refine ev_gos 99 rfl ?_ | refine ev_gf2 rfl rfl rfl rfl ?_ | refine ev_gf2 rfl rfl (by with_reducible assumption) rfl ?_)
      exact ev_wk2 h3 rfl ⟨rfl, rfl, rfl, rfl, rfl, trivial⟩
    | false =>
      refine ev_ift rfl rfl rfl rfl ?_
      repeat (first | refine ev_gos 99 rfl ?_ | refine ev_gf2 rfl rfl rfl rfl ?_ | refine ev_gf2 rfl rfl (by with_reducible assumption) rfl ?_)
      refine ev_ia rfl rfl (inI (by omega) (by decide)) ?_
      rw [nI_clamp (by omega), upA_at, mapP_at]
      repeat (first | refine ev_gos 99 rfl ?_ | refine ev_gf2 rfl rfl rfl rfl ?_ | refine ev_gf2 rfl rfl (by with_reducible assumption) rfl ?_)
      refine ev_hw rfl rfl rfl ?_
      refine it_13 rfl (inI (by omega) (by decide)) ?_
      rw [nI_clamp (by omega)]
      rw [show ngF x i (f i) = (if 0 < f i - 2 then f i - 2 else 0) by unfold ngF; rw [hb]; rfl] at h3
      repeat (first | refine ev_gos 99 rfl ?_ | refine ev_gf2 rfl rfl rfl rfl ?_ | refine ev_gf2 rfl rfl (by with_reducible assumption) rfl ?_)
      exact ev_wk2 h3 rfl ⟨rfl, rfl, rfl, rfl, rfl, trivial⟩
theorem e_passT (hw : s 15 = nI W) (ha : l 0 = allS N) (hl : l 1 = lefS W N) (hr : l 2 = rigS W N) {k : Nat} (hk : k ≤ 4) (hs : s 11 = nI k) : Ev sc (d + 2) m_F_passNight 0 (iniL 8 [.ref 12, .ref (wL w)]) [] (HH w s l A B) none (HH w (upA s 12 (s 12 + 1)) l (upA A 13 (mapP (ngF (shlS W N (l 3) (A 13) k)) (A 13) 49)) B) := by
  refine ev_gos 99 rfl ?_
  refine ev_gf2 rfl rfl HH_land rfl ?_
  repeat (first | refine ev_gos 99 rfl ?_ | refine ev_gf2 rfl rfl rfl rfl ?_ | refine ev_gf2 rfl rfl (by with_reducible assumption) rfl ?_)
  refine ev_cv rfl rfl rfl (e_dented (p := 12) (pd := 13) (pa := 14) (wd := s 11) (nt := s 12) (f := A 13) rfl rfl) ?_
  repeat (first | refine ev_gos 99 rfl ?_ | refine ev_gf2 rfl rfl rfl rfl ?_ | refine ev_gf2 rfl rfl (by with_reducible assumption) rfl ?_)
  have h3 := fun v3 => e_passT_loop (sc := sc) (d := d + 1) (w := w) (s := s) (l := l) (A := A) (B := B) (f := A 13) (shlS W N (l 3) (A 13) k) 0 v3 49 0 rfl
  by_cases hk0 : k = 0
  · refine ev_iff rfl rfl rfl (j_ne (by rw [hs, hk0]; rfl)) ?_
    refine ev_gos 99 rfl ?_
    refine ev_gf2 rfl rfl HH_land rfl ?_
    repeat (first | refine ev_gos 99 rfl ?_ | refine ev_gf2 rfl rfl rfl rfl ?_ | refine ev_gf2 rfl rfl (by with_reducible assumption) rfl ?_)
    have h4 := h3 (l 3 ||| dnS (A 13) 1 49)
    rw [mapP_0, upA_id] at h4
    have e : shlS W N (l 3) (A 13) k = l 0 := by unfold shlS; rw [if_pos hk0, ha]
    rw [e] at h4 ⊢
    exact h4
  · refine ev_ift rfl rfl rfl (i_ne (by rw [hs]; exact nI_ne (by omega) (by omega))) ?_
    repeat (first | refine ev_gos 99 rfl ?_ | refine ev_gf2 rfl rfl rfl rfl ?_ | refine ev_gf2 rfl rfl (by with_reducible assumption) rfl ?_)
    refine ev_cv rfl rfl HH_land (by rw [hs]; exact e_moved (p := wL w) HH_land hw ha hl hr _ (k := k) (by omega) hk) ?_
    repeat (first | refine ev_gos 99 rfl ?_ | refine ev_gf2 rfl rfl rfl rfl ?_ | refine ev_gf2 rfl rfl (by with_reducible assumption) rfl ?_)
    have h4 := h3 (l 3 ||| dnS (A 13) 1 49)
    rw [mapP_0, upA_id] at h4
    have e : shlS W N (l 3) (A 13) k = mvS W N (l 3 ||| dnS (A 13) 1 49) k := by unfold shlS; rw [if_neg hk0]
    rw [e] at h4 ⊢
    exact h4
end FLH2
end
section
/-! Shelf, Notebook -/
def putS (R : Nat → Int32) (k : Nat) (dn at_ : Nat → Int32) (wd nt : Int32) : Nat → Int32 := upd (upd (va_cpy at_ (va_cpy dn R 0 (k * 58) 49) 0 (k * 58 + 49) 7) (k * 58 + 56) wd) (k * 58 + 57) nt
section SHF
variable {sc : Scr} {d : Nat} {w : Bool} {s : Nat → Int32} {l : Nat → Int64} {A : Nat → Nat → Int32} {B : Nat → Nat → Int64}
theorem cp_ok {sp dp n : Int32} {q : Nat} {S : Stk} {h : AHp} {n0 n1 : Nat} {f g : Nat → Int32} {a b c : Nat} (ha : sp = nI a) (hb : dp = nI b) (hc : n = nI c) (h1 : a + c ≤ n0) (h2 : b + c ≤ n1) (hn0 : n0 < 2 ^ 31) (hn1 : n1 < 2 ^ 31) (hS : catS S ≤ 8) : cpC sp dp n q S h (some (aI n0 f)) (some (aI n1 g)) = some (S, h.set q (aI n1 (va_cpy f g a b c))) := by
  subst ha; subst hb; subst hc
  unfold cpC
  rw [nI_toInt (by omega), nI_toInt (by omega), nI_toInt (by omega), nI_clamp (by omega), nI_clamp (by omega), nI_clamp (by omega)]
  have e1 : Nat.ble (a + c) n0 = true := Nat.ble_eq_true_of_le h1
  have e2 : Nat.ble (b + c) n1 = true := Nat.ble_eq_true_of_le h2
  have e3 : Nat.ble (catS S) 8 = true := Nat.ble_eq_true_of_le hS
  simp [e1, e2, e3]
/-- a copy of a stretch, by the machine's own method -/
theorem ev_cp {sc : Scr} {d M pc nx i b0 : Nat} {v : Value} {L : Lcs} {S : Stk} {h h' : AHp} {r : Option Value} {c n : Nat} {sp dp m : Int32} {p q n0 n1 : Nat} {f g : Nat → Int32} {x y z : Nat} (hc : cAt M pc = some (.invokestatic i, nx, 998, b0, v)) (hp : h[p]? = some (aI n0 f)) (hq : h[q]? = some (aI n1 g)) (ha : sp = nI x) (hb : dp = nI y) (hm : m = nI z) (h1 : x + z ≤ n0) (h2 : y + z ≤ n1) (hn0 : n0 < 2 ^ 31) (hn1 : n1 < 2 ^ 31) (hS : catS S ≤ 8) (k : Ek sc d M nx L S (h.set q (aI n1 (va_cpy f g x y z))) r h' c n) : Ek sc d M pc L (.int m :: .int dp :: .ref q :: .int sp :: .ref p :: S) h r h' c n := by
  refine ev_hw hc rfl ?_ k
  show cpC sp dp m q S h h[p]? h[q]? = _
  rw [hp, hq]
  exact cp_ok ha hb hm h1 h2 hn0 hn1 hS
theorem e_putD {k : Nat} (hk : k < 30) : Ev sc d m_S_put 0 (iniL 4 [.ref 15, .int (nI k), .ref 9]) [] (HH w s l A B) none (HH w s l (upA A 16 (putS (A 16) k (A 10) (A 11) (s 9) (s 10))) B) := by
  repeat (first | refine ev_gos 99 rfl ?_ | refine ev_gf2 rfl rfl rfl rfl ?_ | refine ev_gf2 rfl rfl HH_land rfl ?_ | refine ev_gf2 rfl rfl HH_draft rfl ?_ | refine ev_gf2 rfl rfl (by with_reducible assumption) rfl ?_)
  refine ev_iff rfl rfl rfl (j_lt (nI_pos (by omega))) ?_
  repeat (first | refine ev_gos 99 rfl ?_ | refine ev_gf2 rfl rfl rfl rfl ?_ | refine ev_gf2 rfl rfl HH_land rfl ?_ | refine ev_gf2 rfl rfl HH_draft rfl ?_ | refine ev_gf2 rfl rfl (by with_reducible assumption) rfl ?_)
  refine ev_ift rfl rfl rfl (c_lt ((nI_ltI (by omega) (by decide)).mpr hk : nI k < nI 30)) ?_
  repeat (first | refine ev_gos 99 rfl ?_ | refine ev_gf2 rfl rfl rfl rfl ?_ | refine ev_gf2 rfl rfl HH_land rfl ?_ | refine ev_gf2 rfl rfl HH_draft rfl ?_ | refine ev_gf2 rfl rfl (by with_reducible assumption) rfl ?_)
  have e1 : nI k * 58 = nI (k * 58) := pk_mul k 58
  refine ev_cp (h := HH w s l A B) (p := 10) (q := 16) (n0 := 49) (n1 := 1740) (f := A 10) (g := A 16) (x := 0) (y := k * 58) (z := 49) rfl rfl rfl rfl e1 rfl (by omega) (by omega) (by decide) (by decide) (by decide) ?_
  rw [HA_16]
  repeat (first | refine ev_gos 99 rfl ?_ | refine ev_gf2 rfl rfl rfl rfl ?_ | refine ev_gf2 rfl rfl HH_land rfl ?_ | refine ev_gf2 rfl rfl HH_draft rfl ?_ | refine ev_gf2 rfl rfl (by with_reducible assumption) rfl ?_)
  have e2 : nI k * 58 + 49 = nI (k * 58 + 49) := by rw [e1]; exact nI_add _ 49
  refine ev_cp (p := 11) (q := 16) (n0 := 7) (n1 := 1740) (f := A 11) (g := va_cpy (A 10) (A 16) 0 (k * 58) 49) (x := 0) (y := k * 58 + 49) (z := 7) rfl rfl rfl rfl e2 rfl (by omega) (by omega) (by decide) (by decide) (by decide) ?_
  rw [HA_16, upA_up]
  repeat (first | refine ev_gos 99 rfl ?_ | refine ev_gf2 rfl rfl rfl rfl ?_ | refine ev_gf2 rfl rfl HH_land rfl ?_ | refine ev_gf2 rfl rfl HH_draft rfl ?_ | refine ev_gf2 rfl rfl (by with_reducible assumption) rfl ?_)
  have e3 : nI k * 58 + 58 - 2 = nI (k * 58 + 56) := by rw [e1, show (58 : Int32) = nI 58 from rfl, nI_add, show (2 : Int32) = nI 2 from rfl, pk_sub (by omega)]; congr 1
  have e4 : nI k * 58 + 58 - 1 = nI (k * 58 + 57) := by rw [e1, show (58 : Int32) = nI 58 from rfl, nI_add, show (1 : Int32) = nI 1 from rfl, pk_sub (by omega)]; congr 1
  refine it_16 rfl (by show inB (nI k * 58 + 58 - 2) 1740 = true; rw [e3]; exact inI (by omega) (by decide)) ?_
  repeat (first | refine ev_gos 99 rfl ?_ | refine ev_gf2 rfl rfl rfl rfl ?_ | refine ev_gf2 rfl rfl HH_land rfl ?_ | refine ev_gf2 rfl rfl HH_draft rfl ?_ | refine ev_gf2 rfl rfl (by with_reducible assumption) rfl ?_)
  refine it_16 rfl (by show inB (nI k * 58 + 58 - 1) 1740 = true; rw [e4]; exact inI (by omega) (by decide)) ?_
  refine ev_rv rfl ?_
  show HH w s l (upA A 16 (upd (upd _ (nI k * 58 + 58 - 2).toNatClampNeg _) (nI k * 58 + 58 - 1).toNatClampNeg _)) B = _
  rw [e3, e4, nI_clamp (by omega), nI_clamp (by omega)]
  rfl
theorem e_takeD {k : Nat} (hk : k < 30) : Ev sc d m_S_take 0 (iniL 4 [.ref 15, .int (nI k), .ref 9]) [] (HH w s l A B) none (HH w (upA (upA s 9 (A 16 (k * 58 + 56))) 10 (A 16 (k * 58 + 57))) l (upA (upA A 10 (va_cpy (A 16) (A 10) (k * 58) 0 49)) 11 (va_cpy (A 16) (A 11) (k * 58 + 49) 0 7)) B) := by
  repeat (first | refine ev_gos 99 rfl ?_ | refine ev_gf2 rfl rfl rfl rfl ?_ | refine ev_gf2 rfl rfl HH_land rfl ?_ | refine ev_gf2 rfl rfl HH_draft rfl ?_ | refine ev_gf2 rfl rfl (by with_reducible assumption) rfl ?_)
  refine ev_iff rfl rfl rfl (j_lt (nI_pos (by omega))) ?_
  repeat (first | refine ev_gos 99 rfl ?_ | refine ev_gf2 rfl rfl rfl rfl ?_ | refine ev_gf2 rfl rfl HH_land rfl ?_ | refine ev_gf2 rfl rfl HH_draft rfl ?_ | refine ev_gf2 rfl rfl (by with_reducible assumption) rfl ?_)
  refine ev_ift rfl rfl rfl (c_lt ((nI_ltI (by omega) (by decide)).mpr hk : nI k < nI 30)) ?_
  repeat (first | refine ev_gos 99 rfl ?_ | refine ev_gf2 rfl rfl rfl rfl ?_ | refine ev_gf2 rfl rfl HH_land rfl ?_ | refine ev_gf2 rfl rfl HH_draft rfl ?_ | refine ev_gf2 rfl rfl (by with_reducible assumption) rfl ?_)
  have e1 : nI k * 58 = nI (k * 58) := pk_mul k 58
  refine ev_cp (h := HH w s l A B) (p := 16) (q := 10) (n0 := 1740) (n1 := 49) (f := A 16) (g := A 10) (x := k * 58) (y := 0) (z := 49) rfl rfl rfl e1 rfl rfl (by omega) (by omega) (by decide) (by decide) (by decide) ?_
  rw [HA_10]
  repeat (first | refine ev_gos 99 rfl ?_ | refine ev_gf2 rfl rfl rfl rfl ?_ | refine ev_gf2 rfl rfl HH_land rfl ?_ | refine ev_gf2 rfl rfl HH_draft rfl ?_ | refine ev_gf2 rfl rfl (by with_reducible assumption) rfl ?_)
  have e2 : nI k * 58 + 49 = nI (k * 58 + 49) := by rw [e1]; exact nI_add _ 49
  refine ev_cp (p := 16) (q := 11) (n0 := 1740) (n1 := 7) (f := A 16) (g := A 11) (x := k * 58 + 49) (y := 0) (z := 7) rfl rfl rfl e2 rfl rfl (by omega) (by omega) (by decide) (by decide) (by decide) ?_
  rw [HA_11]
  repeat (first | refine ev_gos 99 rfl ?_ | refine ev_gf2 rfl rfl rfl rfl ?_ | refine ev_gf2 rfl rfl HH_land rfl ?_ | refine ev_gf2 rfl rfl HH_draft rfl ?_ | refine ev_gf2 rfl rfl (by with_reducible assumption) rfl ?_)
  have e3 : nI k * 58 + 58 - 2 = nI (k * 58 + 56) := by rw [e1, show (58 : Int32) = nI 58 from rfl, nI_add, show (2 : Int32) = nI 2 from rfl, pk_sub (by omega)]; congr 1
  have e4 : nI k * 58 + 58 - 1 = nI (k * 58 + 57) := by rw [e1, show (58 : Int32) = nI 58 from rfl, nI_add, show (1 : Int32) = nI 1 from rfl, pk_sub (by omega)]; congr 1
  refine ev_ia rfl rfl (by show inB (nI k * 58 + 58 - 2) 1740 = true; rw [e3]; exact inI (by omega) (by decide)) ?_
  refine pf_F_9 rfl ?_
  repeat (first | refine ev_gos 99 rfl ?_ | refine ev_gf2 rfl rfl rfl rfl ?_ | refine ev_gf2 rfl rfl HH_land rfl ?_ | refine ev_gf2 rfl rfl HH_draft rfl ?_ | refine ev_gf2 rfl rfl (by with_reducible assumption) rfl ?_)
  refine ev_ia rfl rfl (by show inB (nI k * 58 + 58 - 1) 1740 = true; rw [e4]; exact inI (by omega) (by decide)) ?_
  refine pf_F_10 rfl ?_
  refine ev_rv rfl ?_
  show HH w (upA (upA s 9 (A 16 (nI k * 58 + 58 - 2).toNatClampNeg)) 10 (A 16 (nI k * 58 + 58 - 1).toNatClampNeg)) l _ B = _
  rw [e3, e4, nI_clamp (by omega), nI_clamp (by omega)]
theorem e_putI {k : Nat} (hk : k < 2) : Ev sc d m_S_put 0 (iniL 4 [.ref 17, .int (nI k), .ref 9]) [] (HH w s l A B) none (HH w s l (upA A 18 (putS (A 18) k (A 10) (A 11) (s 9) (s 10))) B) := by
  repeat (first | refine ev_gos 99 rfl ?_ | refine ev_gf2 rfl rfl rfl rfl ?_ | refine ev_gf2 rfl rfl HH_land rfl ?_ | refine ev_gf2 rfl rfl HH_draft rfl ?_ | refine ev_gf2 rfl rfl (by with_reducible assumption) rfl ?_)
  refine ev_iff rfl rfl rfl (j_lt (nI_pos (by omega))) ?_
  repeat (first | refine ev_gos 99 rfl ?_ | refine ev_gf2 rfl rfl rfl rfl ?_ | refine ev_gf2 rfl rfl HH_land rfl ?_ | refine ev_gf2 rfl rfl HH_draft rfl ?_ | refine ev_gf2 rfl rfl (by with_reducible assumption) rfl ?_)
  refine ev_ift rfl rfl rfl (c_lt ((nI_ltI (by omega) (by decide)).mpr hk : nI k < nI 2)) ?_
  repeat (first | refine ev_gos 99 rfl ?_ | refine ev_gf2 rfl rfl rfl rfl ?_ | refine ev_gf2 rfl rfl HH_land rfl ?_ | refine ev_gf2 rfl rfl HH_draft rfl ?_ | refine ev_gf2 rfl rfl (by with_reducible assumption) rfl ?_)
  have e1 : nI k * 58 = nI (k * 58) := pk_mul k 58
  refine ev_cp (h := HH w s l A B) (p := 10) (q := 18) (n0 := 49) (n1 := 116) (f := A 10) (g := A 18) (x := 0) (y := k * 58) (z := 49) rfl rfl rfl rfl e1 rfl (by omega) (by omega) (by decide) (by decide) (by decide) ?_
  rw [HA_18]
  repeat (first | refine ev_gos 99 rfl ?_ | refine ev_gf2 rfl rfl rfl rfl ?_ | refine ev_gf2 rfl rfl HH_land rfl ?_ | refine ev_gf2 rfl rfl HH_draft rfl ?_ | refine ev_gf2 rfl rfl (by with_reducible assumption) rfl ?_)
  have e2 : nI k * 58 + 49 = nI (k * 58 + 49) := by rw [e1]; exact nI_add _ 49
  refine ev_cp (p := 11) (q := 18) (n0 := 7) (n1 := 116) (f := A 11) (g := va_cpy (A 10) (A 18) 0 (k * 58) 49) (x := 0) (y := k * 58 + 49) (z := 7) rfl rfl rfl rfl e2 rfl (by omega) (by omega) (by decide) (by decide) (by decide) ?_
  rw [HA_18, upA_up]
  repeat (first | refine ev_gos 99 rfl ?_ | refine ev_gf2 rfl rfl rfl rfl ?_ | refine ev_gf2 rfl rfl HH_land rfl ?_ | refine ev_gf2 rfl rfl HH_draft rfl ?_ | refine ev_gf2 rfl rfl (by with_reducible assumption) rfl ?_)
  have e3 : nI k * 58 + 58 - 2 = nI (k * 58 + 56) := by rw [e1, show (58 : Int32) = nI 58 from rfl, nI_add, show (2 : Int32) = nI 2 from rfl, pk_sub (by omega)]; congr 1
  have e4 : nI k * 58 + 58 - 1 = nI (k * 58 + 57) := by rw [e1, show (58 : Int32) = nI 58 from rfl, nI_add, show (1 : Int32) = nI 1 from rfl, pk_sub (by omega)]; congr 1
  refine it_18 rfl (by show inB (nI k * 58 + 58 - 2) 116 = true; rw [e3]; exact inI (by omega) (by decide)) ?_
  repeat (first | refine ev_gos 99 rfl ?_ | refine ev_gf2 rfl rfl rfl rfl ?_ | refine ev_gf2 rfl rfl HH_land rfl ?_ | refine ev_gf2 rfl rfl HH_draft rfl ?_ | refine ev_gf2 rfl rfl (by with_reducible assumption) rfl ?_)
  refine it_18 rfl (by show inB (nI k * 58 + 58 - 1) 116 = true; rw [e4]; exact inI (by omega) (by decide)) ?_
  refine ev_rv rfl ?_
  show HH w s l (upA A 18 (upd (upd _ (nI k * 58 + 58 - 2).toNatClampNeg _) (nI k * 58 + 58 - 1).toNatClampNeg _)) B = _
  rw [e3, e4, nI_clamp (by omega), nI_clamp (by omega)]
  rfl
theorem e_takeI {k : Nat} (hk : k < 2) : Ev sc d m_S_take 0 (iniL 4 [.ref 17, .int (nI k), .ref 9]) [] (HH w s l A B) none (HH w (upA (upA s 9 (A 18 (k * 58 + 56))) 10 (A 18 (k * 58 + 57))) l (upA (upA A 10 (va_cpy (A 18) (A 10) (k * 58) 0 49)) 11 (va_cpy (A 18) (A 11) (k * 58 + 49) 0 7)) B) := by
  repeat (first | refine ev_gos 99 rfl ?_ | refine ev_gf2 rfl rfl rfl rfl ?_ | refine ev_gf2 rfl rfl HH_land rfl ?_ | refine ev_gf2 rfl rfl HH_draft rfl ?_ | refine ev_gf2 rfl rfl (by with_reducible assumption) rfl ?_)
  refine ev_iff rfl rfl rfl (j_lt (nI_pos (by omega))) ?_
  repeat (first | refine ev_gos 99 rfl ?_ | refine ev_gf2 rfl rfl rfl rfl ?_ | refine ev_gf2 rfl rfl HH_land rfl ?_ | refine ev_gf2 rfl rfl HH_draft rfl ?_ | refine ev_gf2 rfl rfl (by with_reducible assumption) rfl ?_)
  refine ev_ift rfl rfl rfl (c_lt ((nI_ltI (by omega) (by decide)).mpr hk : nI k < nI 2)) ?_
  repeat (first | refine ev_gos 99 rfl ?_ | refine ev_gf2 rfl rfl rfl rfl ?_ | refine ev_gf2 rfl rfl HH_land rfl ?_ | refine ev_gf2 rfl rfl HH_draft rfl ?_ | refine ev_gf2 rfl rfl (by with_reducible assumption) rfl ?_)
  have e1 : nI k * 58 = nI (k * 58) := pk_mul k 58
  refine ev_cp (h := HH w s l A B) (p := 18) (q := 10) (n0 := 116) (n1 := 49) (f := A 18) (g := A 10) (x := k * 58) (y := 0) (z := 49) rfl rfl rfl e1 rfl rfl (by omega) (by omega) (by decide) (by decide) (by decide) ?_
  rw [HA_10]
  repeat (first | refine ev_gos 99 rfl ?_ | refine ev_gf2 rfl rfl rfl rfl ?_ | refine ev_gf2 rfl rfl HH_land rfl ?_ | refine ev_gf2 rfl rfl HH_draft rfl ?_ | refine ev_gf2 rfl rfl (by with_reducible assumption) rfl ?_)
  have e2 : nI k * 58 + 49 = nI (k * 58 + 49) := by rw [e1]; exact nI_add _ 49
  refine ev_cp (p := 18) (q := 11) (n0 := 116) (n1 := 7) (f := A 18) (g := A 11) (x := k * 58 + 49) (y := 0) (z := 7) rfl rfl rfl e2 rfl rfl (by omega) (by omega) (by decide) (by decide) (by decide) ?_
  rw [HA_11]
  repeat (first | refine ev_gos 99 rfl ?_ | refine ev_gf2 rfl rfl rfl rfl ?_ | refine ev_gf2 rfl rfl HH_land rfl ?_ | refine ev_gf2 rfl rfl HH_draft rfl ?_ | refine ev_gf2 rfl rfl (by with_reducible assumption) rfl ?_)
  have e3 : nI k * 58 + 58 - 2 = nI (k * 58 + 56) := by rw [e1, show (58 : Int32) = nI 58 from rfl, nI_add, show (2 : Int32) = nI 2 from rfl, pk_sub (by omega)]; congr 1
  have e4 : nI k * 58 + 58 - 1 = nI (k * 58 + 57) := by rw [e1, show (58 : Int32) = nI 58 from rfl, nI_add, show (1 : Int32) = nI 1 from rfl, pk_sub (by omega)]; congr 1
  refine ev_ia rfl rfl (by show inB (nI k * 58 + 58 - 2) 116 = true; rw [e3]; exact inI (by omega) (by decide)) ?_
  refine pf_F_9 rfl ?_
  repeat (first | refine ev_gos 99 rfl ?_ | refine ev_gf2 rfl rfl rfl rfl ?_ | refine ev_gf2 rfl rfl HH_land rfl ?_ | refine ev_gf2 rfl rfl HH_draft rfl ?_ | refine ev_gf2 rfl rfl (by with_reducible assumption) rfl ?_)
  refine ev_ia rfl rfl (by show inB (nI k * 58 + 58 - 1) 116 = true; rw [e4]; exact inI (by omega) (by decide)) ?_
  refine pf_F_10 rfl ?_
  refine ev_rv rfl ?_
  show HH w (upA (upA s 9 (A 18 (nI k * 58 + 58 - 2).toNatClampNeg)) 10 (A 18 (nI k * 58 + 58 - 1).toNatClampNeg)) l _ B = _
  rw [e3, e4, nI_clamp (by omega), nI_clamp (by omega)]
theorem e_nempty : Ev sc d m_N_empty 0 (iniL 1 [.ref 21]) [] (HH w s l A B) none (HH w (upA (upA s 13 0) 14 0) l A B) := by
  repeat (first | refine ev_gos 99 rfl ?_ | refine ev_gf2 rfl rfl rfl rfl ?_ | refine ev_gf2 rfl rfl HH_land rfl ?_ | refine ev_gf2 rfl rfl HH_draft rfl ?_ | refine ev_gf2 rfl rfl (by with_reducible assumption) rfl ?_)
  refine pf_N_13 rfl ?_
  repeat (first | refine ev_gos 99 rfl ?_ | refine ev_gf2 rfl rfl rfl rfl ?_ | refine ev_gf2 rfl rfl HH_land rfl ?_ | refine ev_gf2 rfl rfl HH_draft rfl ?_ | refine ev_gf2 rfl rfl (by with_reducible assumption) rfl ?_)
  refine pf_N_14 rfl ?_
  exact ev_rv rfl rfl
theorem e_addFound {k : Nat} (hk : k ≤ 6) (hs : s 13 = nI k) (x : Int32) (b : Bool) : Ev sc d m_N_addFound 0 (iniL 3 [.ref 21, .int x, .int (b01 b)]) [] (HH w s l A B) (some (.int (if k < 6 then nI (k + 1) else -1000000004))) (if k < 6 then HH w (upA s 13 (nI (k + 1))) l (upA (upA A 22 (upd (A 22) k x)) 23 (upd (A 23) k (b01 b))) B else HH w s l A B) := by
  repeat (first | refine ev_gos 99 rfl ?_ | refine ev_gf2 rfl rfl rfl rfl ?_ | refine ev_gf2 rfl rfl HH_land rfl ?_ | refine ev_gf2 rfl rfl HH_draft rfl ?_ | refine ev_gf2 rfl rfl (by with_reducible assumption) rfl ?_)
  by_cases h6 : k < 6
  · refine ev_ift rfl rfl rfl (c_lt (by rw [hs]; exact (nI_ltI (by omega) (by decide)).mpr h6 : s 13 < nI 6)) ?_
    repeat (first | refine ev_gos 99 rfl ?_ | refine ev_gf2 rfl rfl rfl rfl ?_ | refine ev_gf2 rfl rfl HH_land rfl ?_ | refine ev_gf2 rfl rfl HH_draft rfl ?_ | refine ev_gf2 rfl rfl (by with_reducible assumption) rfl ?_)
    refine is_22 rfl (by rw [hs]; exact inI h6 (by decide)) ?_
    repeat (first | refine ev_gos 99 rfl ?_ | refine ev_gf2 rfl rfl rfl rfl ?_ | refine ev_gf2 rfl rfl HH_land rfl ?_ | refine ev_gf2 rfl rfl HH_draft rfl ?_ | refine ev_gf2 rfl rfl (by with_reducible assumption) rfl ?_)
    refine is_23 rfl (by rw [hs]; exact inI h6 (by decide)) ?_
    repeat (first | refine ev_gos 99 rfl ?_ | refine ev_gf2 rfl rfl rfl rfl ?_ | refine ev_gf2 rfl rfl HH_land rfl ?_ | refine ev_gf2 rfl rfl HH_draft rfl ?_ | refine ev_gf2 rfl rfl (by with_reducible assumption) rfl ?_)
    refine pf_N_13 rfl ?_
    repeat (first | refine ev_gos 99 rfl ?_ | refine ev_gf2 rfl rfl rfl rfl ?_ | refine ev_gf2 rfl rfl HH_land rfl ?_ | refine ev_gf2 rfl rfl HH_draft rfl ?_ | refine ev_gf2 rfl rfl (by with_reducible assumption) rfl ?_)
    rw [if_pos h6, if_pos h6]
    have e1 : s 13 + 1 = nI (k + 1) := by rw [hs, nI_1]
    have e2 : vp_nar .boolean (b01 b) = b01 b := by cases b <;> rfl
    refine ev_ri rfl e1 ?_
    show HH w (upA s 13 (s 13 + 1)) l (upA (upA A 22 (upd (A 22) (s 13).toNatClampNeg x)) 23 (upd (A 23) (s 13).toNatClampNeg (vp_nar .boolean (b01 b)))) B = _
    rw [e1, e2, hs, nI_clamp (by omega)]
  · refine ev_iff rfl rfl rfl (d_lt (by rw [hs]; exact fun z => h6 ((nI_ltI (by omega) (by decide)).mp z) : ¬ s 13 < nI 6)) ?_
    repeat (first | refine ev_gos 99 rfl ?_ | refine ev_gf2 rfl rfl rfl rfl ?_ | refine ev_gf2 rfl rfl HH_land rfl ?_ | refine ev_gf2 rfl rfl HH_draft rfl ?_ | refine ev_gf2 rfl rfl (by with_reducible assumption) rfl ?_)
    rw [if_neg h6, if_neg h6]
    exact ev_ri rfl rfl rfl
theorem e_addEntry {k : Nat} (hk : k ≤ 20) (hs : s 14 = nI k) (x : Int32) : Ev sc d m_N_addEntry 0 (iniL 2 [.ref 21, .int x]) [] (HH w s l A B) (some (.int (if k < 20 then nI (k + 1) else -1000000004))) (if k < 20 then HH w (upA s 14 (nI (k + 1))) l (upA A 24 (upd (A 24) k x)) B else HH w s l A B) := by
  repeat (first | refine ev_gos 99 rfl ?_ | refine ev_gf2 rfl rfl rfl rfl ?_ | refine ev_gf2 rfl rfl HH_land rfl ?_ | refine ev_gf2 rfl rfl HH_draft rfl ?_ | refine ev_gf2 rfl rfl (by with_reducible assumption) rfl ?_)
  by_cases h6 : k < 20
  · refine ev_ift rfl rfl rfl (c_lt (by rw [hs]; exact (nI_ltI (by omega) (by decide)).mpr h6 : s 14 < nI 20)) ?_
    repeat (first | refine ev_gos 99 rfl ?_ | refine ev_gf2 rfl rfl rfl rfl ?_ | refine ev_gf2 rfl rfl HH_land rfl ?_ | refine ev_gf2 rfl rfl HH_draft rfl ?_ | refine ev_gf2 rfl rfl (by with_reducible assumption) rfl ?_)
    refine is_24 rfl (by rw [hs]; exact inI h6 (by decide)) ?_
    repeat (first | refine ev_gos 99 rfl ?_ | refine ev_gf2 rfl rfl rfl rfl ?_ | refine ev_gf2 rfl rfl HH_land rfl ?_ | refine ev_gf2 rfl rfl HH_draft rfl ?_ | refine ev_gf2 rfl rfl (by with_reducible assumption) rfl ?_)
    refine pf_N_14 rfl ?_
    repeat (first | refine ev_gos 99 rfl ?_ | refine ev_gf2 rfl rfl rfl rfl ?_ | refine ev_gf2 rfl rfl HH_land rfl ?_ | refine ev_gf2 rfl rfl HH_draft rfl ?_ | refine ev_gf2 rfl rfl (by with_reducible assumption) rfl ?_)
    rw [if_pos h6, if_pos h6]
    have e1 : s 14 + 1 = nI (k + 1) := by rw [hs, nI_1]
    refine ev_ri rfl e1 ?_
    show HH w (upA s 14 (s 14 + 1)) l (upA A 24 (upd (A 24) (s 14).toNatClampNeg x)) B = _
    rw [e1, hs, nI_clamp (by omega)]
  · refine ev_iff rfl rfl rfl (d_lt (by rw [hs]; exact fun z => h6 ((nI_ltI (by omega) (by decide)).mp z) : ¬ s 14 < nI 20)) ?_
    repeat (first | refine ev_gos 99 rfl ?_ | refine ev_gf2 rfl rfl rfl rfl ?_ | refine ev_gf2 rfl rfl HH_land rfl ?_ | refine ev_gf2 rfl rfl HH_draft rfl ?_ | refine ev_gf2 rfl rfl (by with_reducible assumption) rfl ?_)
    rw [if_neg h6, if_neg h6]
    exact ev_ri rfl rfl rfl
end SHF
end
section
/-! Notebook's questions; what there is -/
def fnd (f : Nat → Bool) : Nat → Nat → Int32
  | 0, _ => -1
  | k + 1, i => bif f i then nI i else fnd f k (i + 1)
def allB (f : Nat → Bool) : Nat → Nat → Bool
  | 0, _ => true
  | k + 1, i => bif f i then allB f k (i + 1) else false
def inR (x : Int32) (n : Nat) : Bool := decide (0 ≤ x) && decide (x < nI n)
theorem inR_of {x : Int32} {n : Nat} (hn : n < 2 ^ 31) (h : inR x n = true) : ∃ k, k < n ∧ x = nI k := by
  obtain ⟨h1, h2⟩ := andE h
  have h3 := of_decide_eq_true h1
  have h4 := of_decide_eq_true h2
  obtain ⟨j, hj, rfl⟩ := nI_of (x := x) (fun z => by rw [Int32.lt_iff_toInt_lt] at z; rw [Int32.le_iff_toInt_le] at h3; omega)
  exact ⟨j, (nI_ltI hj hn).mp h4, rfl⟩
theorem inR_nI {k n : Nat} (h : k < n) (hn : n < 2 ^ 31) : inR (nI k) n = true := by
  unfold inR
  rw [decide_eq_true (nI_pos' (by omega)), decide_eq_true ((nI_ltI (by omega) hn).mpr h)]
  rfl
def agS (fc fd : Nat → Int32) (x : Int64) (n : Nat) : Bool := allB (fun i => decide (b01 (bs x (fc i).toNatClampNeg) = fd i)) n 0
def whoP (at_ : Nat → Int32) : Nat → Int32
  | 0 => 0
  | n + 1 => if at_ n = -1 then whoP at_ n else whoP at_ n ||| ((1 : Int32) <<< (nI n &&& 31))
def truP (at_ kd_ : Nat → Int32) : Nat → Int32
  | 0 => 0
  | n + 1 => if at_ n = -1 then truP at_ kd_ n else truP at_ kd_ n + (if kd_ n = 2 then 2 else 1)
def slbS (kd_ at_ : Nat → Int32) (sh : Nat → Int64) (p : Nat) : Int64 := if at_ p = -1 then 0 else sh ((kd_ p).toNatClampNeg * 49 + (at_ p).toNatClampNeg)
section HLP
variable {sc : Scr} {d : Nat} {w : Bool} {s : Nat → Int32} {l : Nat → Int64} {A : Nat → Nat → Int32} {B : Nat → Nat → Int64} {W H N P : Nat}
theorem e_agrees_loop {m : Nat} (hm : m ≤ 6) (hs : s 13 = nI m) (hf : ∀ i, i < m → ∃ c, c < 49 ∧ A 22 i = nI c) (x : Int64) : ∀ (n i : Nat), i + n = m → Ev sc (d + 1) m_N_agreesWith 7 [some (.ref 21), some (.long x), none, some (.int (nI i))] [.int (s 13), .int (nI i)] (HH w s l A B) (some (.int (b01 (allB (fun i => decide (b01 (bs x (A 22 i).toNatClampNeg) = A 23 i)) n i)))) (HH w s l A B) := by
  intro n
  induction n with
  | zero =>
    intro i hi
    refine ev_ift rfl rfl rfl (c_ge (by rw [hs]; exact (nI_leI (by omega) (by omega)).mpr (by omega))) ?_
    repeat (first | refine ev_gos 99 rfl ?_ | refine ev_gf2 rfl rfl rfl rfl ?_ | refine ev_gf2 rfl rfl HH_land rfl ?_ | refine ev_gf2 rfl rfl HH_draft rfl ?_ | refine ev_gf2 rfl rfl (by with_reducible assumption) rfl ?_)
    exact ev_rz rfl (Or.inr rfl) rfl rfl
  | succ n ih =>
    intro i hi
    refine ev_iff rfl rfl rfl (d_ge (by rw [hs]; exact nI_lt3 (by omega) (by omega) (by omega))) ?_
    repeat (first | refine ev_gos 99 rfl ?_ | refine ev_gf2 rfl rfl rfl rfl ?_ | refine ev_gf2 rfl rfl HH_land rfl ?_ | refine ev_gf2 rfl rfl HH_draft rfl ?_ | refine ev_gf2 rfl rfl (by with_reducible assumption) rfl ?_)
    refine ev_ia rfl rfl (inI (by omega) (by decide)) ?_
    rw [nI_clamp (by omega)]
    obtain ⟨c, hc, ec⟩ := hf i (by omega)
    refine ev_cs rfl rfl rfl (by rw [ec]; exact e_has sc d _ x hc) ?_
    repeat (first | refine ev_gos 99 rfl ?_ | refine ev_gf2 rfl rfl rfl rfl ?_ | refine ev_gf2 rfl rfl HH_land rfl ?_ | refine ev_gf2 rfl rfl HH_draft rfl ?_ | refine ev_gf2 rfl rfl (by with_reducible assumption) rfl ?_)
    refine ev_ba rfl rfl (inI (by omega) (by decide)) ?_
    rw [nI_clamp (by omega)]
    have e : allB (fun i => decide (b01 (bs x (A 22 i).toNatClampNeg) = A 23 i)) (n + 1) i = bif decide (b01 (bs x c) = A 23 i) then allB (fun i => decide (b01 (bs x (A 22 i).toNatClampNeg) = A 23 i)) n (i + 1) else false := by
      show (bif decide (b01 (bs x (A 22 i).toNatClampNeg) = A 23 i) then _ else _) = _
      rw [ec, nI_clamp (by omega)]
    rw [e]
    by_cases hq : b01 (bs x c) = A 23 i
    · rw [decide_eq_true hq]
      refine ev_ift rfl rfl rfl (c_eq hq) ?_
      repeat (first | refine ev_gos 99 rfl ?_ | refine ev_gf2 rfl rfl rfl rfl ?_ | refine ev_gf2 rfl rfl HH_land rfl ?_ | refine ev_gf2 rfl rfl HH_draft rfl ?_ | refine ev_gf2 rfl rfl (by with_reducible assumption) rfl ?_)
      have h3 := ih (i + 1) (by omega)
      rw [← nI_1] at h3
      exact h3
    · rw [decide_eq_false hq]
      refine ev_iff rfl rfl rfl (d_eq hq) ?_
      repeat (first | refine ev_gos 99 rfl ?_ | refine ev_gf2 rfl rfl rfl rfl ?_ | refine ev_gf2 rfl rfl HH_land rfl ?_ | refine ev_gf2 rfl rfl HH_draft rfl ?_ | refine ev_gf2 rfl rfl (by with_reducible assumption) rfl ?_)
      exact ev_rz rfl (Or.inl rfl) rfl rfl
theorem e_agrees {m : Nat} (hm : m ≤ 6) (hs : s 13 = nI m) (hf : ∀ i, i < m → ∃ c, c < 49 ∧ A 22 i = nI c) (x : Int64) : Ev sc (d + 1) m_N_agreesWith 0 (iniL 4 [.ref 21, .long x]) [] (HH w s l A B) (some (.int (b01 (agS (A 22) (A 23) x m)))) (HH w s l A B) := by
  repeat (first | refine ev_gos 99 rfl ?_ | refine ev_gf2 rfl rfl rfl rfl ?_ | refine ev_gf2 rfl rfl HH_land rfl ?_ | refine ev_gf2 rfl rfl HH_draft rfl ?_ | refine ev_gf2 rfl rfl (by with_reducible assumption) rfl ?_)
  exact e_agrees_loop hm hs hf x m 0 (Nat.zero_add m)
theorem e_firstOther_loop {m : Nat} (hm : m ≤ 20) (hs : s 14 = nI m) (x : Int32) : ∀ (n i : Nat), i + n = m → Ev sc d m_N_firstOtherThan 7 [some (.ref 21), some (.int x), some (.int (nI i))] [.int (s 14), .int (nI i)] (HH w s l A B) (some (.int (fnd (fun i => decide (¬ A 24 i = x)) n i))) (HH w s l A B) := by
  intro n
  induction n with
  | zero =>
    intro i hi
    refine ev_ift rfl rfl rfl (c_ge (by rw [hs]; exact (nI_leI (by omega) (by omega)).mpr (by omega))) ?_
    repeat (first | refine ev_gos 99 rfl ?_ | refine ev_gf2 rfl rfl rfl rfl ?_ | refine ev_gf2 rfl rfl HH_land rfl ?_ | refine ev_gf2 rfl rfl HH_draft rfl ?_ | refine ev_gf2 rfl rfl (by with_reducible assumption) rfl ?_)
    exact ev_ri rfl rfl rfl
  | succ n ih =>
    intro i hi
    refine ev_iff rfl rfl rfl (d_ge (by rw [hs]; exact nI_lt3 (by omega) (by omega) (by omega))) ?_
    repeat (first | refine ev_gos 99 rfl ?_ | refine ev_gf2 rfl rfl rfl rfl ?_ | refine ev_gf2 rfl rfl HH_land rfl ?_ | refine ev_gf2 rfl rfl HH_draft rfl ?_ | refine ev_gf2 rfl rfl (by with_reducible assumption) rfl ?_)
    refine ev_ia rfl rfl (inI (by omega) (by decide)) ?_
    rw [nI_clamp (by omega)]
    repeat (first | refine ev_gos 99 rfl ?_ | refine ev_gf2 rfl rfl rfl rfl ?_ | refine ev_gf2 rfl rfl HH_land rfl ?_ | refine ev_gf2 rfl rfl HH_draft rfl ?_ | refine ev_gf2 rfl rfl (by with_reducible assumption) rfl ?_)
    by_cases hq : A 24 i = x
    · refine ev_ift rfl rfl rfl (c_eq hq) ?_
      repeat (first | refine ev_gos 99 rfl ?_ | refine ev_gf2 rfl rfl rfl rfl ?_ | refine ev_gf2 rfl rfl HH_land rfl ?_ | refine ev_gf2 rfl rfl HH_draft rfl ?_ | refine ev_gf2 rfl rfl (by with_reducible assumption) rfl ?_)
      have h3 := ih (i + 1) (by omega)
      rw [← nI_1] at h3
      have e : fnd (fun i => decide (¬ A 24 i = x)) (n + 1) i = fnd (fun i => decide (¬ A 24 i = x)) n (i + 1) := by
        show (bif decide (¬ A 24 i = x) then _ else _) = _
        rw [decide_eq_false (fun z => z hq)]
        rfl
      rw [e]
      exact h3
    · refine ev_iff rfl rfl rfl (d_eq hq) ?_
      repeat (first | refine ev_gos 99 rfl ?_ | refine ev_gf2 rfl rfl rfl rfl ?_ | refine ev_gf2 rfl rfl HH_land rfl ?_ | refine ev_gf2 rfl rfl HH_draft rfl ?_ | refine ev_gf2 rfl rfl (by with_reducible assumption) rfl ?_)
      refine ev_ri rfl ?_ rfl
      show nI i = (bif decide (¬ A 24 i = x) then _ else _)
      rw [decide_eq_true hq]
      rfl
theorem e_firstOther {m : Nat} (hm : m ≤ 20) (hs : s 14 = nI m) (x : Int32) : Ev sc d m_N_firstOtherThan 0 (iniL 3 [.ref 21, .int x]) [] (HH w s l A B) (some (.int (fnd (fun i => decide (¬ A 24 i = x)) m 0))) (HH w s l A B) := by
  repeat (first | refine ev_gos 99 rfl ?_ | refine ev_gf2 rfl rfl rfl rfl ?_ | refine ev_gf2 rfl rfl HH_land rfl ?_ | refine ev_gf2 rfl rfl HH_draft rfl ?_ | refine ev_gf2 rfl rfl (by with_reducible assumption) rfl ?_)
  exact e_firstOther_loop hm hs x m 0 (Nat.zero_add m)
theorem e_hasNorth (hw : s 15 = nI W) (hW : W ≤ 7) : Ev sc d m_C_hasNorth 0 (iniL 1 [.ref 0]) [] (HH w s l A B) (some (.int (b01 (decide (0 < W))))) (HH w s l A B) := by
  repeat (first | refine ev_gos 99 rfl ?_ | refine ev_gf2 rfl rfl rfl rfl ?_ | refine ev_gf2 rfl rfl HH_land rfl ?_ | refine ev_gf2 rfl rfl HH_draft rfl ?_ | refine ev_gf2 rfl rfl (by with_reducible assumption) rfl ?_)
  by_cases h0 : 0 < W
  · refine ev_iff rfl rfl rfl (j_le (by rw [hw]; exact nI_nle h0 (by omega) : ¬ s 15 ≤ 0)) ?_
    repeat (first | refine ev_gos 99 rfl ?_ | refine ev_gf2 rfl rfl rfl rfl ?_ | refine ev_gf2 rfl rfl HH_land rfl ?_ | refine ev_gf2 rfl rfl HH_draft rfl ?_ | refine ev_gf2 rfl rfl (by with_reducible assumption) rfl ?_)
    exact ev_rz rfl (Or.inr rfl) (by rw [decide_eq_true h0]; rfl) rfl
  · refine ev_ift rfl rfl rfl (i_le (by rw [hw, show W = 0 by omega]; decide : s 15 ≤ 0)) ?_
    repeat (first | refine ev_gos 99 rfl ?_ | refine ev_gf2 rfl rfl rfl rfl ?_ | refine ev_gf2 rfl rfl HH_land rfl ?_ | refine ev_gf2 rfl rfl HH_draft rfl ?_ | refine ev_gf2 rfl rfl (by with_reducible assumption) rfl ?_)
    exact ev_rz rfl (Or.inl rfl) (by rw [decide_eq_false h0]; rfl) rfl
theorem ge0 {x : Int32} (h : ¬ x < 0) : 0 ≤ x := by rw [Int32.lt_iff_toInt_lt] at h; rw [Int32.le_iff_toInt_le]; omega
theorem lt0 {x : Int32} (h : x < 0) : ¬ 0 ≤ x := by rw [Int32.lt_iff_toInt_lt] at h; rw [Int32.le_iff_toInt_le]; omega
theorem nle_lt {x y : Int32} (h : ¬ y ≤ x) : x < y := by rw [Int32.le_iff_toInt_le] at h; rw [Int32.lt_iff_toInt_lt]; omega
theorem le_nlt {x y : Int32} (h : y ≤ x) : ¬ x < y := by rw [Int32.le_iff_toInt_le] at h; rw [Int32.lt_iff_toInt_lt]; omega
theorem e_isCell (hN : s 15 * s 16 = nI N) (c : Int32) : Ev sc (d + 1) m_C_isCell 0 (iniL 2 [.ref 0, .int c]) [] (HH w s l A B) (some (.int (b01 (inR c N)))) (HH w s l A B) := by
  repeat (first | refine ev_gos 99 rfl ?_ | refine ev_gf2 rfl rfl rfl rfl ?_ | refine ev_gf2 rfl rfl HH_land rfl ?_ | refine ev_gf2 rfl rfl HH_draft rfl ?_ | refine ev_gf2 rfl rfl (by with_reducible assumption) rfl ?_)
  unfold inR
  by_cases h0 : c < 0
  · refine ev_ift rfl rfl rfl (i_lt h0) ?_
    repeat (first | refine ev_gos 99 rfl ?_ | refine ev_gf2 rfl rfl rfl rfl ?_ | refine ev_gf2 rfl rfl HH_land rfl ?_ | refine ev_gf2 rfl rfl HH_draft rfl ?_ | refine ev_gf2 rfl rfl (by with_reducible assumption) rfl ?_)
    exact ev_rz rfl (Or.inl rfl) (by rw [decide_eq_false (lt0 h0)]; rfl) rfl
  · refine ev_iff rfl rfl rfl (j_lt h0) ?_
    repeat (first | refine ev_gos 99 rfl ?_ | refine ev_gf2 rfl rfl rfl rfl ?_ | refine ev_gf2 rfl rfl HH_land rfl ?_ | refine ev_gf2 rfl rfl HH_draft rfl ?_ | refine ev_gf2 rfl rfl (by with_reducible assumption) rfl ?_)
    refine ev_cv rfl rfl HH_land (e_cells HH_land) ?_
    rw [hN]
    by_cases h1 : nI N ≤ c
    · refine ev_ift rfl rfl rfl (c_ge h1) ?_
      repeat (first | refine ev_gos 99 rfl ?_ | refine ev_gf2 rfl rfl rfl rfl ?_ | refine ev_gf2 rfl rfl HH_land rfl ?_ | refine ev_gf2 rfl rfl HH_draft rfl ?_ | refine ev_gf2 rfl rfl (by with_reducible assumption) rfl ?_)
      exact ev_rz rfl (Or.inl rfl) (by rw [decide_eq_false (le_nlt h1), Bool.and_false]; rfl) rfl
    · refine ev_iff rfl rfl rfl (d_ge h1) ?_
      repeat (first | refine ev_gos 99 rfl ?_ | refine ev_gf2 rfl rfl rfl rfl ?_ | refine ev_gf2 rfl rfl HH_land rfl ?_ | refine ev_gf2 rfl rfl HH_draft rfl ?_ | refine ev_gf2 rfl rfl (by with_reducible assumption) rfl ?_)
      exact ev_rz rfl (Or.inr rfl) (by rw [decide_eq_true (ge0 h0), decide_eq_true (nle_lt h1)]; rfl) rfl
theorem e_isPerson (hP : s 17 = nI P) (c : Int32) : Ev sc d m_C_isPerson 0 (iniL 2 [.ref 0, .int c]) [] (HH w s l A B) (some (.int (b01 (inR c P)))) (HH w s l A B) := by
  repeat (first | refine ev_gos 99 rfl ?_ | refine ev_gf2 rfl rfl rfl rfl ?_ | refine ev_gf2 rfl rfl HH_land rfl ?_ | refine ev_gf2 rfl rfl HH_draft rfl ?_ | refine ev_gf2 rfl rfl (by with_reducible assumption) rfl ?_)
  unfold inR
  by_cases h0 : c < 0
  · refine ev_ift rfl rfl rfl (i_lt h0) ?_
    repeat (first | refine ev_gos 99 rfl ?_ | refine ev_gf2 rfl rfl rfl rfl ?_ | refine ev_gf2 rfl rfl HH_land rfl ?_ | refine ev_gf2 rfl rfl HH_draft rfl ?_ | refine ev_gf2 rfl rfl (by with_reducible assumption) rfl ?_)
    exact ev_rz rfl (Or.inl rfl) (by rw [decide_eq_false (lt0 h0)]; rfl) rfl
  · refine ev_iff rfl rfl rfl (j_lt h0) ?_
    repeat (first | refine ev_gos 99 rfl ?_ | refine ev_gf2 rfl rfl rfl rfl ?_ | refine ev_gf2 rfl rfl HH_land rfl ?_ | refine ev_gf2 rfl rfl HH_draft rfl ?_ | refine ev_gf2 rfl rfl (by with_reducible assumption) rfl ?_)
    by_cases h1 : nI P ≤ c
    · refine ev_ift rfl rfl rfl (c_ge (by rw [← hP] at h1; exact h1 : s 17 ≤ c)) ?_
      repeat (first | refine ev_gos 99 rfl ?_ | refine ev_gf2 rfl rfl rfl rfl ?_ | refine ev_gf2 rfl rfl HH_land rfl ?_ | refine ev_gf2 rfl rfl HH_draft rfl ?_ | refine ev_gf2 rfl rfl (by with_reducible assumption) rfl ?_)
      exact ev_rz rfl (Or.inl rfl) (by rw [decide_eq_false (le_nlt h1), Bool.and_false]; rfl) rfl
    · refine ev_iff rfl rfl rfl (d_ge (by rw [← hP] at h1; exact h1 : ¬ s 17 ≤ c)) ?_
      repeat (first | refine ev_gos 99 rfl ?_ | refine ev_gf2 rfl rfl rfl rfl ?_ | refine ev_gf2 rfl rfl HH_land rfl ?_ | refine ev_gf2 rfl rfl HH_draft rfl ?_ | refine ev_gf2 rfl rfl (by with_reducible assumption) rfl ?_)
      exact ev_rz rfl (Or.inr rfl) (by rw [decide_eq_true (ge0 h0), decide_eq_true (nle_lt h1)]; rfl) rfl
theorem e_isImage (h : AHp) (c : Int32) : Ev sc d m_C_isImage 0 (iniL 2 [.ref 0, .int c]) [] h (some (.int (b01 (inR c 2)))) h := by
  repeat (first | refine ev_gos 99 rfl ?_ | refine ev_gf2 rfl rfl rfl rfl ?_ | refine ev_gf2 rfl rfl HH_land rfl ?_ | refine ev_gf2 rfl rfl HH_draft rfl ?_ | refine ev_gf2 rfl rfl (by with_reducible assumption) rfl ?_)
  unfold inR
  by_cases h0 : c < 0
  · refine ev_ift rfl rfl rfl (i_lt h0) ?_
    repeat (first | refine ev_gos 99 rfl ?_ | refine ev_gf2 rfl rfl rfl rfl ?_ | refine ev_gf2 rfl rfl HH_land rfl ?_ | refine ev_gf2 rfl rfl HH_draft rfl ?_ | refine ev_gf2 rfl rfl (by with_reducible assumption) rfl ?_)
    exact ev_rz rfl (Or.inl rfl) (by rw [decide_eq_false (lt0 h0)]; rfl) rfl
  · refine ev_iff rfl rfl rfl (j_lt h0) ?_
    repeat (first | refine ev_gos 99 rfl ?_ | refine ev_gf2 rfl rfl rfl rfl ?_ | refine ev_gf2 rfl rfl HH_land rfl ?_ | refine ev_gf2 rfl rfl HH_draft rfl ?_ | refine ev_gf2 rfl rfl (by with_reducible assumption) rfl ?_)
    by_cases h1 : nI 2 ≤ c
    · refine ev_ift rfl rfl rfl (c_ge h1) ?_
      repeat (first | refine ev_gos 99 rfl ?_ | refine ev_gf2 rfl rfl rfl rfl ?_ | refine ev_gf2 rfl rfl HH_land rfl ?_ | refine ev_gf2 rfl rfl HH_draft rfl ?_ | refine ev_gf2 rfl rfl (by with_reducible assumption) rfl ?_)
      exact ev_rz rfl (Or.inl rfl) (by rw [decide_eq_false (le_nlt h1), Bool.and_false]; rfl) rfl
    · refine ev_iff rfl rfl rfl (d_ge h1) ?_
      repeat (first | refine ev_gos 99 rfl ?_ | refine ev_gf2 rfl rfl rfl rfl ?_ | refine ev_gf2 rfl rfl HH_land rfl ?_ | refine ev_gf2 rfl rfl HH_draft rfl ?_ | refine ev_gf2 rfl rfl (by with_reducible assumption) rfl ?_)
      exact ev_rz rfl (Or.inr rfl) (by rw [decide_eq_true (ge0 h0), decide_eq_true (nle_lt h1)]; rfl) rfl
theorem e_everybody : Ev sc d m_C_everybody 0 (iniL 1 [.ref 0]) [] (HH w s l A B) (some (.int (((1 : Int32) <<< (s 17 &&& 31)) - 1))) (HH w s l A B) := by
  repeat (first | refine ev_gos 99 rfl ?_ | refine ev_gf2 rfl rfl rfl rfl ?_ | refine ev_gf2 rfl rfl HH_land rfl ?_ | refine ev_gf2 rfl rfl HH_draft rfl ?_ | refine ev_gf2 rfl rfl (by with_reducible assumption) rfl ?_)
  exact ev_ri rfl rfl rfl
theorem e_whoLies_loop (hP : s 17 = nI P) (hP7 : P ≤ 7) : ∀ (n i : Nat), i + n = P → Ev sc d m_C_whoLies 12 [some (.ref 0), some (.int (whoP (A 11) i)), some (.int (nI i))] [.int (s 17), .int (nI i)] (HH w s l A B) (some (.int (whoP (A 11) P))) (HH w s l A B) := by
  intro n
  induction n with
  | zero =>
    intro i hi
    have e : i = P := by omega
    subst e
    refine ev_ift rfl rfl rfl (c_ge (by rw [hP]; exact (nI_leI (by omega) (by omega)).mpr (by omega))) ?_
    repeat (first | refine ev_gos 99 rfl ?_ | refine ev_gf2 rfl rfl rfl rfl ?_ | refine ev_gf2 rfl rfl HH_land rfl ?_ | refine ev_gf2 rfl rfl HH_draft rfl ?_ | refine ev_gf2 rfl rfl (by with_reducible assumption) rfl ?_)
    exact ev_ri rfl rfl rfl
  | succ n ih =>
    intro i hi
    refine ev_iff rfl rfl rfl (d_ge (by rw [hP]; exact nI_lt3 (by omega) (by omega) (by omega))) ?_
    repeat (first | refine ev_gos 99 rfl ?_ | refine ev_gf2 rfl rfl rfl rfl ?_ | refine ev_gf2 rfl rfl HH_land rfl ?_ | refine ev_gf2 rfl rfl HH_draft rfl ?_ | refine ev_gf2 rfl rfl (by with_reducible assumption) rfl ?_)
    refine ev_ia rfl rfl (inI (by omega) (by decide)) ?_
    rw [nI_clamp (by omega)]
    repeat (first | refine ev_gos 99 rfl ?_ | refine ev_gf2 rfl rfl rfl rfl ?_ | refine ev_gf2 rfl rfl HH_land rfl ?_ | refine ev_gf2 rfl rfl HH_draft rfl ?_ | refine ev_gf2 rfl rfl (by with_reducible assumption) rfl ?_)
    have h3 := ih (i + 1) (by omega)
    rw [← nI_1] at h3
    by_cases hq : A 11 i = -1
    · refine ev_ift rfl rfl rfl (c_eq hq) ?_
      repeat (first | refine ev_gos 99 rfl ?_ | refine ev_gf2 rfl rfl rfl rfl ?_ | refine ev_gf2 rfl rfl HH_land rfl ?_ | refine ev_gf2 rfl rfl HH_draft rfl ?_ | refine ev_gf2 rfl rfl (by with_reducible assumption) rfl ?_)
      rw [show whoP (A 11) (i + 1) = whoP (A 11) i by show (if A 11 i = -1 then _ else _) = _; rw [if_pos hq]] at h3
      exact h3
    · refine ev_iff rfl rfl rfl (d_eq hq) ?_
      repeat (first | refine ev_gos 99 rfl ?_ | refine ev_gf2 rfl rfl rfl rfl ?_ | refine ev_gf2 rfl rfl HH_land rfl ?_ | refine ev_gf2 rfl rfl HH_draft rfl ?_ | refine ev_gf2 rfl rfl (by with_reducible assumption) rfl ?_)
      rw [show whoP (A 11) (i + 1) = whoP (A 11) i ||| ((1 : Int32) <<< (nI i &&& 31)) by show (if A 11 i = -1 then _ else _) = _; rw [if_neg hq]] at h3
      exact h3
theorem e_whoLies (hP : s 17 = nI P) (hP7 : P ≤ 7) : Ev sc d m_C_whoLies 0 (iniL 3 [.ref 0]) [] (HH w s l A B) (some (.int (whoP (A 11) P))) (HH w s l A B) := by
  repeat (first | refine ev_gos 99 rfl ?_ | refine ev_gf2 rfl rfl rfl rfl ?_ | refine ev_gf2 rfl rfl HH_land rfl ?_ | refine ev_gf2 rfl rfl HH_draft rfl ?_ | refine ev_gf2 rfl rfl (by with_reducible assumption) rfl ?_)
  exact e_whoLies_loop hP hP7 P 0 (Nat.zero_add P)
theorem e_whoIsAt_loop (hP : s 17 = nI P) (hP7 : P ≤ 7) (x : Int32) : ∀ (n i : Nat), i + n = P → Ev sc d m_C_whoIsAt 10 [some (.ref 0), some (.int x), some (.int (nI i))] [.int (s 17), .int (nI i)] (HH w s l A B) (some (.int (fnd (fun i => decide (A 11 i = x)) n i))) (HH w s l A B) := by
  intro n
  induction n with
  | zero =>
    intro i hi
    refine ev_ift rfl rfl rfl (c_ge (by rw [hP]; exact (nI_leI (by omega) (by omega)).mpr (by omega))) ?_
    repeat (first | refine ev_gos 99 rfl ?_ | refine ev_gf2 rfl rfl rfl rfl ?_ | refine ev_gf2 rfl rfl HH_land rfl ?_ | refine ev_gf2 rfl rfl HH_draft rfl ?_ | refine ev_gf2 rfl rfl (by with_reducible assumption) rfl ?_)
    exact ev_ri rfl rfl rfl
  | succ n ih =>
    intro i hi
    refine ev_iff rfl rfl rfl (d_ge (by rw [hP]; exact nI_lt3 (by omega) (by omega) (by omega))) ?_
    repeat (first | refine ev_gos 99 rfl ?_ | refine ev_gf2 rfl rfl rfl rfl ?_ | refine ev_gf2 rfl rfl HH_land rfl ?_ | refine ev_gf2 rfl rfl HH_draft rfl ?_ | refine ev_gf2 rfl rfl (by with_reducible assumption) rfl ?_)
    refine ev_ia rfl rfl (inI (by omega) (by decide)) ?_
    rw [nI_clamp (by omega)]
    repeat (first | refine ev_gos 99 rfl ?_ | refine ev_gf2 rfl rfl rfl rfl ?_ | refine ev_gf2 rfl rfl HH_land rfl ?_ | refine ev_gf2 rfl rfl HH_draft rfl ?_ | refine ev_gf2 rfl rfl (by with_reducible assumption) rfl ?_)
    by_cases hq : A 11 i = x
    · refine ev_iff rfl rfl rfl (d_ne hq) ?_
      repeat (first | refine ev_gos 99 rfl ?_ | refine ev_gf2 rfl rfl rfl rfl ?_ | refine ev_gf2 rfl rfl HH_land rfl ?_ | refine ev_gf2 rfl rfl HH_draft rfl ?_ | refine ev_gf2 rfl rfl (by with_reducible assumption) rfl ?_)
      refine ev_ri rfl ?_ rfl
      show nI i = (bif decide (A 11 i = x) then _ else _)
      rw [decide_eq_true hq]
      rfl
    · refine ev_ift rfl rfl rfl (c_ne hq) ?_
      repeat (first | refine ev_gos 99 rfl ?_ | refine ev_gf2 rfl rfl rfl rfl ?_ | refine ev_gf2 rfl rfl HH_land rfl ?_ | refine ev_gf2 rfl rfl HH_draft rfl ?_ | refine ev_gf2 rfl rfl (by with_reducible assumption) rfl ?_)
      have h3 := ih (i + 1) (by omega)
      rw [← nI_1] at h3
      have e : fnd (fun i => decide (A 11 i = x)) (n + 1) i = fnd (fun i => decide (A 11 i = x)) n (i + 1) := by
        show (bif decide (A 11 i = x) then _ else _) = _
        rw [decide_eq_false hq]
        rfl
      rw [e]
      exact h3
theorem e_whoIsAt (hP : s 17 = nI P) (hP7 : P ≤ 7) (x : Int32) : Ev sc d m_C_whoIsAt 0 (iniL 3 [.ref 0, .int x]) [] (HH w s l A B) (some (.int (fnd (fun i => decide (A 11 i = x)) P 0))) (HH w s l A B) := by
  repeat (first | refine ev_gos 99 rfl ?_ | refine ev_gf2 rfl rfl rfl rfl ?_ | refine ev_gf2 rfl rfl HH_land rfl ?_ | refine ev_gf2 rfl rfl HH_draft rfl ?_ | refine ev_gf2 rfl rfl (by with_reducible assumption) rfl ?_)
  exact e_whoIsAt_loop hP hP7 x P 0 (Nat.zero_add P)
theorem e_truth_loop (hP : s 17 = nI P) (hP7 : P ≤ 7) : ∀ (n i : Nat), i + n = P → Ev sc d m_C_truth 12 [some (.ref 0), some (.int (truP (A 11) (A 4) i)), some (.int (nI i))] [.int (s 17), .int (nI i)] (HH w s l A B) (some (.int (truP (A 11) (A 4) P))) (HH w s l A B) := by
  intro n
  induction n with
  | zero =>
    intro i hi
    have e : i = P := by omega
    subst e
    refine ev_ift rfl rfl rfl (c_ge (by rw [hP]; exact (nI_leI (by omega) (by omega)).mpr (by omega))) ?_
    repeat (first | refine ev_gos 99 rfl ?_ | refine ev_gf2 rfl rfl rfl rfl ?_ | refine ev_gf2 rfl rfl HH_land rfl ?_ | refine ev_gf2 rfl rfl HH_draft rfl ?_ | refine ev_gf2 rfl rfl (by with_reducible assumption) rfl ?_)
    exact ev_ri rfl rfl rfl
  | succ n ih =>
    intro i hi
    refine ev_iff rfl rfl rfl (d_ge (by rw [hP]; exact nI_lt3 (by omega) (by omega) (by omega))) ?_
    repeat (first | refine ev_gos 99 rfl ?_ | refine ev_gf2 rfl rfl rfl rfl ?_ | refine ev_gf2 rfl rfl HH_land rfl ?_ | refine ev_gf2 rfl rfl HH_draft rfl ?_ | refine ev_gf2 rfl rfl (by with_reducible assumption) rfl ?_)
    refine ev_ia rfl rfl (inI (by omega) (by decide)) ?_
    rw [nI_clamp (by omega)]
    repeat (first | refine ev_gos 99 rfl ?_ | refine ev_gf2 rfl rfl rfl rfl ?_ | refine ev_gf2 rfl rfl HH_land rfl ?_ | refine ev_gf2 rfl rfl HH_draft rfl ?_ | refine ev_gf2 rfl rfl (by with_reducible assumption) rfl ?_)
    have h3 := ih (i + 1) (by omega)
    rw [← nI_1] at h3
    by_cases hq : A 11 i = -1
    · refine ev_ift rfl rfl rfl (c_eq hq) ?_
      repeat (first | refine ev_gos 99 rfl ?_ | refine ev_gf2 rfl rfl rfl rfl ?_ | refine ev_gf2 rfl rfl HH_land rfl ?_ | refine ev_gf2 rfl rfl HH_draft rfl ?_ | refine ev_gf2 rfl rfl (by with_reducible assumption) rfl ?_)
      rw [show truP (A 11) (A 4) (i + 1) = truP (A 11) (A 4) i by show (if A 11 i = -1 then _ else _) = _; rw [if_pos hq]] at h3
      exact h3
    · refine ev_iff rfl rfl rfl (d_eq hq) ?_
      repeat (first | refine ev_gos 99 rfl ?_ | refine ev_gf2 rfl rfl rfl rfl ?_ | refine ev_gf2 rfl rfl HH_land rfl ?_ | refine ev_gf2 rfl rfl HH_draft rfl ?_ | refine ev_gf2 rfl rfl (by with_reducible assumption) rfl ?_)
      refine ev_ia rfl HH_kinds (inI (by omega) (by decide)) ?_
      rw [nI_clamp (by omega)]
      repeat (first | refine ev_gos 99 rfl ?_ | refine ev_gf2 rfl rfl rfl rfl ?_ | refine ev_gf2 rfl rfl HH_land rfl ?_ | refine ev_gf2 rfl rfl HH_draft rfl ?_ | refine ev_gf2 rfl rfl (by with_reducible assumption) rfl ?_)
      rw [show truP (A 11) (A 4) (i + 1) = truP (A 11) (A 4) i + (if A 4 i = 2 then 2 else 1) by show (if A 11 i = -1 then _ else _) = _; rw [if_neg hq]] at h3
      by_cases h2 : A 4 i = 2
      · rw [if_pos h2] at h3
        refine ev_iff rfl rfl rfl (d_ne h2) ?_
        repeat (first | refine ev_gos 99 rfl ?_ | refine ev_gf2 rfl rfl rfl rfl ?_ | refine ev_gf2 rfl rfl HH_land rfl ?_ | refine ev_gf2 rfl rfl HH_draft rfl ?_ | refine ev_gf2 rfl rfl (by with_reducible assumption) rfl ?_)
        exact h3
      · rw [if_neg h2] at h3
        refine ev_ift rfl rfl rfl (c_ne h2) ?_
        repeat (first | refine ev_gos 99 rfl ?_ | refine ev_gf2 rfl rfl rfl rfl ?_ | refine ev_gf2 rfl rfl HH_land rfl ?_ | refine ev_gf2 rfl rfl HH_draft rfl ?_ | refine ev_gf2 rfl rfl (by with_reducible assumption) rfl ?_)
        exact h3
theorem e_truth (hP : s 17 = nI P) (hP7 : P ≤ 7) : Ev sc d m_C_truth 0 (iniL 3 [.ref 0]) [] (HH w s l A B) (some (.int (truP (A 11) (A 4) P))) (HH w s l A B) := by
  repeat (first | refine ev_gos 99 rfl ?_ | refine ev_gf2 rfl rfl rfl rfl ?_ | refine ev_gf2 rfl rfl HH_land rfl ?_ | refine ev_gf2 rfl rfl HH_draft rfl ?_ | refine ev_gf2 rfl rfl (by with_reducible assumption) rfl ?_)
  exact e_truth_loop hP hP7 P 0 (Nat.zero_add P)
theorem e_shapeLeftBy {p : Nat} (hp : p < 7) (hk : ∃ k, k < 5 ∧ A 4 p = nI k) (ha : A 11 p = -1 ∨ ∃ c, c < 49 ∧ A 11 p = nI c) : Ev sc (d + 1) m_C_shapeLeftBy 0 (iniL 2 [.ref 0, .int (nI p)]) [] (HH w s l A B) (some (.long (slbS (A 4) (A 11) (B 5) p))) (HH w s l A B) := by
  repeat (first | refine ev_gos 99 rfl ?_ | refine ev_gf2 rfl rfl rfl rfl ?_ | refine ev_gf2 rfl rfl HH_land rfl ?_ | refine ev_gf2 rfl rfl HH_draft rfl ?_ | refine ev_gf2 rfl rfl (by with_reducible assumption) rfl ?_)
  refine ev_ia rfl rfl (inI (by omega) (by decide)) ?_
  rw [nI_clamp (by omega)]
  repeat (first | refine ev_gos 99 rfl ?_ | refine ev_gf2 rfl rfl rfl rfl ?_ | refine ev_gf2 rfl rfl HH_land rfl ?_ | refine ev_gf2 rfl rfl HH_draft rfl ?_ | refine ev_gf2 rfl rfl (by with_reducible assumption) rfl ?_)
  unfold slbS
  by_cases hq : A 11 p = -1
  · refine ev_iff rfl rfl rfl (d_ne hq) ?_
    repeat (first | refine ev_gos 99 rfl ?_ | refine ev_gf2 rfl rfl rfl rfl ?_ | refine ev_gf2 rfl rfl HH_land rfl ?_ | refine ev_gf2 rfl rfl HH_draft rfl ?_ | refine ev_gf2 rfl rfl (by with_reducible assumption) rfl ?_)
    exact ev_rl rfl (by rw [if_pos hq]) rfl
  · refine ev_ift rfl rfl rfl (c_ne hq) ?_
    repeat (first | refine ev_gos 99 rfl ?_ | refine ev_gf2 rfl rfl rfl rfl ?_ | refine ev_gf2 rfl rfl HH_land rfl ?_ | refine ev_gf2 rfl rfl HH_draft rfl ?_ | refine ev_gf2 rfl rfl (by with_reducible assumption) rfl ?_)
    refine ev_ia rfl HH_kinds (inI (by omega) (by decide)) ?_
    rw [nI_clamp (by omega)]
    repeat (first | refine ev_gos 99 rfl ?_ | refine ev_gf2 rfl rfl rfl rfl ?_ | refine ev_gf2 rfl rfl HH_land rfl ?_ | refine ev_gf2 rfl rfl HH_draft rfl ?_ | refine ev_gf2 rfl rfl (by with_reducible assumption) rfl ?_)
    refine ev_ia rfl rfl (inI (by omega) (by decide)) ?_
    rw [nI_clamp (by omega)]
    obtain ⟨k, k1, k2⟩ := hk
    rcases ha with ha | ⟨c, c1, c2⟩
    · exact absurd ha hq
    · refine ev_cv rfl rfl HH_land (by rw [k2, c2]; exact e_shape HH_land HH_shapes k1 c1) ?_
      exact ev_rl rfl (by rw [if_neg hq, k2, c2, nI_clamp (by omega), nI_clamp (by omega)]) rfl
theorem e_countNow (hw : s 15 = nI W) (ha : l 0 = allS N) (hl : l 1 = lefS W N) (hr : l 2 = rigS W N) : Ev sc (d + 5) m_C_countNow 0 (iniL 1 [.ref 0]) [] (HH w s l A B) (some (.int (nI (cntS W N (dnS (A 10) 3 49))))) (HH w s l A B) := by
  repeat (first | refine ev_gos 99 rfl ?_ | refine ev_gf2 rfl rfl rfl rfl ?_ | refine ev_gf2 rfl rfl HH_land rfl ?_ | refine ev_gf2 rfl rfl HH_draft rfl ?_ | refine ev_gf2 rfl rfl (by with_reducible assumption) rfl ?_)
  refine ev_cv rfl rfl rfl (e_seen (p := 9) (pd := 10) (pa := 11) (wd := s 9) (nt := s 10) (f := A 10) rfl rfl) ?_
  refine ev_cv rfl rfl HH_land (e_countOf HH_land hw ha hl hr _) ?_
  exact ev_ri rfl rfl rfl
end HLP
end
section
/-! the class: what follows from the north; deeds kept; draws -/
/-- what holds of the class's land -/
def CN (s : Nat → Int32) (l : Nat → Int64) (A : Nat → Nat → Int32) (B : Nat → Nat → Int64) (W H P : Nat) : Prop :=
  s 15 = nI W ∧ s 16 = nI H ∧ s 17 = nI P ∧ W ≤ 7 ∧ H ≤ 7 ∧ P ≤ 7 ∧ ((W = 0 ∧ H = 0 ∧ P = 0) ∨ (2 ≤ W ∧ 2 ≤ H)) ∧ l 0 = allS (W * H) ∧ l 1 = lefS W (W * H) ∧ l 2 = rigS W (W * H) ∧ (∀ p, p < P → ∃ k, k < 5 ∧ A 4 p = nI k) ∧ (∀ k c, k < 5 → c < 49 → B 5 (k * 49 + c) = if c < W * H then drwS W (W * H) (l 3) k c else 0)
theorem WH49 {W H : Nat} (hW : W ≤ 7) (hH : H ≤ 7) : W * H ≤ 49 := Nat.le_trans (Nat.mul_le_mul hW hH) (by decide)
theorem CN.cells {s : Nat → Int32} {l : Nat → Int64} {A : Nat → Nat → Int32} {B : Nat → Nat → Int64} {W H P : Nat} (h : CN s l A B W H P) : s 15 * s 16 = nI (W * H) := by rw [h.1, h.2.1, pk_mul]
theorem CN.n49 {s : Nat → Int32} {l : Nat → Int64} {A : Nat → Nat → Int32} {B : Nat → Nat → Int64} {W H P : Nat} (h : CN s l A B W H P) : W * H ≤ 49 := WH49 h.2.2.2.1 h.2.2.2.2.1
/-- who lies, lies at a cell -/
def LF (at_ : Nat → Int32) (N : Nat) : Prop := ∀ p, p < 7 → at_ p = -1 ∨ ∃ c, c < N ∧ at_ p = nI c
def setP (f : Nat → Bool) (n : Nat) : Int64 := mk64 (fun i => decide (i < n) && f i)
theorem setP_0 (f : Nat → Bool) : setP f 0 = 0 := bs_ext (fun i hi => by unfold setP; rw [bs_mk _ hi, bs_0]; simp)
theorem setP_t {f : Nat → Bool} {n : Nat} (hn : n < 64) (h : f n = true) : setP f (n + 1) = setP f n ||| bit n := by
  apply bs_ext
  intro i hi
  rw [bs_or, bs_bitc hn hi]
  unfold setP
  rw [bs_mk _ hi, bs_mk _ hi]
  by_cases e : i = n
  · subst e
    simp [h]
  · by_cases e2 : i < n
    · simp [e2, e, show i < n + 1 by omega]
    · simp [e2, e, show ¬ i < n + 1 by omega]
theorem setP_f {f : Nat → Bool} {n : Nat} (h : f n = false) : setP f (n + 1) = setP f n := by
  apply bs_ext
  intro i hi
  unfold setP
  rw [bs_mk _ hi, bs_mk _ hi]
  by_cases e : i = n
  · subst e
    simp [h]
  · by_cases e2 : i < n
    · simp [e2, show i < n + 1 by omega]
    · simp [e2, show ¬ i < n + 1 by omega]
def dS (x : Int32) : Int32 := (x * 1103515245 + 12345) &&& 2147483647
theorem dS_nI (x : Int32) : ∃ t, t < 2 ^ 31 ∧ dS x = nI t := by
  obtain ⟨j, h1, h2⟩ := pk_andE (x * 1103515245 + 12345) (m := 2147483647) 31 (by decide)
  exact ⟨j, h1, h2⟩
def drN (x : Int32) (m : Nat) : Nat := (dS x).toNatClampNeg / 65536 % m
def nrP (W : Nat) (at_ : Nat → Int32) (p : Nat) : Nat → Int32
  | 0 => -1
  | n + 1 => if n = p ∨ at_ p = -1 ∨ at_ n = -1 then nrP W at_ p n else if nrP W at_ p n = -1 then nI (dist W (at_ p).toNatClampNeg (at_ n).toNatClampNeg) else if nI (dist W (at_ p).toNatClampNeg (at_ n).toNatClampNeg) < nrP W at_ p n then nI (dist W (at_ p).toNatClampNeg (at_ n).toNatClampNeg) else nrP W at_ p n
def farP (W : Nat) (at_ : Nat → Int32) (P : Nat) : Nat → Int32 × Int32
  | 0 => (-1, -1)
  | n + 1 => if (farP W at_ P n).2 < nrP W at_ n P then (nI n, nrP W at_ n P) else farP W at_ P n
section DED
variable {sc : Scr} {d : Nat} {w : Bool} {s : Nat → Int32} {l : Nat → Int64} {A : Nat → Nat → Int32} {B : Nat → Nat → Int64} {W H P : Nat}
theorem e_nearest_loop (hN : CN s l A B W H P) (hA : LF (A 11) (W * H)) {p : Nat} (hp : p < P) : ∀ (n i : Nat), i + n = P → Ev sc (d + 1) m_C_stepsToNearest 12 [some (.ref 0), some (.int (nI p)), some (.int (nrP W (A 11) p i)), some (.int (nI i)), none] [.int (s 17), .int (nI i)] (HH w s l A B) (some (.int (nrP W (A 11) p P))) (HH w s l A B) := by
  have hP7 : P ≤ 7 := hN.2.2.2.2.2.1
  have hW7 : W ≤ 7 := hN.2.2.2.1
  have h49 := hN.n49
  intro n
  induction n with
  | zero =>
    intro i hi
    have e : i = P := by omega
    subst e
    refine ev_ift rfl rfl rfl (c_ge (by rw [hN.2.2.1]; exact (nI_leI (by omega) (by omega)).mpr (by omega))) ?_
    repeat (first | refine ev_gos 99 rfl ?_ | refine ev_gf2 rfl rfl rfl rfl ?_ | refine ev_gf2 rfl rfl HH_land rfl ?_ | refine ev_gf2 rfl rfl HH_draft rfl ?_ | refine ev_gf2 rfl rfl (by with_reducible assumption) rfl ?_)
    exact ev_ri rfl rfl rfl
  | succ n ih =>
    intro i hi
    refine ev_iff rfl rfl rfl (d_ge (by rw [hN.2.2.1]; exact nI_lt3 (by omega) (by omega) (by omega))) ?_
    repeat (first | refine ev_gos 99 rfl ?_ | refine ev_gf2 rfl rfl rfl rfl ?_ | refine ev_gf2 rfl rfl HH_land rfl ?_ | refine ev_gf2 rfl rfl HH_draft rfl ?_ | refine ev_gf2 rfl rfl (by with_reducible assumption) rfl ?_)
    have h3 := ih (i + 1) (by omega)
    rw [← nI_1] at h3
    have hskip : (i = p ∨ A 11 p = -1 ∨ A 11 i = -1) → nrP W (A 11) p (i + 1) = nrP W (A 11) p i := fun h => by
      show (if i = p ∨ A 11 p = -1 ∨ A 11 i = -1 then _ else _) = _
      rw [if_pos h]
    by_cases h1 : i = p
    · rw [hskip (Or.inl h1)] at h3
      refine ev_ift rfl rfl rfl (c_eq (by rw [h1])) ?_
      repeat (first | refine ev_gos 99 rfl ?_ | refine ev_gf2 rfl rfl rfl rfl ?_ | refine ev_gf2 rfl rfl HH_land rfl ?_ | refine ev_gf2 rfl rfl HH_draft rfl ?_ | refine ev_gf2 rfl rfl (by with_reducible assumption) rfl ?_)
      exact ev_wk2 h3 rfl ⟨rfl, rfl, rfl, rfl, trivial⟩
    · refine ev_iff rfl rfl rfl (d_eq (fun z => h1 ((nI_eq (by omega) (by omega)).mp z))) ?_
      repeat (first | refine ev_gos 99 rfl ?_ | refine ev_gf2 rfl rfl rfl rfl ?_ | refine ev_gf2 rfl rfl HH_land rfl ?_ | refine ev_gf2 rfl rfl HH_draft rfl ?_ | refine ev_gf2 rfl rfl (by with_reducible assumption) rfl ?_)
      refine ev_ia rfl rfl (inI (by omega) (by decide)) ?_
      rw [nI_clamp (by omega)]
      repeat (first | refine ev_gos 99 rfl ?_ | refine ev_gf2 rfl rfl rfl rfl ?_ | refine ev_gf2 rfl rfl HH_land rfl ?_ | refine ev_gf2 rfl rfl HH_draft rfl ?_ | refine ev_gf2 rfl rfl (by with_reducible assumption) rfl ?_)
      by_cases h2 : A 11 p = -1
      · rw [hskip (Or.inr (Or.inl h2))] at h3
        refine ev_ift rfl rfl rfl (c_eq h2) ?_
        repeat (first | refine ev_gos 99 rfl ?_ | refine ev_gf2 rfl rfl rfl rfl ?_ | refine ev_gf2 rfl rfl HH_land rfl ?_ | refine ev_gf2 rfl rfl HH_draft rfl ?_ | refine ev_gf2 rfl rfl (by with_reducible assumption) rfl ?_)
        exact ev_wk2 h3 rfl ⟨rfl, rfl, rfl, rfl, trivial⟩
      · refine ev_iff rfl rfl rfl (d_eq h2) ?_
        repeat (first | refine ev_gos 99 rfl ?_ | refine ev_gf2 rfl rfl rfl rfl ?_ | refine ev_gf2 rfl rfl HH_land rfl ?_ | refine ev_gf2 rfl rfl HH_draft rfl ?_ | refine ev_gf2 rfl rfl (by with_reducible assumption) rfl ?_)
        refine ev_ia rfl rfl (inI (by omega) (by decide)) ?_
        rw [nI_clamp (by omega)]
        repeat (first | refine ev_gos 99 rfl ?_ | refine ev_gf2 rfl rfl rfl rfl ?_ | refine ev_gf2 rfl rfl HH_land rfl ?_ | refine ev_gf2 rfl rfl HH_draft rfl ?_ | refine ev_gf2 rfl rfl (by with_reducible assumption) rfl ?_)
        by_cases h4 : A 11 i = -1
        · rw [hskip (Or.inr (Or.inr h4))] at h3
          refine ev_ift rfl rfl rfl (c_eq h4) ?_
          repeat (first | refine ev_gos 99 rfl ?_ | refine ev_gf2 rfl rfl rfl rfl ?_ | refine ev_gf2 rfl rfl HH_land rfl ?_ | refine ev_gf2 rfl rfl HH_draft rfl ?_ | refine ev_gf2 rfl rfl (by with_reducible assumption) rfl ?_)
          exact ev_wk2 h3 rfl ⟨rfl, rfl, rfl, rfl, trivial⟩
        · refine ev_iff rfl rfl rfl (d_eq h4) ?_
          repeat (first | refine ev_gos 99 rfl ?_ | refine ev_gf2 rfl rfl rfl rfl ?_ | refine ev_gf2 rfl rfl HH_land rfl ?_ | refine ev_gf2 rfl rfl HH_draft rfl ?_ | refine ev_gf2 rfl rfl (by with_reducible assumption) rfl ?_)
          refine ev_ia rfl rfl (inI (by omega) (by decide)) ?_
          rw [nI_clamp (by omega)]
          repeat (first | refine ev_gos 99 rfl ?_ | refine ev_gf2 rfl rfl rfl rfl ?_ | refine ev_gf2 rfl rfl HH_land rfl ?_ | refine ev_gf2 rfl rfl HH_draft rfl ?_ | refine ev_gf2 rfl rfl (by with_reducible assumption) rfl ?_)
          refine ev_ia rfl rfl (inI (by omega) (by decide)) ?_
          rw [nI_clamp (by omega)]
          rcases hA p (by omega) with e | ⟨a, a1, a2⟩
          · exact absurd e h2
          rcases hA i (by omega) with e | ⟨b, b1, b2⟩
          · exact absurd e h4
          have hW1 : 1 ≤ W := by
            rcases hN.2.2.2.2.2.2.1 with q | q
            · omega
            · omega
          refine ev_cv rfl rfl HH_land (by rw [a2, b2]; exact e_steps HH_land hN.1 hW1 hW7 (by omega) (by omega)) ?_
          repeat (first | refine ev_gos 99 rfl ?_ | refine ev_gf2 rfl rfl rfl rfl ?_ | refine ev_gf2 rfl rfl HH_land rfl ?_ | refine ev_gf2 rfl rfl HH_draft rfl ?_ | refine ev_gf2 rfl rfl (by with_reducible assumption) rfl ?_)
          have hst : nrP W (A 11) p (i + 1) = if nrP W (A 11) p i = -1 then nI (dist W a b) else if nI (dist W a b) < nrP W (A 11) p i then nI (dist W a b) else nrP W (A 11) p i := by
            show (if i = p ∨ A 11 p = -1 ∨ A 11 i = -1 then _ else _) = _
            rw [if_neg (by simp [h1, h2, h4]), a2, b2, nI_clamp (by omega), nI_clamp (by omega)]
          rw [hst] at h3
          by_cases h5 : nrP W (A 11) p i = -1
          · rw [if_pos h5] at h3
            refine ev_iff rfl rfl rfl (d_ne h5) ?_
            repeat (first | refine ev_gos 99 rfl ?_ | refine ev_gf2 rfl rfl rfl rfl ?_ | refine ev_gf2 rfl rfl HH_land rfl ?_ | refine ev_gf2 rfl rfl HH_draft rfl ?_ | refine ev_gf2 rfl rfl (by with_reducible assumption) rfl ?_)
            exact ev_wk2 h3 rfl ⟨rfl, rfl, rfl, rfl, trivial⟩
          · rw [if_neg h5] at h3
            refine ev_ift rfl rfl rfl (c_ne h5) ?_
            repeat (first | refine ev_gos 99 rfl ?_ | refine ev_gf2 rfl rfl rfl rfl ?_ | refine ev_gf2 rfl rfl HH_land rfl ?_ | refine ev_gf2 rfl rfl HH_draft rfl ?_ | refine ev_gf2 rfl rfl (by with_reducible assumption) rfl ?_)
            refine ev_hw rfl rfl rfl ?_
            repeat (first | refine ev_gos 99 rfl ?_ | refine ev_gf2 rfl rfl rfl rfl ?_ | refine ev_gf2 rfl rfl HH_land rfl ?_ | refine ev_gf2 rfl rfl HH_draft rfl ?_ | refine ev_gf2 rfl rfl (by with_reducible assumption) rfl ?_)
            exact ev_wk2 h3 rfl ⟨rfl, rfl, rfl, rfl, trivial⟩
theorem e_nearest (hN : CN s l A B W H P) (hA : LF (A 11) (W * H)) {p : Nat} (hp : p < P) : Ev sc (d + 1) m_C_stepsToNearest 0 (iniL 5 [.ref 0, .int (nI p)]) [] (HH w s l A B) (some (.int (nrP W (A 11) p P))) (HH w s l A B) := by
  repeat (first | refine ev_gos 99 rfl ?_ | refine ev_gf2 rfl rfl rfl rfl ?_ | refine ev_gf2 rfl rfl HH_land rfl ?_ | refine ev_gf2 rfl rfl HH_draft rfl ?_ | refine ev_gf2 rfl rfl (by with_reducible assumption) rfl ?_)
  exact e_nearest_loop hN hA hp P 0 (Nat.zero_add P)
theorem e_farOut_loop (hN : CN s l A B W H P) (hA : LF (A 11) (W * H)) : ∀ (n i : Nat), i + n = P → Ev sc (d + 2) m_C_farOut 14 [some (.ref 0), some (.int (farP W (A 11) P i).1), some (.int (farP W (A 11) P i).2), some (.int (nI i)), none] [.int (s 17), .int (nI i)] (HH w s l A B) (some (.int (farP W (A 11) P P).1)) (HH w s l A B) := by
  have hP7 : P ≤ 7 := hN.2.2.2.2.2.1
  intro n
  induction n with
  | zero =>
    intro i hi
    have e : i = P := by omega
    subst e
    refine ev_ift rfl rfl rfl (c_ge (by rw [hN.2.2.1]; exact (nI_leI (by omega) (by omega)).mpr (by omega))) ?_
    repeat (first | refine ev_gos 99 rfl ?_ | refine ev_gf2 rfl rfl rfl rfl ?_ | refine ev_gf2 rfl rfl HH_land rfl ?_ | refine ev_gf2 rfl rfl HH_draft rfl ?_ | refine ev_gf2 rfl rfl (by with_reducible assumption) rfl ?_)
    exact ev_ri rfl rfl rfl
  | succ n ih =>
    intro i hi
    refine ev_iff rfl rfl rfl (d_ge (by rw [hN.2.2.1]; exact nI_lt3 (by omega) (by omega) (by omega))) ?_
    repeat (first | refine ev_gos 99 rfl ?_ | refine ev_gf2 rfl rfl rfl rfl ?_ | refine ev_gf2 rfl rfl HH_land rfl ?_ | refine ev_gf2 rfl rfl HH_draft rfl ?_ | refine ev_gf2 rfl rfl (by with_reducible assumption) rfl ?_)
    refine ev_cv rfl rfl rfl (e_nearest hN hA (p := i) (by omega)) ?_
    repeat (first | refine ev_gos 99 rfl ?_ | refine ev_gf2 rfl rfl rfl rfl ?_ | refine ev_gf2 rfl rfl HH_land rfl ?_ | refine ev_gf2 rfl rfl HH_draft rfl ?_ | refine ev_gf2 rfl rfl (by with_reducible assumption) rfl ?_)
    have h3 := ih (i + 1) (by omega)
    rw [← nI_1] at h3
    have hst : farP W (A 11) P (i + 1) = if (farP W (A 11) P i).2 < nrP W (A 11) i P then (nI i, nrP W (A 11) i P) else farP W (A 11) P i := rfl
    rw [hst] at h3
    by_cases h5 : (farP W (A 11) P i).2 < nrP W (A 11) i P
    · rw [if_pos h5] at h3
      refine ev_iff rfl rfl rfl (d_le (fun z => le_nlt z h5)) ?_
      repeat (first | refine ev_gos 99 rfl ?_ | refine ev_gf2 rfl rfl rfl rfl ?_ | refine ev_gf2 rfl rfl HH_land rfl ?_ | refine ev_gf2 rfl rfl HH_draft rfl ?_ | refine ev_gf2 rfl rfl (by with_reducible assumption) rfl ?_)
      exact ev_wk2 h3 rfl ⟨rfl, rfl, rfl, rfl, trivial⟩
    · rw [if_neg h5] at h3
      refine ev_ift rfl rfl rfl (c_le (by rw [Int32.lt_iff_toInt_lt] at h5; rw [Int32.le_iff_toInt_le]; omega)) ?_
      repeat (first | refine ev_gos 99 rfl ?_ | refine ev_gf2 rfl rfl rfl rfl ?_ | refine ev_gf2 rfl rfl HH_land rfl ?_ | refine ev_gf2 rfl rfl HH_draft rfl ?_ | refine ev_gf2 rfl rfl (by with_reducible assumption) rfl ?_)
      exact ev_wk2 h3 rfl ⟨rfl, rfl, rfl, rfl, trivial⟩
theorem e_farOut (hN : CN s l A B W H P) (hA : LF (A 11) (W * H)) : Ev sc (d + 2) m_C_farOut 0 (iniL 5 [.ref 0]) [] (HH w s l A B) (some (.int (farP W (A 11) P P).1)) (HH w s l A B) := by
  repeat (first | refine ev_gos 99 rfl ?_ | refine ev_gf2 rfl rfl rfl rfl ?_ | refine ev_gf2 rfl rfl HH_land rfl ?_ | refine ev_gf2 rfl rfl HH_draft rfl ?_ | refine ev_gf2 rfl rfl (by with_reducible assumption) rfl ?_)
  exact e_farOut_loop hN hA P 0 (Nat.zero_add P)
theorem e_placeOfDeed {f i : Nat} (hf : s 6 = nI f) (h1 : f < 30) (h2 : i ≤ 30) : Ev sc d m_C_placeOfDeed 0 (iniL 2 [.ref 0, .int (nI i)]) [] (HH w s l A B) (some (.int (nI ((f + i) % 30)))) (HH w s l A B) := by
  repeat (first | refine ev_gos 99 rfl ?_ | refine ev_gf2 rfl rfl rfl rfl ?_ | refine ev_gf2 rfl rfl HH_land rfl ?_ | refine ev_gf2 rfl rfl HH_draft rfl ?_ | refine ev_gf2 rfl rfl (by with_reducible assumption) rfl ?_)
  refine ev_ri rfl ?_ rfl
  show (s 6 + nI i) - (s 6 + nI i) / nI 30 * nI 30 = _
  rw [hf, nI_add, pk_rem (by omega) (by decide) (by decide)]
def rmF (f c : Nat) : Nat := if c = 30 then (f + 1) % 30 else f
def rmC (c : Nat) : Nat := if c = 30 then 29 else c
def remA (A : Nat → Nat → Int32) (s : Nat → Int32) (f c : Nat) : Nat → Nat → Int32 := upA A 16 (putS (A 16) ((rmF f c + rmC c) % 30) (A 10) (A 11) (s 9) (s 10))
def remS (s : Nat → Int32) (f c : Nat) : Nat → Int32 := upA (upA s 6 (nI (rmF f c))) 7 (nI (rmC c + 1))
theorem upS_same {s : Nat → Int32} {k : Nat} {v : Int32} (h : s k = v) : upA s k v = s := by rw [← h]; exact upA_id s k
theorem e_remember {f c : Nat} (hf : s 6 = nI f) (h1 : f < 30) (hc : s 7 = nI c) (h2 : c ≤ 30) : Ev sc (d + 1) m_C_remember 0 (iniL 1 [.ref 0]) [] (HH w s l A B) none (HH w (remS s f c) l (remA A s f c) B) := by
  repeat (first | refine ev_gos 99 rfl ?_ | refine ev_gf2 rfl rfl rfl rfl ?_ | refine ev_gf2 rfl rfl HH_land rfl ?_ | refine ev_gf2 rfl rfl HH_draft rfl ?_ | refine ev_gf2 rfl rfl (by with_reducible assumption) rfl ?_)
  unfold remS remA rmF rmC
  by_cases h30 : c = 30
  · rw [if_pos h30, if_pos h30]
    refine ev_iff rfl rfl rfl (d_ne (by rw [hc, h30]; rfl : s 7 = 30)) ?_
    repeat (first | refine ev_gos 99 rfl ?_ | refine ev_gf2 rfl rfl rfl rfl ?_ | refine ev_gf2 rfl rfl HH_land rfl ?_ | refine ev_gf2 rfl rfl HH_draft rfl ?_ | refine ev_gf2 rfl rfl (by with_reducible assumption) rfl ?_)
    refine pf_C_6 rfl ?_
    repeat (first | refine ev_gos 99 rfl ?_ | refine ev_gf2 rfl rfl rfl rfl ?_ | refine ev_gf2 rfl rfl HH_land rfl ?_ | refine ev_gf2 rfl rfl HH_draft rfl ?_ | refine ev_gf2 rfl rfl (by with_reducible assumption) rfl ?_)
    refine pf_C_7 rfl ?_
    have e6 : s 6 + 1 - (s 6 + 1) / 30 * 30 = nI ((f + 1) % 30) := by rw [hf, nI_1]; exact pk_rem (by omega) (by decide) (by decide)
    have e7 : s 7 - 1 = nI 29 := by rw [hc, h30]; rfl
    repeat (first | refine ev_gos 99 rfl ?_ | refine ev_gf2 rfl rfl rfl rfl ?_ | refine ev_gf2 rfl rfl HH_land rfl ?_ | refine ev_gf2 rfl rfl HH_draft rfl ?_ | refine ev_gf2 rfl rfl (by with_reducible assumption) rfl ?_)
    refine ev_cv rfl rfl rfl (by
      have q := e_placeOfDeed (sc := sc) (d := d) (w := w) (s := upA (upA s 6 (s 6 + 1 - (s 6 + 1) / 30 * 30)) 7 (s 7 - 1)) (l := l) (A := A) (B := B) (f := (f + 1) % 30) (i := 29) e6 (Nat.mod_lt _ (by decide)) (by decide)
      rw [← e7] at q
      exact q) ?_
    repeat (first | refine ev_gos 99 rfl ?_ | refine ev_gf2 rfl rfl rfl rfl ?_ | refine ev_gf2 rfl rfl HH_land rfl ?_ | refine ev_gf2 rfl rfl HH_draft rfl ?_ | refine ev_gf2 rfl rfl (by with_reducible assumption) rfl ?_)
    refine ev_cv rfl rfl rfl (e_putD (Nat.mod_lt _ (by decide))) ?_
    repeat (first | refine ev_gos 99 rfl ?_ | refine ev_gf2 rfl rfl rfl rfl ?_ | refine ev_gf2 rfl rfl HH_land rfl ?_ | refine ev_gf2 rfl rfl HH_draft rfl ?_ | refine ev_gf2 rfl rfl (by with_reducible assumption) rfl ?_)
    refine pf_C_7 rfl ?_
    refine ev_rv rfl ?_
    rw [upA_up]
    show HH w (upA (upA s 6 (s 6 + 1 - (s 6 + 1) / 30 * 30)) 7 (s 7 - 1 + 1)) l _ B = _
    rw [e6, e7, nI_1]
    rfl
  · rw [if_neg h30, if_neg h30]
    refine ev_ift rfl rfl rfl (c_ne (by rw [hc]; exact fun z => h30 ((nI_eq (by omega) (by decide)).mp z) : ¬ s 7 = nI 30)) ?_
    repeat (first | refine ev_gos 99 rfl ?_ | refine ev_gf2 rfl rfl rfl rfl ?_ | refine ev_gf2 rfl rfl HH_land rfl ?_ | refine ev_gf2 rfl rfl HH_draft rfl ?_ | refine ev_gf2 rfl rfl (by with_reducible assumption) rfl ?_)
    refine ev_cv rfl rfl rfl (by
      have q := e_placeOfDeed (sc := sc) (d := d) (w := w) (s := s) (l := l) (A := A) (B := B) (f := f) (i := c) hf h1 h2
      rw [← hc] at q
      exact q) ?_
    repeat (first | refine ev_gos 99 rfl ?_ | refine ev_gf2 rfl rfl rfl rfl ?_ | refine ev_gf2 rfl rfl HH_land rfl ?_ | refine ev_gf2 rfl rfl HH_draft rfl ?_ | refine ev_gf2 rfl rfl (by with_reducible assumption) rfl ?_)
    refine ev_cv rfl rfl rfl (e_putD (Nat.mod_lt _ (by decide))) ?_
    repeat (first | refine ev_gos 99 rfl ?_ | refine ev_gf2 rfl rfl rfl rfl ?_ | refine ev_gf2 rfl rfl HH_land rfl ?_ | refine ev_gf2 rfl rfl HH_draft rfl ?_ | refine ev_gf2 rfl rfl (by with_reducible assumption) rfl ?_)
    refine pf_C_7 rfl ?_
    refine ev_rv rfl ?_
    show HH w (upA s 7 (s 7 + 1)) l _ B = _
    rw [hc, nI_1, upS_same hf]
theorem e_forget : Ev sc d m_C_forgetDeeds 0 (iniL 1 [.ref 0]) [] (HH w s l A B) none (HH w (upA (upA s 6 0) 7 0) l A B) := by
  repeat (first | refine ev_gos 99 rfl ?_ | refine ev_gf2 rfl rfl rfl rfl ?_ | refine ev_gf2 rfl rfl HH_land rfl ?_ | refine ev_gf2 rfl rfl HH_draft rfl ?_ | refine ev_gf2 rfl rfl (by with_reducible assumption) rfl ?_)
  refine pf_C_6 rfl ?_
  repeat (first | refine ev_gos 99 rfl ?_ | refine ev_gf2 rfl rfl rfl rfl ?_ | refine ev_gf2 rfl rfl HH_land rfl ?_ | refine ev_gf2 rfl rfl HH_draft rfl ?_ | refine ev_gf2 rfl rfl (by with_reducible assumption) rfl ?_)
  refine pf_C_7 rfl ?_
  exact ev_rv rfl rfl
theorem e_draw {m : Nat} (h1 : 1 ≤ m) (h2 : m < 2 ^ 31) : Ev sc d m_C_draw 0 (iniL 2 [.ref 0, .int (nI m)]) [] (HH w s l A B) (some (.int (nI (drN (s 8) m)))) (HH w (upA s 8 (dS (s 8))) l A B) := by
  repeat (first | refine ev_gos 99 rfl ?_ | refine ev_gf2 rfl rfl rfl rfl ?_ | refine ev_gf2 rfl rfl HH_land rfl ?_ | refine ev_gf2 rfl rfl HH_draft rfl ?_ | refine ev_gf2 rfl rfl (by with_reducible assumption) rfl ?_)
  refine pf_C_8 rfl ?_
  repeat (first | refine ev_gos 99 rfl ?_ | refine ev_gf2 rfl rfl rfl rfl ?_ | refine ev_gf2 rfl rfl HH_land rfl ?_ | refine ev_gf2 rfl rfl HH_draft rfl ?_ | refine ev_gf2 rfl rfl (by with_reducible assumption) rfl ?_)
  refine ev_ift rfl rfl rfl (c_ge ((nI_leI (by decide) h2).mpr h1 : nI 1 ≤ nI m)) ?_
  repeat (first | refine ev_gos 99 rfl ?_ | refine ev_gf2 rfl rfl rfl rfl ?_ | refine ev_gf2 rfl rfl HH_land rfl ?_ | refine ev_gf2 rfl rfl HH_draft rfl ?_ | refine ev_gf2 rfl rfl (by with_reducible assumption) rfl ?_)
  refine ev_gos 3 rfl ?_
  refine ev_ire rfl (nI_ne h1 h2) ?_
  refine ev_ri rfl ?_ rfl
  obtain ⟨t, t1, t2⟩ := dS_nI (s 8)
  unfold drN
  show dS (s 8) / nI 65536 - dS (s 8) / nI 65536 / nI m * nI m = _
  rw [t2, nI_clamp t1, pk_div t1 (by decide) (by decide), pk_rem (Nat.lt_of_le_of_lt (Nat.div_le_self _ _) t1) h1 h2]
end DED
end
section
/-! the class: deeds by draws, what is tried, where there is room -/
/-- a loop's result, step by step -/
def fo {α : Type} (g : Nat → α → α) : Nat → α → α
  | 0, a => a
  | n + 1, a => g n (fo g n a)
def rfs (n : Int32) (W : Nat) (nt : Int32) : Int32 := if n < 1 then -1000000002 else if 20 < n then -1000000002 else if W = 0 then -1000000003 else if 9000 < nt then -1000000004 else 0
theorem nlt_le3 {x y : Int32} (h : ¬ x < y) : y ≤ x := by rw [Int32.lt_iff_toInt_lt] at h; rw [Int32.le_iff_toInt_le]; omega
def roomF (sh : Nat → Int64) (dn : Int64) (k : Nat) (c : Nat) : Bool := decide (¬ sh (k * 49 + c) = 0) && decide (sh (k * 49 + c) &&& dn = 0)
/-- where one of kind k can lie -/
def rmS (sh : Nat → Int64) (f : Nat → Int32) (k N : Nat) : Int64 := setP (roomF sh (dnS f 1 49) k) N
/-- what a night's draw does: seed, dents, places, wind -/
def hapD (W H P : Nat) (rk : Int64) (kd_ : Nat → Int32) (sh : Nat → Int64) (x : Int32) (dn at_ : Nat → Int32) (wd : Int32) : Int32 × (Nat → Int32) × (Nat → Int32) × Int32 :=
  if drN x 8 = 0 then (if P = 0 then (dS x, dn, at_, wd) else
    bif bs (rmS sh dn (kd_ (drN (dS x) P)).toNatClampNeg (W * H)) (drN (dS (dS x)) (W * H)) then (dS (dS (dS x)), mapP (prF (sh ((kd_ (drN (dS x) P)).toNatClampNeg * 49 + drN (dS (dS x)) (W * H)))) dn 49, upd at_ (drN (dS x) P) (nI (drN (dS (dS x)) (W * H))), wd) else (dS (dS (dS x)), dn, at_, wd))
  else if drN x 8 = 1 then (bif bs rk (drN (dS x) (W * H)) then (dS (dS x), dn, at_, wd) else (dS (dS x), upd dn (drN (dS x) (W * H)) (if dn (drN (dS x) (W * H)) + 2 < 9 then dn (drN (dS x) (W * H)) + 2 else 9), at_, wd))
  else if drN x 8 = 2 then (dS x, mapP snF dn 49, at_, wd)
  else if drN x 8 = 3 then (dS (dS x), dn, at_, nI (drN (dS x) 5))
  else (dS x, dn, at_, wd)
section DE2
variable {sc : Scr} {d : Nat} {w : Bool} {s : Nat → Int32} {l : Nat → Int64} {A : Nat → Nat → Int32} {B : Nat → Nat → Int64} {W H P : Nat}
theorem e_refusal (hw : s 15 = nI W) (hW : W ≤ 7) (n : Int32) : Ev sc (d + 1) m_C_refusalOfNights 0 (iniL 2 [.ref 0, .int n]) [] (HH w s l A B) (some (.int (rfs n W (s 10)))) (HH w s l A B) := by
  unfold rfs
  repeat (first | refine ev_gos 99 rfl ?_ | refine ev_gf2 rfl rfl rfl rfl ?_ | refine ev_gf2 rfl rfl HH_land rfl ?_ | refine ev_gf2 rfl rfl HH_draft rfl ?_ | refine ev_gf2 rfl rfl (by with_reducible assumption) rfl ?_)
  by_cases h1 : n < 1
  · refine ev_ift rfl rfl rfl (c_lt h1) ?_
    repeat (first | refine ev_gos 99 rfl ?_ | refine ev_gf2 rfl rfl rfl rfl ?_ | refine ev_gf2 rfl rfl HH_land rfl ?_ | refine ev_gf2 rfl rfl HH_draft rfl ?_ | refine ev_gf2 rfl rfl (by with_reducible assumption) rfl ?_)
    exact ev_ri rfl (by rw [if_pos h1]) rfl
  · rw [if_neg h1]
    refine ev_iff rfl rfl rfl (d_lt h1) ?_
    repeat (first | refine ev_gos 99 rfl ?_ | refine ev_gf2 rfl rfl rfl rfl ?_ | refine ev_gf2 rfl rfl HH_land rfl ?_ | refine ev_gf2 rfl rfl HH_draft rfl ?_ | refine ev_gf2 rfl rfl (by with_reducible assumption) rfl ?_)
    by_cases h2 : 20 < n
    · refine ev_iff rfl rfl rfl (d_le (fun z => le_nlt z h2)) ?_
      repeat (first | refine ev_gos 99 rfl ?_ | refine ev_gf2 rfl rfl rfl rfl ?_ | refine ev_gf2 rfl rfl HH_land rfl ?_ | refine ev_gf2 rfl rfl HH_draft rfl ?_ | refine ev_gf2 rfl rfl (by with_reducible assumption) rfl ?_)
      exact ev_ri rfl (by rw [if_pos h2]) rfl
    · rw [if_neg h2]
      refine ev_ift rfl rfl rfl (c_le (nlt_le3 h2)) ?_
      repeat (first | refine ev_gos 99 rfl ?_ | refine ev_gf2 rfl rfl rfl rfl ?_ | refine ev_gf2 rfl rfl HH_land rfl ?_ | refine ev_gf2 rfl rfl HH_draft rfl ?_ | refine ev_gf2 rfl rfl (by with_reducible assumption) rfl ?_)
      refine ev_cv rfl rfl rfl (e_hasNorth hw hW) ?_
      by_cases h3 : W = 0
      · rw [if_pos h3, decide_eq_false (by omega)]
        refine ev_iff rfl rfl rfl rfl ?_
        repeat (first | refine ev_gos 99 rfl ?_ | refine ev_gf2 rfl rfl rfl rfl ?_ | refine ev_gf2 rfl rfl HH_land rfl ?_ | refine ev_gf2 rfl rfl HH_draft rfl ?_ | refine ev_gf2 rfl rfl (by with_reducible assumption) rfl ?_)
        exact ev_ri rfl rfl rfl
      · rw [if_neg h3, decide_eq_true (by omega)]
        refine ev_ift rfl rfl rfl rfl ?_
        repeat (first | refine ev_gos 99 rfl ?_ | refine ev_gf2 rfl rfl rfl rfl ?_ | refine ev_gf2 rfl rfl HH_land rfl ?_ | refine ev_gf2 rfl rfl HH_draft rfl ?_ | refine ev_gf2 rfl rfl (by with_reducible assumption) rfl ?_)
        by_cases h4 : 9000 < s 10
        · refine ev_iff rfl rfl rfl (d_le (fun z => le_nlt z h4)) ?_
          repeat (first | refine ev_gos 99 rfl ?_ | refine ev_gf2 rfl rfl rfl rfl ?_ | refine ev_gf2 rfl rfl HH_land rfl ?_ | refine ev_gf2 rfl rfl HH_draft rfl ?_ | refine ev_gf2 rfl rfl (by with_reducible assumption) rfl ?_)
          exact ev_ri rfl (by rw [if_pos h4]) rfl
        · refine ev_ift rfl rfl rfl (c_le (nlt_le3 h4)) ?_
          repeat (first | refine ev_gos 99 rfl ?_ | refine ev_gf2 rfl rfl rfl rfl ?_ | refine ev_gf2 rfl rfl HH_land rfl ?_ | refine ev_gf2 rfl rfl HH_draft rfl ?_ | refine ev_gf2 rfl rfl (by with_reducible assumption) rfl ?_)
          exact ev_ri rfl (by rw [if_neg h4]) rfl
theorem e_layDown {p c k : Nat} (hp : p < 7) (hc : c < 49) (hk : k < 5) (ek : A 4 p = nI k) : Ev sc (d + 2) m_C_layDown 0 (iniL 3 [.ref 0, .int (nI p), .int (nI c)]) [] (HH w s l A B) none (HH w s l (upA (upA A 11 (upd (A 11) p (nI c))) 10 (mapP (prF (B 5 (k * 49 + c))) (A 10) 49)) B) := by
  repeat (first | refine ev_gos 99 rfl ?_ | refine ev_gf2 rfl rfl rfl rfl ?_ | refine ev_gf2 rfl rfl HH_land rfl ?_ | refine ev_gf2 rfl rfl HH_draft rfl ?_ | refine ev_gf2 rfl rfl (by with_reducible assumption) rfl ?_)
  refine is_11 rfl (inI (by omega) (by decide)) ?_
  rw [nI_clamp (by omega)]
  repeat (first | refine ev_gos 99 rfl ?_ | refine ev_gf2 rfl rfl rfl rfl ?_ | refine ev_gf2 rfl rfl HH_land rfl ?_ | refine ev_gf2 rfl rfl HH_draft rfl ?_ | refine ev_gf2 rfl rfl (by with_reducible assumption) rfl ?_)
  refine ev_ia rfl HH_kinds (inI (by omega) (by decide)) ?_
  rw [nI_clamp (by omega)]
  refine (?_ : Ek sc (d + 2) m_C_layDown 27 _ [.int (A 4 p), _, _] _ _ _ _ _)
  rw [ek]
  repeat (first | refine ev_gos 99 rfl ?_ | refine ev_gf2 rfl rfl rfl rfl ?_ | refine ev_gf2 rfl rfl HH_land rfl ?_ | refine ev_gf2 rfl rfl HH_draft rfl ?_ | refine ev_gf2 rfl rfl (by with_reducible assumption) rfl ?_)
  refine ev_cv rfl rfl HH_land (e_shape HH_land HH_shapes hk hc) ?_
  repeat (first | refine ev_gos 99 rfl ?_ | refine ev_gf2 rfl rfl rfl rfl ?_ | refine ev_gf2 rfl rfl HH_land rfl ?_ | refine ev_gf2 rfl rfl HH_draft rfl ?_ | refine ev_gf2 rfl rfl (by with_reducible assumption) rfl ?_)
  refine ev_cv rfl rfl rfl (e_press _) ?_
  exact ev_rv rfl rfl
theorem e_roomFor_loop (hN : CN s l A B W H P) {p k : Nat} (hp : p < 7) (hk : k < 5) (ek : A 4 p = nI k) : ∀ (n i : Nat), i + n = W * H → Ev sc (d + 1) m_C_roomFor 20 [some (.ref 0), some (.int (nI p)), some (.long (dnS (A 10) 1 49)), none, some (.long (setP (roomF (B 5) (dnS (A 10) 1 49) k) i)), none, some (.int (nI i)), none, none] [.ref (wL w), .int (nI i)] (HH w s l A B) (some (.long (rmS (B 5) (A 10) k (W * H)))) (HH w s l A B) := by
  have h49 := hN.n49
  intro n
  induction n with
  | zero =>
    intro i hi
    have e : i = W * H := by omega
    subst e
    refine ev_cv rfl rfl HH_land (e_cells HH_land) ?_
    rw [hN.cells]
    refine ev_ift rfl rfl rfl (c_ge ((nI_leI (by omega) (by omega)).mpr (by omega))) ?_
    repeat (first | refine ev_gos 99 rfl ?_ | refine ev_gf2 rfl rfl rfl rfl ?_ | refine ev_gf2 rfl rfl HH_land rfl ?_ | refine ev_gf2 rfl rfl HH_draft rfl ?_ | refine ev_gf2 rfl rfl (by with_reducible assumption) rfl ?_)
    exact ev_rl rfl rfl rfl
  | succ n ih =>
    intro i hi
    refine ev_cv rfl rfl HH_land (e_cells HH_land) ?_
    rw [hN.cells]
    refine ev_iff rfl rfl rfl (d_ge (nI_lt3 (by omega) (by omega) (by omega))) ?_
    repeat (first | refine ev_gos 99 rfl ?_ | refine ev_gf2 rfl rfl rfl rfl ?_ | refine ev_gf2 rfl rfl HH_land rfl ?_ | refine ev_gf2 rfl rfl HH_draft rfl ?_ | refine ev_gf2 rfl rfl (by with_reducible assumption) rfl ?_)
    (refine ev_ia rfl HH_kinds (inI (by omega) (by decide)) ?_; rw [nI_clamp (by omega)])
    rw [ek]
    repeat (first | refine ev_gos 99 rfl ?_ | refine ev_gf2 rfl rfl rfl rfl ?_ | refine ev_gf2 rfl rfl HH_land rfl ?_ | refine ev_gf2 rfl rfl HH_draft rfl ?_ | refine ev_gf2 rfl rfl (by with_reducible assumption) rfl ?_)
    refine ev_cv rfl rfl HH_land (e_shape HH_land HH_shapes hk (by omega)) ?_
    repeat (first | refine ev_gos 99 rfl ?_ | refine ev_gf2 rfl rfl rfl rfl ?_ | refine ev_gf2 rfl rfl HH_land rfl ?_ | refine ev_gf2 rfl rfl HH_draft rfl ?_ | refine ev_gf2 rfl rfl (by with_reducible assumption) rfl ?_)
    have h3 := ih (i + 1) (by omega)
    rw [← nI_1] at h3
    by_cases h1 : B 5 (k * 49 + i) = 0
    · rw [setP_f (n := i) (by unfold roomF; rw [decide_eq_false (fun z => z h1)]; rfl)] at h3
      refine ev_ift rfl rfl rfl (i_eq (lc_eq.mpr h1)) ?_
      repeat (first | refine ev_gos 99 rfl ?_ | refine ev_gf2 rfl rfl rfl rfl ?_ | refine ev_gf2 rfl rfl HH_land rfl ?_ | refine ev_gf2 rfl rfl HH_draft rfl ?_ | refine ev_gf2 rfl rfl (by with_reducible assumption) rfl ?_)
      exact ev_wk2 h3 rfl (by repeat' (first | exact trivial | refine ⟨rfl, ?_⟩))
    · refine ev_iff rfl rfl rfl (j_eq (fun z => h1 (lc_eq.mp z))) ?_
      repeat (first | refine ev_gos 99 rfl ?_ | refine ev_gf2 rfl rfl rfl rfl ?_ | refine ev_gf2 rfl rfl HH_land rfl ?_ | refine ev_gf2 rfl rfl HH_draft rfl ?_ | refine ev_gf2 rfl rfl (by with_reducible assumption) rfl ?_)
      by_cases h2 : B 5 (k * 49 + i) &&& dnS (A 10) 1 49 = 0
      · rw [setP_t (n := i) (by omega) (by unfold roomF; rw [decide_eq_true h1, decide_eq_true h2]; rfl)] at h3
        refine ev_iff rfl rfl rfl (j_ne (lc_eq.mpr h2)) ?_
        repeat (first | refine ev_gos 99 rfl ?_ | refine ev_gf2 rfl rfl rfl rfl ?_ | refine ev_gf2 rfl rfl HH_land rfl ?_ | refine ev_gf2 rfl rfl HH_draft rfl ?_ | refine ev_gf2 rfl rfl (by with_reducible assumption) rfl ?_)
        exact ev_wk2 h3 rfl (by repeat' (first | exact trivial | refine ⟨rfl, ?_⟩))
      · rw [setP_f (n := i) (by unfold roomF; rw [decide_eq_false h2, Bool.and_false])] at h3
        refine ev_ift rfl rfl rfl (i_ne (fun z => h2 (lc_eq.mp z))) ?_
        repeat (first | refine ev_gos 99 rfl ?_ | refine ev_gf2 rfl rfl rfl rfl ?_ | refine ev_gf2 rfl rfl HH_land rfl ?_ | refine ev_gf2 rfl rfl HH_draft rfl ?_ | refine ev_gf2 rfl rfl (by with_reducible assumption) rfl ?_)
        exact ev_wk2 h3 rfl (by repeat' (first | exact trivial | refine ⟨rfl, ?_⟩))
theorem e_roomFor (hN : CN s l A B W H P) {p k : Nat} (hp : p < 7) (hk : k < 5) (ek : A 4 p = nI k) : Ev sc (d + 2) m_C_roomFor 0 (iniL 9 [.ref 0, .int (nI p)]) [] (HH w s l A B) (some (.long (rmS (B 5) (A 10) k (W * H)))) (HH w s l A B) := by
  repeat (first | refine ev_gos 99 rfl ?_ | refine ev_gf2 rfl rfl rfl rfl ?_ | refine ev_gf2 rfl rfl HH_land rfl ?_ | refine ev_gf2 rfl rfl HH_draft rfl ?_ | refine ev_gf2 rfl rfl (by with_reducible assumption) rfl ?_)
  refine ev_cv rfl rfl rfl (e_dented (p := 9) (pd := 10) (pa := 11) (wd := s 9) (nt := s 10) (f := A 10) rfl rfl) ?_
  repeat (first | refine ev_gos 99 rfl ?_ | refine ev_gf2 rfl rfl rfl rfl ?_ | refine ev_gf2 rfl rfl HH_land rfl ?_ | refine ev_gf2 rfl rfl HH_draft rfl ?_ | refine ev_gf2 rfl rfl (by with_reducible assumption) rfl ?_)
  have h3 := e_roomFor_loop (sc := sc) (d := d + 1) (w := w) hN hp hk ek (W * H) 0 (Nat.zero_add _)
  rw [setP_0] at h3
  exact h3
theorem e_lieByDraw (hN : CN s l A B W H P) (hW : 2 ≤ W) (hH : 2 ≤ H) : Ev sc (d + 3) m_C_lieByDraw 0 (iniL 3 [.ref 0]) [] (HH w s l A B) none (if P = 0 then HH w s l A B else bif bs (rmS (B 5) (A 10) (A 4 (drN (s 8) P)).toNatClampNeg (W * H)) (drN (dS (s 8)) (W * H)) then HH w (upA s 8 (dS (dS (s 8)))) l (upA (upA A 11 (upd (A 11) (drN (s 8) P) (nI (drN (dS (s 8)) (W * H))))) 10 (mapP (prF (B 5 ((A 4 (drN (s 8) P)).toNatClampNeg * 49 + drN (dS (s 8)) (W * H)))) (A 10) 49)) B else HH w (upA s 8 (dS (dS (s 8)))) l A B) := by
  have h49 := hN.n49
  have h4 : 4 ≤ W * H := Nat.mul_le_mul hW hH
  have hP7 : P ≤ 7 := hN.2.2.2.2.2.1
  repeat (first | refine ev_gos 99 rfl ?_ | refine ev_gf2 rfl rfl rfl rfl ?_ | refine ev_gf2 rfl rfl HH_land rfl ?_ | refine ev_gf2 rfl rfl HH_draft rfl ?_ | refine ev_gf2 rfl rfl (by with_reducible assumption) rfl ?_)
  by_cases h0 : P = 0
  · rw [if_pos h0]
    refine ev_iff rfl rfl rfl (j_ne (by rw [hN.2.2.1, h0]; rfl)) ?_
    exact ev_rv rfl rfl
  · rw [if_neg h0]
    refine ev_ift rfl rfl rfl (i_ne (by rw [hN.2.2.1]; exact nI_ne (by omega) (by omega))) ?_
    repeat (first | refine ev_gos 99 rfl ?_ | refine ev_gf2 rfl rfl rfl rfl ?_ | refine ev_gf2 rfl rfl HH_land rfl ?_ | refine ev_gf2 rfl rfl HH_draft rfl ?_ | refine ev_gf2 rfl rfl (by with_reducible assumption) rfl ?_)
    refine ev_cv rfl rfl rfl (by
      have q := e_draw (sc := sc) (d := d + 2) (w := w) (s := s) (l := l) (A := A) (B := B) (m := P) (by omega) (by omega)
      rw [← hN.2.2.1] at q
      exact q) ?_
    repeat (first | refine ev_gos 99 rfl ?_ | refine ev_gf2 rfl rfl rfl rfl ?_ | refine ev_gf2 rfl rfl HH_land rfl ?_ | refine ev_gf2 rfl rfl HH_draft rfl ?_ | refine ev_gf2 rfl rfl (by with_reducible assumption) rfl ?_)
    refine ev_cv rfl rfl HH_land (e_cells HH_land) ?_
    refine ev_cv rfl rfl rfl (by
      have q := e_draw (sc := sc) (d := d + 2) (w := w) (s := upA s 8 (dS (s 8))) (l := l) (A := A) (B := B) (m := W * H) (by omega) (by omega)
      rw [← hN.cells] at q
      exact q) ?_
    rw [upA_up]
    have hp := Nat.mod_lt ((dS (s 8)).toNatClampNeg / 65536) (show 0 < P by omega)
    have hc := Nat.mod_lt ((dS (dS (s 8))).toNatClampNeg / 65536) (show 0 < W * H by omega)
    refine (?_ : Ek sc (d + 3) m_C_lieByDraw 34 _ [.int (nI (drN (dS (s 8)) (W * H)))] (HH w (upA s 8 (dS (dS (s 8)))) l A B) _ _ _ _)
    have hp2 : drN (s 8) P < P := hp
    have hc2 : drN (dS (s 8)) (W * H) < W * H := hc
    generalize drN (s 8) P = p at *
    generalize drN (dS (s 8)) (W * H) = c at *
    obtain ⟨k, k1, k2⟩ := hN.2.2.2.2.2.2.2.2.2.2.1 p hp2
    rw [k2, nI_clamp (by omega)]
    repeat (first | refine ev_gos 99 rfl ?_ | refine ev_gf2 rfl rfl rfl rfl ?_ | refine ev_gf2 rfl rfl HH_land rfl ?_ | refine ev_gf2 rfl rfl HH_draft rfl ?_ | refine ev_gf2 rfl rfl (by with_reducible assumption) rfl ?_)
    refine ev_cv rfl rfl rfl (e_roomFor (s := upA s 8 (dS (dS (s 8)))) (P := P) (W := W) (H := H) hN (by omega) k1 k2) ?_
    repeat (first | refine ev_gos 99 rfl ?_ | refine ev_gf2 rfl rfl rfl rfl ?_ | refine ev_gf2 rfl rfl HH_land rfl ?_ | refine ev_gf2 rfl rfl HH_draft rfl ?_ | refine ev_gf2 rfl rfl (by with_reducible assumption) rfl ?_)
    refine ev_cs rfl rfl rfl (e_has sc _ _ _ (by omega)) ?_
    refine (?_ : Ek sc (d + 3) m_C_lieByDraw 44 _ [.int (b01 (bs (rmS (B 5) (A 10) k (W * H)) c))] _ _ _ _ _)
    cases hb : bs (rmS (B 5) (A 10) k (W * H)) c with
    | false =>
      refine ev_ift rfl rfl rfl rfl ?_
      exact ev_rv rfl rfl
    | true =>
      refine ev_iff rfl rfl rfl rfl ?_
      repeat (first | refine ev_gos 99 rfl ?_ | refine ev_gf2 rfl rfl rfl rfl ?_ | refine ev_gf2 rfl rfl HH_land rfl ?_ | refine ev_gf2 rfl rfl HH_draft rfl ?_ | refine ev_gf2 rfl rfl (by with_reducible assumption) rfl ?_)
      refine ev_cv rfl rfl rfl (e_layDown (p := p) (c := c) (k := k) (by omega) (by omega) k1 k2) ?_
      exact ev_rv rfl rfl
theorem e_hareByDraw (hN : CN s l A B W H P) (hW : 2 ≤ W) (hH : 2 ≤ H) : Ev sc (d + 2) m_C_hareByDraw 0 (iniL 2 [.ref 0]) [] (HH w s l A B) none (bif bs (l 3) (drN (s 8) (W * H)) then HH w (upA s 8 (dS (s 8))) l A B else HH w (upA s 8 (dS (s 8))) l (upA A 10 (upd (A 10) (drN (s 8) (W * H)) (if A 10 (drN (s 8) (W * H)) + 2 < 9 then A 10 (drN (s 8) (W * H)) + 2 else 9))) B) := by
  have h49 := hN.n49
  have h4 : 4 ≤ W * H := Nat.mul_le_mul hW hH
  repeat (first | refine ev_gos 99 rfl ?_ | refine ev_gf2 rfl rfl rfl rfl ?_ | refine ev_gf2 rfl rfl HH_land rfl ?_ | refine ev_gf2 rfl rfl HH_draft rfl ?_ | refine ev_gf2 rfl rfl (by with_reducible assumption) rfl ?_)
  refine ev_cv rfl rfl HH_land (e_cells HH_land) ?_
  refine ev_cv rfl rfl rfl (by
    have q := e_draw (sc := sc) (d := d + 1) (w := w) (s := s) (l := l) (A := A) (B := B) (m := W * H) (by omega) (by omega)
    rw [← hN.cells] at q
    exact q) ?_
  have hc := Nat.mod_lt ((dS (s 8)).toNatClampNeg / 65536) (show 0 < W * H by omega)
  have hc2 : drN (s 8) (W * H) < W * H := hc
  rw [hN.cells]
  refine (?_ : Ek sc (d + 2) m_C_hareByDraw 11 _ [.int (nI (drN (s 8) (W * H)))] _ _ _ _ _)
  generalize drN (s 8) (W * H) = c at *
  repeat (first | refine ev_gos 99 rfl ?_ | refine ev_gf2 rfl rfl rfl rfl ?_ | refine ev_gf2 rfl rfl HH_land rfl ?_ | refine ev_gf2 rfl rfl HH_draft rfl ?_ | refine ev_gf2 rfl rfl (by with_reducible assumption) rfl ?_)
  refine ev_cv rfl rfl HH_land (e_isRock HH_land (by omega)) ?_
  refine (?_ : Ek sc (d + 2) m_C_hareByDraw 20 _ [.int (b01 (bs (l 3) c))] _ _ _ _ _)
  cases hb : bs (l 3) c with
  | true =>
    refine ev_ift rfl rfl rfl rfl ?_
    exact ev_rv rfl rfl
  | false =>
    refine ev_iff rfl rfl rfl rfl ?_
    repeat (first | refine ev_gos 99 rfl ?_ | refine ev_gf2 rfl rfl rfl rfl ?_ | refine ev_gf2 rfl rfl HH_land rfl ?_ | refine ev_gf2 rfl rfl HH_draft rfl ?_ | refine ev_gf2 rfl rfl (by with_reducible assumption) rfl ?_)
    refine ev_cv rfl rfl rfl (e_cross (by omega)) ?_
    exact ev_rv rfl rfl
theorem e_canTry (h : AHp) (n : Int32) : Ev sc d m_C_canTry 0 (iniL 2 [.ref 0, .int n]) [] h (some (.int (b01 (inR n 21)))) h := by
  repeat (first | refine ev_gos 99 rfl ?_ | refine ev_gf2 rfl rfl rfl rfl ?_ | refine ev_gf2 rfl rfl HH_land rfl ?_ | refine ev_gf2 rfl rfl HH_draft rfl ?_ | refine ev_gf2 rfl rfl (by with_reducible assumption) rfl ?_)
  unfold inR
  by_cases h0 : n < 0
  · refine ev_ift rfl rfl rfl (i_lt h0) ?_
    repeat (first | refine ev_gos 99 rfl ?_ | refine ev_gf2 rfl rfl rfl rfl ?_ | refine ev_gf2 rfl rfl HH_land rfl ?_ | refine ev_gf2 rfl rfl HH_draft rfl ?_ | refine ev_gf2 rfl rfl (by with_reducible assumption) rfl ?_)
    exact ev_rz rfl (Or.inl rfl) (by rw [decide_eq_false (lt0 h0)]; rfl) rfl
  · refine ev_iff rfl rfl rfl (j_lt h0) ?_
    repeat (first | refine ev_gos 99 rfl ?_ | refine ev_gf2 rfl rfl rfl rfl ?_ | refine ev_gf2 rfl rfl HH_land rfl ?_ | refine ev_gf2 rfl rfl HH_draft rfl ?_ | refine ev_gf2 rfl rfl (by with_reducible assumption) rfl ?_)
    have e : n < nI 21 ↔ ¬ 20 < n := by
      rw [Int32.lt_iff_toInt_lt, Int32.lt_iff_toInt_lt]
      show n.toInt < 21 ↔ ¬ (20 : Int) < n.toInt
      omega
    by_cases h1 : 20 < n
    · refine ev_ift rfl rfl rfl (c_gt h1) ?_
      repeat (first | refine ev_gos 99 rfl ?_ | refine ev_gf2 rfl rfl rfl rfl ?_ | refine ev_gf2 rfl rfl HH_land rfl ?_ | refine ev_gf2 rfl rfl HH_draft rfl ?_ | refine ev_gf2 rfl rfl (by with_reducible assumption) rfl ?_)
      exact ev_rz rfl (Or.inl rfl) (by rw [decide_eq_false (fun z => e.mp z h1), Bool.and_false]; rfl) rfl
    · refine ev_iff rfl rfl rfl (d_gt h1) ?_
      repeat (first | refine ev_gos 99 rfl ?_ | refine ev_gf2 rfl rfl rfl rfl ?_ | refine ev_gf2 rfl rfl HH_land rfl ?_ | refine ev_gf2 rfl rfl HH_draft rfl ?_ | refine ev_gf2 rfl rfl (by with_reducible assumption) rfl ?_)
      exact ev_rz rfl (Or.inr rfl) (by rw [decide_eq_true (ge0 h0), decide_eq_true (e.mpr h1)]; rfl) rfl
end DE2
end
section
/-! the class: draws, nights tried, the best room, what fits -/
theorem upA_comm {α : Type} (A : Nat → α) {p q : Nat} (h : Nat.beq p q = false) (f g : α) : upA (upA A p f) q g = upA (upA A q g) p f := by
  funext i
  unfold upA
  cases h1 : Nat.beq i q with
  | false => rfl
  | true =>
    have e1 := Nat.eq_of_beq_eq_true h1
    subst e1
    cases h2 : Nat.beq i p with
    | false => rfl
    | true =>
      have e2 := Nat.eq_of_beq_eq_true h2
      subst e2
      rw [Nat.beq_refl] at h
      cases h
theorem drN_lt (x : Int32) {m : Nat} (h : 0 < m) : drN x m < m := Nat.mod_lt _ h
/-- nights on end, with the wind k -/
def ngI (W N : Nat) (rk : Int64) (k : Nat) (f : Nat → Int32) : Nat → Nat → Int32
  | 0 => f
  | n + 1 => mapP (ngF (shlS W N rk (ngI W N rk k f n) k)) (ngI W N rk k f n) 49
def barS (g : Nat → Nat → Int32) : Nat → Nat → Nat
  | 0, i => i
  | k + 1, i => if dnS (g i) 1 49 = 0 then i else barS g k (i + 1)
def brF (W N : Nat) (room seen : Int64) (sh : Nat → Int64) (k : Nat) (sg : Int32) (c : Nat) (a : Int32 × Int32) : Int32 × Int32 :=
  bif bs room c then (if a.1 = -1 ∨ a.2 < sg * nI (cntS W N (seen ||| sh (k * 49 + c))) then (nI c, sg * nI (cntS W N (seen ||| sh (k * 49 + c)))) else a) else a
/-- the kind k at c fits what was found -/
def fitB (sh : Nat → Int64) (fc fd : Nat → Int32) (m k c : Nat) : Bool := decide (¬ sh (k * 49 + c) = 0) && agS fc fd (sh (k * 49 + c)) m
def cntB (f : Nat → Bool) : Nat → Nat
  | 0 => 0
  | n + 1 => cntB f n + (bif f n then 1 else 0)
theorem cntB_le (f : Nat → Bool) : ∀ n, cntB f n ≤ n
  | 0 => Nat.le_refl 0
  | n + 1 => by
    have h := cntB_le f n
    show cntB f n + (bif f n then 1 else 0) ≤ n + 1
    cases f n <;> simp <;> omega
def sumB (f : Nat → Nat → Bool) (N : Nat) : Nat → Nat
  | 0 => 0
  | k + 1 => sumB f N k + cntB (f k) N
def knd (f : Nat → Nat → Bool) (N : Nat) (k : Nat) (a : Int32) : Int32 := if 0 < cntB (f k) N then a ||| ((1 : Int32) <<< (nI k &&& 31)) else a
def lfC (f : Nat → Nat → Bool) (k c : Nat) (a : Int32) : Int32 := if a = -1 then (bif f k c then nI (100 * k + c) else a) else a
def lfK (f : Nat → Nat → Bool) (N k : Nat) (a : Int32) : Int32 := fo (lfC f k) N a
theorem fo_lfC {f : Nat → Nat → Bool} {k : Nat} {a : Int32} (h : ¬ a = -1) : ∀ n, fo (lfC f k) n a = a
  | 0 => rfl
  | n + 1 => by
    show lfC f k n (fo (lfC f k) n a) = a
    rw [fo_lfC h n]
    unfold lfC
    rw [if_neg h]
theorem fo_lfC2 {f : Nat → Nat → Bool} {k : Nat} {a b : Int32} {i : Nat} (h : fo (lfC f k) i a = b) (hb : ¬ b = -1) : ∀ n, fo (lfC f k) (i + n) a = b
  | 0 => h
  | n + 1 => by
    show lfC f k (i + n) (fo (lfC f k) (i + n) a) = b
    rw [fo_lfC2 h hb n]
    unfold lfC
    rw [if_neg hb]
theorem fo_lfK2 {f : Nat → Nat → Bool} {N : Nat} {a b : Int32} {i : Nat} (h : fo (lfK f N) i a = b) (hb : ¬ b = -1) : ∀ n, fo (lfK f N) (i + n) a = b
  | 0 => h
  | n + 1 => by
    show lfK f N (i + n) (fo (lfK f N) (i + n) a) = b
    rw [fo_lfK2 h hb n]
    exact fo_lfC hb N
def tlF (x : Int64) (c : Nat) (v : Int32) : Int32 := bif bs x c then v + 1 else v
def tlC (sh : Nat → Int64) (f : Nat → Nat → Bool) (k c : Nat) (t : Nat → Int32) : Nat → Int32 := bif f k c then mapP (tlF (sh (k * 49 + c))) t 49 else t
def tlK (sh : Nat → Int64) (f : Nat → Nat → Bool) (N k : Nat) (t : Nat → Int32) : Nat → Int32 := fo (tlC sh f k) N t
section DE3
variable {sc : Scr} {d : Nat} {w : Bool} {s : Nat → Int32} {l : Nat → Int64} {A : Nat → Nat → Int32} {B : Nat → Nat → Int64} {W H P : Nat}
theorem e_happen (hN : CN s l A B W H P) (hW : 2 ≤ W) (hH : 2 ≤ H) : Ev sc (d + 4) m_C_happenByDraw 0 (iniL 1 [.ref 0]) [] (HH w s l A B) none (HH w (upA (upA s 8 (hapD W H P (l 3) (A 4) (B 5) (s 8) (A 10) (A 11) (s 9)).1) 9 (hapD W H P (l 3) (A 4) (B 5) (s 8) (A 10) (A 11) (s 9)).2.2.2) l (upA (upA A 11 (hapD W H P (l 3) (A 4) (B 5) (s 8) (A 10) (A 11) (s 9)).2.2.1) 10 (hapD W H P (l 3) (A 4) (B 5) (s 8) (A 10) (A 11) (s 9)).2.1) B) := by
  have i9 : ∀ x, upA (upA s 8 x) 9 (s 9) = upA s 8 x := fun x => upS_same rfl
  have i1011 : upA (upA A 11 (A 11)) 10 (A 10) = A := by rw [upA_id, upA_id]
  have i11 : ∀ f, upA (upA A 11 (A 11)) 10 f = upA A 10 f := fun f => by rw [upA_id]
  repeat (first | refine ev_gos 99 rfl ?_ | refine ev_gf2 rfl rfl rfl rfl ?_ | refine ev_gf2 rfl rfl HH_land rfl ?_ | refine ev_gf2 rfl rfl HH_draft rfl ?_ | refine ev_gf2 rfl rfl (by with_reducible assumption) rfl ?_)
  refine ev_cv rfl rfl rfl (e_draw (m := 8) (by decide) (by decide)) ?_
  have hd := drN_lt (s 8) (m := 8) (by decide)
  refine (?_ : Ek sc (d + 4) m_C_happenByDraw 6 _ [.int (nI (drN (s 8) 8))] _ _ _ _ _)
  unfold hapD
  rcases (show drN (s 8) 8 = 0 ∨ drN (s 8) 8 = 1 ∨ drN (s 8) 8 = 2 ∨ drN (s 8) 8 = 3 ∨ drN (s 8) 8 = 4 ∨ drN (s 8) 8 = 5 ∨ drN (s 8) 8 = 6 ∨ drN (s 8) 8 = 7 by omega) with e | e | e | e | e | e | e | e
  · rw [e, if_pos rfl]
    refine ev_sw rfl rfl (rfl : _ = some 36) ?_
    repeat (first | refine ev_gos 99 rfl ?_ | refine ev_gf2 rfl rfl rfl rfl ?_ | refine ev_gf2 rfl rfl HH_land rfl ?_ | refine ev_gf2 rfl rfl HH_draft rfl ?_ | refine ev_gf2 rfl rfl (by with_reducible assumption) rfl ?_)
    refine ev_cv rfl rfl rfl (e_lieByDraw (s := upA s 8 (dS (s 8))) hN hW hH) ?_
    repeat (first | refine ev_gos 99 rfl ?_ | refine ev_gf2 rfl rfl rfl rfl ?_ | refine ev_gf2 rfl rfl HH_land rfl ?_ | refine ev_gf2 rfl rfl HH_draft rfl ?_ | refine ev_gf2 rfl rfl (by with_reducible assumption) rfl ?_)
    refine ev_rv rfl ?_
    by_cases h0 : P = 0
    · rw [if_pos h0, if_pos h0]
      dsimp only
      rw [i9, i1011]
    · rw [if_neg h0, if_neg h0]
      show (bif bs (rmS (B 5) (A 10) (A 4 (drN (dS (s 8)) P)).toNatClampNeg (W * H)) (drN (dS (dS (s 8))) (W * H)) then _ else _) = _
      cases hb : bs (rmS (B 5) (A 10) (A 4 (drN (dS (s 8)) P)).toNatClampNeg (W * H)) (drN (dS (dS (s 8))) (W * H)) with
      | true =>
        dsimp only [cond_true]
        rw [upA_up, i9]
        rfl
      | false =>
        dsimp only [cond_false]
        rw [upA_up, i9, i1011]
        rfl
  · rw [e, if_neg (by decide), if_pos rfl]
    refine ev_sw rfl rfl (rfl : _ = some 43) ?_
    repeat (first | refine ev_gos 99 rfl ?_ | refine ev_gf2 rfl rfl rfl rfl ?_ | refine ev_gf2 rfl rfl HH_land rfl ?_ | refine ev_gf2 rfl rfl HH_draft rfl ?_ | refine ev_gf2 rfl rfl (by with_reducible assumption) rfl ?_)
    refine ev_cv rfl rfl rfl (e_hareByDraw (s := upA s 8 (dS (s 8))) hN hW hH) ?_
    repeat (first | refine ev_gos 99 rfl ?_ | refine ev_gf2 rfl rfl rfl rfl ?_ | refine ev_gf2 rfl rfl HH_land rfl ?_ | refine ev_gf2 rfl rfl HH_draft rfl ?_ | refine ev_gf2 rfl rfl (by with_reducible assumption) rfl ?_)
    refine ev_rv rfl ?_
    show (bif bs (l 3) (drN (dS (s 8)) (W * H)) then _ else _) = _
    cases hb : bs (l 3) (drN (dS (s 8)) (W * H)) with
    | true =>
      dsimp only [cond_true]
      rw [upA_up, i9, i1011]
      rfl
    | false =>
      dsimp only [cond_false]
      rw [upA_up, i9, i11]
      rfl
  · rw [e, if_neg (by decide), if_neg (by decide), if_pos rfl]
    refine ev_sw rfl rfl (rfl : _ = some 50) ?_
    repeat (first | refine ev_gos 99 rfl ?_ | refine ev_gf2 rfl rfl rfl rfl ?_ | refine ev_gf2 rfl rfl HH_land rfl ?_ | refine ev_gf2 rfl rfl HH_draft rfl ?_ | refine ev_gf2 rfl rfl (by with_reducible assumption) rfl ?_)
    refine ev_cv rfl rfl rfl e_snowOver ?_
    repeat (first | refine ev_gos 99 rfl ?_ | refine ev_gf2 rfl rfl rfl rfl ?_ | refine ev_gf2 rfl rfl HH_land rfl ?_ | refine ev_gf2 rfl rfl HH_draft rfl ?_ | refine ev_gf2 rfl rfl (by with_reducible assumption) rfl ?_)
    refine ev_rv rfl ?_
    dsimp only
    rw [i9, i11]
  · rw [e, if_neg (by decide), if_neg (by decide), if_neg (by decide), if_pos rfl]
    refine ev_sw rfl rfl (rfl : _ = some 60) ?_
    repeat (first | refine ev_gos 99 rfl ?_ | refine ev_gf2 rfl rfl rfl rfl ?_ | refine ev_gf2 rfl rfl HH_land rfl ?_ | refine ev_gf2 rfl rfl HH_draft rfl ?_ | refine ev_gf2 rfl rfl (by with_reducible assumption) rfl ?_)
    refine ev_cv rfl rfl rfl (e_draw (m := 5) (by decide) (by decide)) ?_
    refine pf_F_9 rfl ?_
    repeat (first | refine ev_gos 99 rfl ?_ | refine ev_gf2 rfl rfl rfl rfl ?_ | refine ev_gf2 rfl rfl HH_land rfl ?_ | refine ev_gf2 rfl rfl HH_draft rfl ?_ | refine ev_gf2 rfl rfl (by with_reducible assumption) rfl ?_)
    refine ev_rv rfl ?_
    rw [upA_up, i1011]
    rfl
  all_goals
    rw [e, if_neg (by decide), if_neg (by decide), if_neg (by decide), if_neg (by decide)]
    refine ev_sw rfl rfl (rfl : _ = some 75) ?_
    refine ev_rv rfl ?_
    dsimp only
    rw [i9, i1011]
theorem e_tryN_loop (hN : CN s l A B W H P) {k n0 : Nat} (hk : k ≤ 4) (hs : s 11 = nI k) (hn : n0 ≤ 20) (f : Nat → Int32) (x : Int32) : ∀ (n i : Nat), i + n = n0 → Ev sc (d + 3) m_C_tryNights 15 [some (.ref 0), some (.int (nI n0)), some (.int (nI i))] [.int (nI n0), .int (nI i)] (HH w (upA s 12 (x + nI i)) l (upA A 13 (ngI W (W * H) (l 3) k f i)) B) none (HH w (upA s 12 (x + nI n0)) l (upA A 13 (ngI W (W * H) (l 3) k f n0)) B) := by
  intro n
  induction n with
  | zero =>
    intro i hi
    have e : i = n0 := by omega
    subst e
    refine ev_ift rfl rfl rfl (c_ge ((nI_leI (by omega) (by omega)).mpr (by omega))) ?_
    exact ev_rv rfl rfl
  | succ n ih =>
    intro i hi
    refine ev_iff rfl rfl rfl (d_ge (nI_lt3 (by omega) (by omega) (by omega))) ?_
    repeat (first | refine ev_gos 99 rfl ?_ | refine ev_gf2 rfl rfl rfl rfl ?_ | refine ev_gf2 rfl rfl HH_land rfl ?_ | refine ev_gf2 rfl rfl HH_draft rfl ?_ | refine ev_gf2 rfl rfl (by with_reducible assumption) rfl ?_)
    refine ev_cv rfl rfl rfl (e_passT (s := upA s 12 (x + nI i)) (W := W) (N := W * H) hN.1 hN.2.2.2.2.2.2.2.1 hN.2.2.2.2.2.2.2.2.1 hN.2.2.2.2.2.2.2.2.2.1 hk hs) ?_
    rw [upA_up, upA_up]
    repeat (first | refine ev_gos 99 rfl ?_ | refine ev_gf2 rfl rfl rfl rfl ?_ | refine ev_gf2 rfl rfl HH_land rfl ?_ | refine ev_gf2 rfl rfl HH_draft rfl ?_ | refine ev_gf2 rfl rfl (by with_reducible assumption) rfl ?_)
    have h3 := ih (i + 1) (by omega)
    rw [← nI_1, ← Int32.add_assoc] at h3
    exact h3
theorem e_tryN (hN : CN s l A B W H P) {k n : Nat} (hk : k ≤ 4) (hs : s 9 = nI k) (hn : n ≤ 20) : Ev sc (d + 4) m_C_tryNights 0 (iniL 3 [.ref 0, .int (nI n)]) [] (HH w s l A B) none (HH w (upA (upA s 11 (s 9)) 12 (s 10 + nI n)) l (upA (upA A 14 (va_cpy (A 11) (A 14) 0 0 7)) 13 (ngI W (W * H) (l 3) k (va_cpy (A 10) (A 13) 0 0 49) n)) B) := by
  repeat (first | refine ev_gos 99 rfl ?_ | refine ev_gf2 rfl rfl rfl rfl ?_ | refine ev_gf2 rfl rfl HH_land rfl ?_ | refine ev_gf2 rfl rfl HH_draft rfl ?_ | refine ev_gf2 rfl rfl (by with_reducible assumption) rfl ?_)
  refine ev_cv rfl rfl rfl e_become ?_
  rw [upA_comm A (p := 13) (q := 14) rfl]
  repeat (first | refine ev_gos 99 rfl ?_ | refine ev_gf2 rfl rfl rfl rfl ?_ | refine ev_gf2 rfl rfl HH_land rfl ?_ | refine ev_gf2 rfl rfl HH_draft rfl ?_ | refine ev_gf2 rfl rfl (by with_reducible assumption) rfl ?_)
  have h3 := e_tryN_loop (sc := sc) (d := d + 1) (w := w) (s := upA s 11 (s 9)) (A := upA A 14 (va_cpy (A 11) (A 14) 0 0 7)) (B := B) (W := W) (H := H) (P := P) hN hk hs hn (va_cpy (A 10) (A 13) 0 0 49) (s 10) n 0 (Nat.zero_add n)
  have e : s 10 + nI 0 = s 10 := Int32.add_zero _
  rw [e] at h3
  exact h3
theorem e_bare_loop (hN : CN s l A B W H P) {k : Nat} (hk : k ≤ 4) (hs : s 11 = nI k) (f : Nat → Int32) (x : Int32) : ∀ (n i : Nat), i + n = 9 → Ev sc (d + 3) m_C_bare 16 [some (.ref 0), some (.int (nI i))] [.int 9, .int (nI i)] (HH w (upA s 12 (x + nI i)) l (upA A 13 (ngI W (W * H) (l 3) k f i)) B) (some (.int (nI (barS (ngI W (W * H) (l 3) k f) n i)))) (HH w (upA s 12 (x + nI (barS (ngI W (W * H) (l 3) k f) n i))) l (upA A 13 (ngI W (W * H) (l 3) k f (barS (ngI W (W * H) (l 3) k f) n i))) B) := by
  intro n
  induction n with
  | zero =>
    intro i hi
    have e : i = 9 := by omega
    subst e
    refine ev_ift rfl rfl rfl (c_ge (by decide : (9 : Int32) ≤ nI 9)) ?_
    repeat (first | refine ev_gos 99 rfl ?_ | refine ev_gf2 rfl rfl rfl rfl ?_ | refine ev_gf2 rfl rfl HH_land rfl ?_ | refine ev_gf2 rfl rfl HH_draft rfl ?_ | refine ev_gf2 rfl rfl (by with_reducible assumption) rfl ?_)
    exact ev_ri rfl rfl rfl
  | succ n ih =>
    intro i hi
    refine ev_iff rfl rfl rfl (d_ge (nI_lt3 (b := 9) (by omega) (by omega) (by omega))) ?_
    repeat (first | refine ev_gos 99 rfl ?_ | refine ev_gf2 rfl rfl rfl rfl ?_ | refine ev_gf2 rfl rfl HH_land rfl ?_ | refine ev_gf2 rfl rfl HH_draft rfl ?_ | refine ev_gf2 rfl rfl (by with_reducible assumption) rfl ?_)
    refine ev_cv rfl rfl rfl (e_dented (p := 12) (pd := 13) (pa := 14) (wd := s 11) (nt := x + nI i) (f := ngI W (W * H) (l 3) k f i) rfl rfl) ?_
    repeat (first | refine ev_gos 99 rfl ?_ | refine ev_gf2 rfl rfl rfl rfl ?_ | refine ev_gf2 rfl rfl HH_land rfl ?_ | refine ev_gf2 rfl rfl HH_draft rfl ?_ | refine ev_gf2 rfl rfl (by with_reducible assumption) rfl ?_)
    by_cases h0 : dnS (ngI W (W * H) (l 3) k f i) 1 49 = 0
    · have e : barS (ngI W (W * H) (l 3) k f) (n + 1) i = i := by
        show (if dnS (ngI W (W * H) (l 3) k f i) 1 49 = 0 then _ else _) = _
        rw [if_pos h0]
      rw [e]
      refine ev_ift rfl rfl rfl (i_eq (lc_eq.mpr h0)) ?_
      repeat (first | refine ev_gos 99 rfl ?_ | refine ev_gf2 rfl rfl rfl rfl ?_ | refine ev_gf2 rfl rfl HH_land rfl ?_ | refine ev_gf2 rfl rfl HH_draft rfl ?_ | refine ev_gf2 rfl rfl (by with_reducible assumption) rfl ?_)
      exact ev_ri rfl rfl rfl
    · have e : barS (ngI W (W * H) (l 3) k f) (n + 1) i = barS (ngI W (W * H) (l 3) k f) n (i + 1) := by
        show (if dnS (ngI W (W * H) (l 3) k f i) 1 49 = 0 then _ else _) = _
        rw [if_neg h0]
      rw [e]
      refine ev_iff rfl rfl rfl (j_eq (fun z => h0 (lc_eq.mp z))) ?_
      repeat (first | refine ev_gos 99 rfl ?_ | refine ev_gf2 rfl rfl rfl rfl ?_ | refine ev_gf2 rfl rfl HH_land rfl ?_ | refine ev_gf2 rfl rfl HH_draft rfl ?_ | refine ev_gf2 rfl rfl (by with_reducible assumption) rfl ?_)
      refine ev_cv rfl rfl rfl (e_passT (s := upA s 12 (x + nI i)) (W := W) (N := W * H) hN.1 hN.2.2.2.2.2.2.2.1 hN.2.2.2.2.2.2.2.2.1 hN.2.2.2.2.2.2.2.2.2.1 hk hs) ?_
      rw [upA_up, upA_up]
      repeat (first | refine ev_gos 99 rfl ?_ | refine ev_gf2 rfl rfl rfl rfl ?_ | refine ev_gf2 rfl rfl HH_land rfl ?_ | refine ev_gf2 rfl rfl HH_draft rfl ?_ | refine ev_gf2 rfl rfl (by with_reducible assumption) rfl ?_)
      have h3 := ih (i + 1) (by omega)
      rw [← nI_1, ← Int32.add_assoc] at h3
      exact h3
theorem e_bare (hN : CN s l A B W H P) {k : Nat} (hk : k ≤ 4) (hs : s 9 = nI k) : Ev sc (d + 4) m_C_bare 0 (iniL 2 [.ref 0]) [] (HH w s l A B) (some (.int (nI (barS (ngI W (W * H) (l 3) k (va_cpy (A 10) (A 13) 0 0 49)) 9 0)))) (HH w (upA (upA s 11 (s 9)) 12 (s 10 + nI (barS (ngI W (W * H) (l 3) k (va_cpy (A 10) (A 13) 0 0 49)) 9 0))) l (upA (upA A 14 (va_cpy (A 11) (A 14) 0 0 7)) 13 (ngI W (W * H) (l 3) k (va_cpy (A 10) (A 13) 0 0 49) (barS (ngI W (W * H) (l 3) k (va_cpy (A 10) (A 13) 0 0 49)) 9 0))) B) := by
  repeat (first | refine ev_gos 99 rfl ?_ | refine ev_gf2 rfl rfl rfl rfl ?_ | refine ev_gf2 rfl rfl HH_land rfl ?_ | refine ev_gf2 rfl rfl HH_draft rfl ?_ | refine ev_gf2 rfl rfl (by with_reducible assumption) rfl ?_)
  refine ev_cv rfl rfl rfl e_become ?_
  rw [upA_comm A (p := 13) (q := 14) rfl]
  repeat (first | refine ev_gos 99 rfl ?_ | refine ev_gf2 rfl rfl rfl rfl ?_ | refine ev_gf2 rfl rfl HH_land rfl ?_ | refine ev_gf2 rfl rfl HH_draft rfl ?_ | refine ev_gf2 rfl rfl (by with_reducible assumption) rfl ?_)
  have h3 := e_bare_loop (sc := sc) (d := d + 1) (w := w) (s := upA s 11 (s 9)) (A := upA A 14 (va_cpy (A 11) (A 14) 0 0 7)) (B := B) (W := W) (H := H) (P := P) hN hk hs (va_cpy (A 10) (A 13) 0 0 49) (s 10) 9 0 rfl
  have e : s 10 + nI 0 = s 10 := Int32.add_zero _
  rw [e] at h3
  exact h3
theorem e_bestRoom_loop (hN : CN s l A B W H P) {p k : Nat} (hp : p < 7) (hk : k < 5) (ek : A 4 p = nI k) (sg : Int32) (room seen : Int64) : ∀ (n i : Nat), i + n = W * H → Ev sc (d + 5) m_C_bestRoomFor 30 [some (.ref 0), some (.int (nI p)), some (.int sg), some (.long room), none, some (.long seen), none, some (.int (fo (brF W (W * H) room seen (B 5) k sg) i (-1, 0)).1), some (.int (fo (brF W (W * H) room seen (B 5) k sg) i (-1, 0)).2), some (.int (nI i)), none] [.ref (wL w), .int (nI i)] (HH w s l A B) (some (.int (fo (brF W (W * H) room seen (B 5) k sg) (W * H) (-1, 0)).1)) (HH w s l A B) := by
  have h49 := hN.n49
  intro n
  induction n with
  | zero =>
    intro i hi
    have e : i = W * H := by omega
    subst e
    refine ev_cv rfl rfl HH_land (e_cells HH_land) ?_
    rw [hN.cells]
    refine ev_ift rfl rfl rfl (c_ge ((nI_leI (by omega) (by omega)).mpr (by omega))) ?_
    repeat (first | refine ev_gos 99 rfl ?_ | refine ev_gf2 rfl rfl rfl rfl ?_ | refine ev_gf2 rfl rfl HH_land rfl ?_ | refine ev_gf2 rfl rfl HH_draft rfl ?_ | refine ev_gf2 rfl rfl (by with_reducible assumption) rfl ?_)
    exact ev_ri rfl rfl rfl
  | succ n ih =>
    intro i hi
    refine ev_cv rfl rfl HH_land (e_cells HH_land) ?_
    rw [hN.cells]
    refine ev_iff rfl rfl rfl (d_ge (nI_lt3 (by omega) (by omega) (by omega))) ?_
    repeat (first | refine ev_gos 99 rfl ?_ | refine ev_gf2 rfl rfl rfl rfl ?_ | refine ev_gf2 rfl rfl HH_land rfl ?_ | refine ev_gf2 rfl rfl HH_draft rfl ?_ | refine ev_gf2 rfl rfl (by with_reducible assumption) rfl ?_)
    refine ev_cs rfl rfl rfl (e_has sc _ _ room (k := i) (by omega)) ?_
    have h3 := ih (i + 1) (by omega)
    rw [← nI_1] at h3
    have hst : fo (brF W (W * H) room seen (B 5) k sg) (i + 1) (-1, 0) = brF W (W * H) room seen (B 5) k sg i (fo (brF W (W * H) room seen (B 5) k sg) i (-1, 0)) := rfl
    rw [hst] at h3
    generalize fo (brF W (W * H) room seen (B 5) k sg) i (-1, 0) = a at h3 ⊢
    unfold brF at h3
    cases hb : bs room i with
    | false =>
      rw [hb] at h3
      refine ev_ift rfl rfl rfl rfl ?_
      repeat (first | refine ev_gos 99 rfl ?_ | refine ev_gf2 rfl rfl rfl rfl ?_ | refine ev_gf2 rfl rfl HH_land rfl ?_ | refine ev_gf2 rfl rfl HH_draft rfl ?_ | refine ev_gf2 rfl rfl (by with_reducible assumption) rfl ?_)
      exact ev_wk2 h3 rfl (by repeat' (first | exact trivial | refine ⟨rfl, ?_⟩))
    | true =>
      rw [hb] at h3
      refine ev_iff rfl rfl rfl rfl ?_
      repeat (first | refine ev_gos 99 rfl ?_ | refine ev_gf2 rfl rfl rfl rfl ?_ | refine ev_gf2 rfl rfl HH_land rfl ?_ | refine ev_gf2 rfl rfl HH_draft rfl ?_ | refine ev_gf2 rfl rfl (by with_reducible assumption) rfl ?_)
      (refine ev_ia rfl HH_kinds (inI (by omega) (by decide)) ?_; rw [nI_clamp (by omega)])
      rw [ek]
      repeat (first | refine ev_gos 99 rfl ?_ | refine ev_gf2 rfl rfl rfl rfl ?_ | refine ev_gf2 rfl rfl HH_land rfl ?_ | refine ev_gf2 rfl rfl HH_draft rfl ?_ | refine ev_gf2 rfl rfl (by with_reducible assumption) rfl ?_)
      refine ev_cv rfl rfl HH_land (e_shape HH_land HH_shapes hk (by omega)) ?_
      repeat (first | refine ev_gos 99 rfl ?_ | refine ev_gf2 rfl rfl rfl rfl ?_ | refine ev_gf2 rfl rfl HH_land rfl ?_ | refine ev_gf2 rfl rfl HH_draft rfl ?_ | refine ev_gf2 rfl rfl (by with_reducible assumption) rfl ?_)
      refine ev_cv rfl rfl HH_land (e_countOf HH_land hN.1 hN.2.2.2.2.2.2.2.1 hN.2.2.2.2.2.2.2.2.1 hN.2.2.2.2.2.2.2.2.2.1 _) ?_
      repeat (first | refine ev_gos 99 rfl ?_ | refine ev_gf2 rfl rfl rfl rfl ?_ | refine ev_gf2 rfl rfl HH_land rfl ?_ | refine ev_gf2 rfl rfl HH_draft rfl ?_ | refine ev_gf2 rfl rfl (by with_reducible assumption) rfl ?_)
      dsimp only [cond_true] at h3
      by_cases h1 : a.1 = -1
      · rw [if_pos (Or.inl h1)] at h3
        refine ev_ift rfl rfl rfl (c_eq h1) ?_
        repeat (first | refine ev_gos 99 rfl ?_ | refine ev_gf2 rfl rfl rfl rfl ?_ | refine ev_gf2 rfl rfl HH_land rfl ?_ | refine ev_gf2 rfl rfl HH_draft rfl ?_ | refine ev_gf2 rfl rfl (by with_reducible assumption) rfl ?_)
        exact ev_wk2 h3 rfl (by repeat' (first | exact trivial | refine ⟨rfl, ?_⟩))
      · refine ev_iff rfl rfl rfl (d_eq h1) ?_
        repeat (first | refine ev_gos 99 rfl ?_ | refine ev_gf2 rfl rfl rfl rfl ?_ | refine ev_gf2 rfl rfl HH_land rfl ?_ | refine ev_gf2 rfl rfl HH_draft rfl ?_ | refine ev_gf2 rfl rfl (by with_reducible assumption) rfl ?_)
        by_cases h2 : a.2 < sg * nI (cntS W (W * H) (seen ||| B 5 (k * 49 + i)))
        · rw [if_pos (Or.inr h2)] at h3
          refine ev_iff rfl rfl rfl (d_le (fun z => le_nlt z h2)) ?_
          repeat (first | refine ev_gos 99 rfl ?_ | refine ev_gf2 rfl rfl rfl rfl ?_ | refine ev_gf2 rfl rfl HH_land rfl ?_ | refine ev_gf2 rfl rfl HH_draft rfl ?_ | refine ev_gf2 rfl rfl (by with_reducible assumption) rfl ?_)
          exact ev_wk2 h3 rfl (by repeat' (first | exact trivial | refine ⟨rfl, ?_⟩))
        · rw [if_neg (fun z => z.elim h1 h2)] at h3
          refine ev_ift rfl rfl rfl (c_le (nlt_le3 h2)) ?_
          repeat (first | refine ev_gos 99 rfl ?_ | refine ev_gf2 rfl rfl rfl rfl ?_ | refine ev_gf2 rfl rfl HH_land rfl ?_ | refine ev_gf2 rfl rfl HH_draft rfl ?_ | refine ev_gf2 rfl rfl (by with_reducible assumption) rfl ?_)
          exact ev_wk2 h3 rfl (by repeat' (first | exact trivial | refine ⟨rfl, ?_⟩))
theorem e_bestRoom (hN : CN s l A B W H P) {p k : Nat} (hp : p < 7) (hk : k < 5) (ek : A 4 p = nI k) (sg : Int32) : Ev sc (d + 5) m_C_bestRoomFor 0 (iniL 11 [.ref 0, .int (nI p), .int sg]) [] (HH w s l A B) (some (.int (fo (brF W (W * H) (rmS (B 5) (A 10) k (W * H)) (dnS (A 10) 3 49) (B 5) k sg) (W * H) (-1, 0)).1)) (HH w s l A B) := by
  repeat (first | refine ev_gos 99 rfl ?_ | refine ev_gf2 rfl rfl rfl rfl ?_ | refine ev_gf2 rfl rfl HH_land rfl ?_ | refine ev_gf2 rfl rfl HH_draft rfl ?_ | refine ev_gf2 rfl rfl (by with_reducible assumption) rfl ?_)
  refine ev_cv rfl rfl rfl (e_roomFor hN hp hk ek) ?_
  repeat (first | refine ev_gos 99 rfl ?_ | refine ev_gf2 rfl rfl rfl rfl ?_ | refine ev_gf2 rfl rfl HH_land rfl ?_ | refine ev_gf2 rfl rfl HH_draft rfl ?_ | refine ev_gf2 rfl rfl (by with_reducible assumption) rfl ?_)
  refine ev_cv rfl rfl rfl (e_seen (p := 9) (pd := 10) (pa := 11) (wd := s 9) (nt := s 10) (f := A 10) rfl rfl) ?_
  repeat (first | refine ev_gos 99 rfl ?_ | refine ev_gf2 rfl rfl rfl rfl ?_ | refine ev_gf2 rfl rfl HH_land rfl ?_ | refine ev_gf2 rfl rfl HH_draft rfl ?_ | refine ev_gf2 rfl rfl (by with_reducible assumption) rfl ?_)
  exact e_bestRoom_loop hN hp hk ek sg _ _ (W * H) 0 (Nat.zero_add _)
/-- what was found so far -/
def FD (s : Nat → Int32) (A : Nat → Nat → Int32) (N m : Nat) : Prop := m ≤ 6 ∧ s 13 = nI m ∧ ∀ i, i < m → ∃ c, c < N ∧ A 22 i = nI c
theorem e_fitsFound {N m : Nat} (h49 : N ≤ 49) (hF : FD s A N m) {k c : Nat} (hk : k < 5) (hc : c < 49) : Ev sc (d + 2) m_C_fitsFound 0 (iniL 5 [.ref 0, .int (nI k), .int (nI c)]) [] (HH w s l A B) (some (.int (b01 (fitB (B 5) (A 22) (A 23) m k c)))) (HH w s l A B) := by
  repeat (first | refine ev_gos 99 rfl ?_ | refine ev_gf2 rfl rfl rfl rfl ?_ | refine ev_gf2 rfl rfl HH_land rfl ?_ | refine ev_gf2 rfl rfl HH_draft rfl ?_ | refine ev_gf2 rfl rfl (by with_reducible assumption) rfl ?_)
  refine ev_cv rfl rfl HH_land (e_shape HH_land HH_shapes hk hc) ?_
  repeat (first | refine ev_gos 99 rfl ?_ | refine ev_gf2 rfl rfl rfl rfl ?_ | refine ev_gf2 rfl rfl HH_land rfl ?_ | refine ev_gf2 rfl rfl HH_draft rfl ?_ | refine ev_gf2 rfl rfl (by with_reducible assumption) rfl ?_)
  unfold fitB
  by_cases h1 : B 5 (k * 49 + c) = 0
  · refine ev_ift rfl rfl rfl (i_eq (lc_eq.mpr h1)) ?_
    repeat (first | refine ev_gos 99 rfl ?_ | refine ev_gf2 rfl rfl rfl rfl ?_ | refine ev_gf2 rfl rfl HH_land rfl ?_ | refine ev_gf2 rfl rfl HH_draft rfl ?_ | refine ev_gf2 rfl rfl (by with_reducible assumption) rfl ?_)
    exact ev_rz rfl (Or.inl rfl) (by rw [decide_eq_false (fun z => z h1)]; rfl) rfl
  · refine ev_iff rfl rfl rfl (j_eq (fun z => h1 (lc_eq.mp z))) ?_
    repeat (first | refine ev_gos 99 rfl ?_ | refine ev_gf2 rfl rfl rfl rfl ?_ | refine ev_gf2 rfl rfl HH_land rfl ?_ | refine ev_gf2 rfl rfl HH_draft rfl ?_ | refine ev_gf2 rfl rfl (by with_reducible assumption) rfl ?_)
    refine ev_cv rfl rfl rfl (e_agrees hF.1 hF.2.1 (fun i hi => by obtain ⟨c, c1, c2⟩ := hF.2.2 i hi; exact ⟨c, by omega, c2⟩) _) ?_
    rw [decide_eq_true h1]
    cases hb : agS (A 22) (A 23) (B 5 (k * 49 + c)) m with
    | true =>
      refine ev_iff rfl rfl rfl rfl ?_
      repeat (first | refine ev_gos 99 rfl ?_ | refine ev_gf2 rfl rfl rfl rfl ?_ | refine ev_gf2 rfl rfl HH_land rfl ?_ | refine ev_gf2 rfl rfl HH_draft rfl ?_ | refine ev_gf2 rfl rfl (by with_reducible assumption) rfl ?_)
      exact ev_rz rfl (Or.inr rfl) rfl rfl
    | false =>
      refine ev_ift rfl rfl rfl rfl ?_
      repeat (first | refine ev_gos 99 rfl ?_ | refine ev_gf2 rfl rfl rfl rfl ?_ | refine ev_gf2 rfl rfl HH_land rfl ?_ | refine ev_gf2 rfl rfl HH_draft rfl ?_ | refine ev_gf2 rfl rfl (by with_reducible assumption) rfl ?_)
      exact ev_rz rfl (Or.inl rfl) rfl rfl
theorem e_howOfKind_loop (hN : CN s l A B W H P) {m : Nat} (hF : FD s A (W * H) m) {k : Nat} (hk : k < 5) : ∀ (n i : Nat), i + n = W * H → Ev sc (d + 3) m_C_howManyOfKindFit 9 [some (.ref 0), some (.int (nI k)), some (.int (nI (cntB (fitB (B 5) (A 22) (A 23) m k) i))), some (.int (nI i))] [.ref (wL w), .int (nI i)] (HH w s l A B) (some (.int (nI (cntB (fitB (B 5) (A 22) (A 23) m k) (W * H))))) (HH w s l A B) := by
  have h49 := hN.n49
  intro n
  induction n with
  | zero =>
    intro i hi
    have e : i = W * H := by omega
    subst e
    refine ev_cv rfl rfl HH_land (e_cells HH_land) ?_
    rw [hN.cells]
    refine ev_ift rfl rfl rfl (c_ge ((nI_leI (by omega) (by omega)).mpr (by omega))) ?_
    repeat (first | refine ev_gos 99 rfl ?_ | refine ev_gf2 rfl rfl rfl rfl ?_ | refine ev_gf2 rfl rfl HH_land rfl ?_ | refine ev_gf2 rfl rfl HH_draft rfl ?_ | refine ev_gf2 rfl rfl (by with_reducible assumption) rfl ?_)
    exact ev_ri rfl rfl rfl
  | succ n ih =>
    intro i hi
    refine ev_cv rfl rfl HH_land (e_cells HH_land) ?_
    rw [hN.cells]
    refine ev_iff rfl rfl rfl (d_ge (nI_lt3 (by omega) (by omega) (by omega))) ?_
    repeat (first | refine ev_gos 99 rfl ?_ | refine ev_gf2 rfl rfl rfl rfl ?_ | refine ev_gf2 rfl rfl HH_land rfl ?_ | refine ev_gf2 rfl rfl HH_draft rfl ?_ | refine ev_gf2 rfl rfl (by with_reducible assumption) rfl ?_)
    refine ev_cv rfl rfl rfl (e_fitsFound h49 hF hk (c := i) (by omega)) ?_
    have h3 := ih (i + 1) (by omega)
    rw [← nI_1, show cntB (fitB (B 5) (A 22) (A 23) m k) (i + 1) = cntB (fitB (B 5) (A 22) (A 23) m k) i + (bif fitB (B 5) (A 22) (A 23) m k i then 1 else 0) from rfl] at h3
    cases hb : fitB (B 5) (A 22) (A 23) m k i with
    | true =>
      rw [hb] at h3
      dsimp only [cond_true] at h3
      rw [← nI_1] at h3
      refine ev_iff rfl rfl rfl rfl ?_
      repeat (first | refine ev_gos 99 rfl ?_ | refine ev_gf2 rfl rfl rfl rfl ?_ | refine ev_gf2 rfl rfl HH_land rfl ?_ | refine ev_gf2 rfl rfl HH_draft rfl ?_ | refine ev_gf2 rfl rfl (by with_reducible assumption) rfl ?_)
      exact h3
    | false =>
      rw [hb] at h3
      refine ev_ift rfl rfl rfl rfl ?_
      repeat (first | refine ev_gos 99 rfl ?_ | refine ev_gf2 rfl rfl rfl rfl ?_ | refine ev_gf2 rfl rfl HH_land rfl ?_ | refine ev_gf2 rfl rfl HH_draft rfl ?_ | refine ev_gf2 rfl rfl (by with_reducible assumption) rfl ?_)
      exact h3
theorem e_howOfKind (hN : CN s l A B W H P) {m : Nat} (hF : FD s A (W * H) m) {k : Nat} (hk : k < 5) : Ev sc (d + 3) m_C_howManyOfKindFit 0 (iniL 4 [.ref 0, .int (nI k)]) [] (HH w s l A B) (some (.int (nI (cntB (fitB (B 5) (A 22) (A 23) m k) (W * H))))) (HH w s l A B) := by
  repeat (first | refine ev_gos 99 rfl ?_ | refine ev_gf2 rfl rfl rfl rfl ?_ | refine ev_gf2 rfl rfl HH_land rfl ?_ | refine ev_gf2 rfl rfl HH_draft rfl ?_ | refine ev_gf2 rfl rfl (by with_reducible assumption) rfl ?_)
  exact e_howOfKind_loop hN hF hk (W * H) 0 (Nat.zero_add _)
theorem e_howMany_loop (hN : CN s l A B W H P) {m : Nat} (hF : FD s A (W * H) m) : ∀ (n i : Nat), i + n = 5 → Ev sc (d + 4) m_C_howManyFit 6 [some (.ref 0), some (.int (nI (sumB (fitB (B 5) (A 22) (A 23) m) (W * H) i))), some (.int (nI i))] [.int 5, .int (nI i)] (HH w s l A B) (some (.int (nI (sumB (fitB (B 5) (A 22) (A 23) m) (W * H) 5)))) (HH w s l A B) := by
  intro n
  induction n with
  | zero =>
    intro i hi
    have e : i = 5 := by omega
    subst e
    refine ev_ift rfl rfl rfl (c_ge (by decide : (5 : Int32) ≤ nI 5)) ?_
    repeat (first | refine ev_gos 99 rfl ?_ | refine ev_gf2 rfl rfl rfl rfl ?_ | refine ev_gf2 rfl rfl HH_land rfl ?_ | refine ev_gf2 rfl rfl HH_draft rfl ?_ | refine ev_gf2 rfl rfl (by with_reducible assumption) rfl ?_)
    exact ev_ri rfl rfl rfl
  | succ n ih =>
    intro i hi
    refine ev_iff rfl rfl rfl (d_ge (nI_lt3 (b := 5) (by omega) (by omega) (by omega))) ?_
    repeat (first | refine ev_gos 99 rfl ?_ | refine ev_gf2 rfl rfl rfl rfl ?_ | refine ev_gf2 rfl rfl HH_land rfl ?_ | refine ev_gf2 rfl rfl HH_draft rfl ?_ | refine ev_gf2 rfl rfl (by with_reducible assumption) rfl ?_)
    refine ev_cv rfl rfl rfl (e_howOfKind hN hF (k := i) (by omega)) ?_
    have h3 := ih (i + 1) (by omega)
    rw [← nI_1, show sumB (fitB (B 5) (A 22) (A 23) m) (W * H) (i + 1) = sumB (fitB (B 5) (A 22) (A 23) m) (W * H) i + cntB (fitB (B 5) (A 22) (A 23) m i) (W * H) from rfl, ← nI_add] at h3
    repeat (first | refine ev_gos 99 rfl ?_ | refine ev_gf2 rfl rfl rfl rfl ?_ | refine ev_gf2 rfl rfl HH_land rfl ?_ | refine ev_gf2 rfl rfl HH_draft rfl ?_ | refine ev_gf2 rfl rfl (by with_reducible assumption) rfl ?_)
    exact h3
theorem e_howMany (hN : CN s l A B W H P) {m : Nat} (hF : FD s A (W * H) m) : Ev sc (d + 4) m_C_howManyFit 0 (iniL 3 [.ref 0]) [] (HH w s l A B) (some (.int (nI (sumB (fitB (B 5) (A 22) (A 23) m) (W * H) 5)))) (HH w s l A B) := by
  repeat (first | refine ev_gos 99 rfl ?_ | refine ev_gf2 rfl rfl rfl rfl ?_ | refine ev_gf2 rfl rfl HH_land rfl ?_ | refine ev_gf2 rfl rfl HH_draft rfl ?_ | refine ev_gf2 rfl rfl (by with_reducible assumption) rfl ?_)
  exact e_howMany_loop hN hF 5 0 rfl
theorem e_kinds_loop (hN : CN s l A B W H P) {m : Nat} (hF : FD s A (W * H) m) : ∀ (n i : Nat), i + n = 5 → Ev sc (d + 4) m_C_kindsThatFit 6 [some (.ref 0), some (.int (fo (knd (fitB (B 5) (A 22) (A 23) m) (W * H)) i 0)), some (.int (nI i))] [.int 5, .int (nI i)] (HH w s l A B) (some (.int (fo (knd (fitB (B 5) (A 22) (A 23) m) (W * H)) 5 0))) (HH w s l A B) := by
  have h49 := hN.n49
  intro n
  induction n with
  | zero =>
    intro i hi
    have e : i = 5 := by omega
    subst e
    refine ev_ift rfl rfl rfl (c_ge (by decide : (5 : Int32) ≤ nI 5)) ?_
    repeat (first | refine ev_gos 99 rfl ?_ | refine ev_gf2 rfl rfl rfl rfl ?_ | refine ev_gf2 rfl rfl HH_land rfl ?_ | refine ev_gf2 rfl rfl HH_draft rfl ?_ | refine ev_gf2 rfl rfl (by with_reducible assumption) rfl ?_)
    exact ev_ri rfl rfl rfl
  | succ n ih =>
    intro i hi
    refine ev_iff rfl rfl rfl (d_ge (nI_lt3 (b := 5) (by omega) (by omega) (by omega))) ?_
    repeat (first | refine ev_gos 99 rfl ?_ | refine ev_gf2 rfl rfl rfl rfl ?_ | refine ev_gf2 rfl rfl HH_land rfl ?_ | refine ev_gf2 rfl rfl HH_draft rfl ?_ | refine ev_gf2 rfl rfl (by with_reducible assumption) rfl ?_)
    refine ev_cv rfl rfl rfl (e_howOfKind hN hF (k := i) (by omega)) ?_
    have h3 := ih (i + 1) (by omega)
    have hst : fo (knd (fitB (B 5) (A 22) (A 23) m) (W * H)) (i + 1) 0 = knd (fitB (B 5) (A 22) (A 23) m) (W * H) i (fo (knd (fitB (B 5) (A 22) (A 23) m) (W * H)) i 0) := rfl
    rw [← nI_1, hst] at h3
    unfold knd at h3
    have hle := cntB_le (fitB (B 5) (A 22) (A 23) m i) (W * H)
    by_cases h0 : 0 < cntB (fitB (B 5) (A 22) (A 23) m i) (W * H)
    · rw [if_pos h0] at h3
      refine ev_iff rfl rfl rfl (j_le (nI_nle h0 (by omega))) ?_
      repeat (first | refine ev_gos 99 rfl ?_ | refine ev_gf2 rfl rfl rfl rfl ?_ | refine ev_gf2 rfl rfl HH_land rfl ?_ | refine ev_gf2 rfl rfl HH_draft rfl ?_ | refine ev_gf2 rfl rfl (by with_reducible assumption) rfl ?_)
      exact h3
    · rw [if_neg h0] at h3
      refine ev_ift rfl rfl rfl (i_le (by rw [show cntB (fitB (B 5) (A 22) (A 23) m i) (W * H) = 0 by omega]; decide)) ?_
      repeat (first | refine ev_gos 99 rfl ?_ | refine ev_gf2 rfl rfl rfl rfl ?_ | refine ev_gf2 rfl rfl HH_land rfl ?_ | refine ev_gf2 rfl rfl HH_draft rfl ?_ | refine ev_gf2 rfl rfl (by with_reducible assumption) rfl ?_)
      exact h3
theorem e_kinds (hN : CN s l A B W H P) {m : Nat} (hF : FD s A (W * H) m) : Ev sc (d + 4) m_C_kindsThatFit 0 (iniL 3 [.ref 0]) [] (HH w s l A B) (some (.int (fo (knd (fitB (B 5) (A 22) (A 23) m) (W * H)) 5 0))) (HH w s l A B) := by
  repeat (first | refine ev_gos 99 rfl ?_ | refine ev_gf2 rfl rfl rfl rfl ?_ | refine ev_gf2 rfl rfl HH_land rfl ?_ | refine ev_gf2 rfl rfl HH_draft rfl ?_ | refine ev_gf2 rfl rfl (by with_reducible assumption) rfl ?_)
  exact e_kinds_loop hN hF 5 0 rfl
end DE3
end
section
/-! the class: the least that fits, the tally -/
section FIT
variable {sc : Scr} {d : Nat} {w : Bool} {s : Nat → Int32} {l : Nat → Int64} {A : Nat → Nat → Int32} {B : Nat → Nat → Int64} {W H P : Nat}
theorem e_least_in (hN : CN s l A B W H P) {m : Nat} (hF : FD s A (W * H) m) {k : Nat} (hk : k < 5) (hout : fo (lfK (fitB (B 5) (A 22) (A 23) m) (W * H)) (k + 1) (-1) = -1 → Ev sc (d + 3) m_C_leastFit 4 [some (.ref 0), some (.int (nI (k + 1))), none] [.int 5, .int (nI (k + 1))] (HH w s l A B) (some (.int (fo (lfK (fitB (B 5) (A 22) (A 23) m) (W * H)) 5 (-1)))) (HH w s l A B)) : ∀ (n i : Nat), i + n = W * H → fo (lfC (fitB (B 5) (A 22) (A 23) m) k) i (fo (lfK (fitB (B 5) (A 22) (A 23) m) (W * H)) k (-1)) = -1 → Ev sc (d + 3) m_C_leastFit 14 [some (.ref 0), some (.int (nI k)), some (.int (nI i))] [.ref (wL w), .int (nI i)] (HH w s l A B) (some (.int (fo (lfK (fitB (B 5) (A 22) (A 23) m) (W * H)) 5 (-1)))) (HH w s l A B) := by
  have h49 := hN.n49
  intro n
  induction n with
  | zero =>
    intro i hi hp
    have e : i = W * H := by omega
    subst e
    refine ev_cv rfl rfl HH_land (e_cells HH_land) ?_
    rw [hN.cells]
    refine ev_ift rfl rfl rfl (c_ge ((nI_leI (by omega) (by omega)).mpr (by omega))) ?_
    repeat (first | refine ev_gos 99 rfl ?_ | refine ev_gf2 rfl rfl rfl rfl ?_ | refine ev_gf2 rfl rfl HH_land rfl ?_ | refine ev_gf2 rfl rfl HH_draft rfl ?_ | refine ev_gf2 rfl rfl (by with_reducible assumption) rfl ?_)
    have h3 := hout hp
    rw [← nI_1] at h3
    exact ev_wk2 h3 rfl (by repeat' (first | exact trivial | refine ⟨rfl, ?_⟩))
  | succ n ih =>
    intro i hi hp
    refine ev_cv rfl rfl HH_land (e_cells HH_land) ?_
    rw [hN.cells]
    refine ev_iff rfl rfl rfl (d_ge (nI_lt3 (by omega) (by omega) (by omega))) ?_
    repeat (first | refine ev_gos 99 rfl ?_ | refine ev_gf2 rfl rfl rfl rfl ?_ | refine ev_gf2 rfl rfl HH_land rfl ?_ | refine ev_gf2 rfl rfl HH_draft rfl ?_ | refine ev_gf2 rfl rfl (by with_reducible assumption) rfl ?_)
    refine ev_cv rfl rfl rfl (e_fitsFound h49 hF hk (c := i) (by omega)) ?_
    have hst : fo (lfC (fitB (B 5) (A 22) (A 23) m) k) (i + 1) (fo (lfK (fitB (B 5) (A 22) (A 23) m) (W * H)) k (-1)) = bif fitB (B 5) (A 22) (A 23) m k i then nI (100 * k + i) else -1 := by
      show lfC _ k i (fo (lfC (fitB (B 5) (A 22) (A 23) m) k) i _) = _
      rw [hp]
      rfl
    cases hb : fitB (B 5) (A 22) (A 23) m k i with
    | false =>
      rw [hb] at hst
      refine ev_ift rfl rfl rfl rfl ?_
      repeat (first | refine ev_gos 99 rfl ?_ | refine ev_gf2 rfl rfl rfl rfl ?_ | refine ev_gf2 rfl rfl HH_land rfl ?_ | refine ev_gf2 rfl rfl HH_draft rfl ?_ | refine ev_gf2 rfl rfl (by with_reducible assumption) rfl ?_)
      have h3 := ih (i + 1) (by omega) hst
      rw [← nI_1] at h3
      exact h3
    | true =>
      rw [hb] at hst
      refine ev_iff rfl rfl rfl rfl ?_
      repeat (first | refine ev_gos 99 rfl ?_ | refine ev_gf2 rfl rfl rfl rfl ?_ | refine ev_gf2 rfl rfl HH_land rfl ?_ | refine ev_gf2 rfl rfl HH_draft rfl ?_ | refine ev_gf2 rfl rfl (by with_reducible assumption) rfl ?_)
      have hne : ¬ nI (100 * k + i) = -1 := by
        intro z
        rw [fa_eq, nI_toInt (by omega)] at z
        have : (-1 : Int32).toInt = -1 := by decide
        omega
      refine ev_ri rfl ?_ rfl
      show nI 100 * nI k + nI i = _
      rw [pk_mul, nI_add]
      have h4 := fo_lfC2 hst hne n
      rw [show i + 1 + n = W * H by omega] at h4
      have h5 := fo_lfK2 (f := fitB (B 5) (A 22) (A 23) m) (N := W * H) (i := k + 1) (a := -1) (b := nI (100 * k + i)) h4 hne (4 - k)
      rw [show k + 1 + (4 - k) = 5 by omega] at h5
      exact h5.symm
theorem e_least_out (hN : CN s l A B W H P) {m : Nat} (hF : FD s A (W * H) m) : ∀ (n k : Nat), k + n = 5 → fo (lfK (fitB (B 5) (A 22) (A 23) m) (W * H)) k (-1) = -1 → Ev sc (d + 3) m_C_leastFit 4 [some (.ref 0), some (.int (nI k)), none] [.int 5, .int (nI k)] (HH w s l A B) (some (.int (fo (lfK (fitB (B 5) (A 22) (A 23) m) (W * H)) 5 (-1)))) (HH w s l A B) := by
  intro n
  induction n with
  | zero =>
    intro k hk hp
    have e : k = 5 := by omega
    subst e
    refine ev_ift rfl rfl rfl (c_ge (by decide : (5 : Int32) ≤ nI 5)) ?_
    repeat (first | refine ev_gos 99 rfl ?_ | refine ev_gf2 rfl rfl rfl rfl ?_ | refine ev_gf2 rfl rfl HH_land rfl ?_ | refine ev_gf2 rfl rfl HH_draft rfl ?_ | refine ev_gf2 rfl rfl (by with_reducible assumption) rfl ?_)
    exact ev_ri rfl hp.symm rfl
  | succ n ih =>
    intro k hk hp
    refine ev_iff rfl rfl rfl (d_ge (nI_lt3 (b := 5) (by omega) (by omega) (by omega))) ?_
    repeat (first | refine ev_gos 99 rfl ?_ | refine ev_gf2 rfl rfl rfl rfl ?_ | refine ev_gf2 rfl rfl HH_land rfl ?_ | refine ev_gf2 rfl rfl HH_draft rfl ?_ | refine ev_gf2 rfl rfl (by with_reducible assumption) rfl ?_)
    exact e_least_in hN hF (k := k) (by omega) (fun h => ih (k + 1) (by omega) h) (W * H) 0 (Nat.zero_add _) hp
theorem e_least (hN : CN s l A B W H P) {m : Nat} (hF : FD s A (W * H) m) : Ev sc (d + 3) m_C_leastFit 0 (iniL 3 [.ref 0]) [] (HH w s l A B) (some (.int (fo (lfK (fitB (B 5) (A 22) (A 23) m) (W * H)) 5 (-1)))) (HH w s l A B) := by
  repeat (first | refine ev_gos 99 rfl ?_ | refine ev_gf2 rfl rfl rfl rfl ?_ | refine ev_gf2 rfl rfl HH_land rfl ?_ | refine ev_gf2 rfl rfl HH_draft rfl ?_ | refine ev_gf2 rfl rfl (by with_reducible assumption) rfl ?_)
  exact e_least_out hN hF 5 0 rfl rfl
theorem e_tallyC_loop (x : Int64) (f : Nat → Int32) : ∀ (n i : Nat), i + n = 49 → Ev sc (d + 1) m_C_tallyCells 5 [some (.ref 0), some (.long x), none, some (.int (nI i))] [.int 49, .int (nI i)] (HH w s l (upA A 25 (mapP (tlF x) f i)) B) none (HH w s l (upA A 25 (mapP (tlF x) f 49)) B) := by
  intro n
  induction n with
  | zero =>
    intro i hi
    have e : i = 49 := by omega
    subst e
    refine ev_ift rfl rfl rfl (c_ge (by decide : (49 : Int32) ≤ nI 49)) ?_
    exact ev_rv rfl rfl
  | succ n ih =>
    intro i hi
    refine ev_iff rfl rfl rfl (d_ge (nI_lt3 (by omega) (by decide) (by omega) : ¬ nI 49 ≤ nI i)) ?_
    repeat (first | refine ev_gos 99 rfl ?_ | refine ev_gf2 rfl rfl rfl rfl ?_ | refine ev_gf2 rfl rfl HH_land rfl ?_ | refine ev_gf2 rfl rfl HH_draft rfl ?_ | refine ev_gf2 rfl rfl (by with_reducible assumption) rfl ?_)
    refine ev_cs rfl rfl rfl (e_has sc d _ x (k := i) (by omega)) ?_
    have h3 := ih (i + 1) (by omega)
    rw [← nI_1] at h3
    cases hb : bs x i with
    | true =>
      refine ev_iff rfl rfl rfl rfl ?_
      repeat (first | refine ev_gos 99 rfl ?_ | refine ev_gf2 rfl rfl rfl rfl ?_ | refine ev_gf2 rfl rfl HH_land rfl ?_ | refine ev_gf2 rfl rfl HH_draft rfl ?_ | refine ev_gf2 rfl rfl (by with_reducible assumption) rfl ?_)
      refine ev_ia rfl rfl (inI (by omega) (by decide)) ?_
      rw [nI_clamp (by omega), upA_at, mapP_at]
      repeat (first | refine ev_gos 99 rfl ?_ | refine ev_gf2 rfl rfl rfl rfl ?_ | refine ev_gf2 rfl rfl HH_land rfl ?_ | refine ev_gf2 rfl rfl HH_draft rfl ?_ | refine ev_gf2 rfl rfl (by with_reducible assumption) rfl ?_)
      refine it_25 rfl (inI (by omega) (by decide)) ?_
      rw [nI_clamp (by omega)]
      rw [← mapP_s, show tlF x i (f i) = f i + 1 by unfold tlF; rw [hb]; rfl] at h3
      repeat (first | refine ev_gos 99 rfl ?_ | refine ev_gf2 rfl rfl rfl rfl ?_ | refine ev_gf2 rfl rfl HH_land rfl ?_ | refine ev_gf2 rfl rfl HH_draft rfl ?_ | refine ev_gf2 rfl rfl (by with_reducible assumption) rfl ?_)
      exact h3
    | false =>
      refine ev_ift rfl rfl rfl rfl ?_
      repeat (first | refine ev_gos 99 rfl ?_ | refine ev_gf2 rfl rfl rfl rfl ?_ | refine ev_gf2 rfl rfl HH_land rfl ?_ | refine ev_gf2 rfl rfl HH_draft rfl ?_ | refine ev_gf2 rfl rfl (by with_reducible assumption) rfl ?_)
      rw [← mapP_n (F := tlF x) (f := f) (n := i) (by unfold tlF; rw [hb]; rfl)] at h3
      exact h3
theorem e_tallyC (x : Int64) (f : Nat → Int32) : Ev sc (d + 1) m_C_tallyCells 0 (iniL 4 [.ref 0, .long x]) [] (HH w s l (upA A 25 f) B) none (HH w s l (upA A 25 (mapP (tlF x) f 49)) B) := by
  repeat (first | refine ev_gos 99 rfl ?_ | refine ev_gf2 rfl rfl rfl rfl ?_ | refine ev_gf2 rfl rfl HH_land rfl ?_ | refine ev_gf2 rfl rfl HH_draft rfl ?_ | refine ev_gf2 rfl rfl (by with_reducible assumption) rfl ?_)
  have h3 := e_tallyC_loop (sc := sc) (d := d) (w := w) (s := s) (l := l) (A := A) (B := B) x f 49 0 rfl
  rw [mapP_0] at h3
  exact h3
theorem e_tally_in (hN : CN s l A B W H P) {m : Nat} (hF : FD s A (W * H) m) {k : Nat} (hk : k < 5) (g f : Nat → Int32) {h' : AHp} (hout : Ev sc (d + 3) m_C_tallyFits 12 [some (.ref 0), some (.int (nI (k + 1))), none] [.int 5, .int (nI (k + 1))] (HH w s l (upA A 25 (tlK (B 5) (fitB (B 5) (A 22) (A 23) m) (W * H) k f)) B) none h') : ∀ (n i : Nat), i + n = W * H → Ev sc (d + 3) m_C_tallyFits 22 [some (.ref 0), some (.int (nI k)), some (.int (nI i))] [.ref (wL w), .int (nI i)] (HH w s l (upA A 25 (fo (tlC (B 5) (fitB (B 5) (A 22) (A 23) m) k) i f)) B) none h' := by
  have h49 := hN.n49
  intro n
  induction n with
  | zero =>
    intro i hi
    have e : i = W * H := by omega
    subst e
    refine ev_cv rfl rfl HH_land (e_cells HH_land) ?_
    rw [hN.cells]
    refine ev_ift rfl rfl rfl (c_ge ((nI_leI (by omega) (by omega)).mpr (by omega))) ?_
    repeat (first | refine ev_gos 99 rfl ?_ | refine ev_gf2 rfl rfl rfl rfl ?_ | refine ev_gf2 rfl rfl HH_land rfl ?_ | refine ev_gf2 rfl rfl HH_draft rfl ?_ | refine ev_gf2 rfl rfl (by with_reducible assumption) rfl ?_)
    have h3 := hout
    rw [← nI_1] at h3
    exact ev_wk2 h3 rfl (by repeat' (first | exact trivial | refine ⟨rfl, ?_⟩))
  | succ n ih =>
    intro i hi
    refine ev_cv rfl rfl HH_land (e_cells HH_land) ?_
    rw [hN.cells]
    refine ev_iff rfl rfl rfl (d_ge (nI_lt3 (by omega) (by omega) (by omega))) ?_
    repeat (first | refine ev_gos 99 rfl ?_ | refine ev_gf2 rfl rfl rfl rfl ?_ | refine ev_gf2 rfl rfl HH_land rfl ?_ | refine ev_gf2 rfl rfl HH_draft rfl ?_ | refine ev_gf2 rfl rfl (by with_reducible assumption) rfl ?_)
    refine ev_cv rfl rfl rfl (e_fitsFound (N := W * H) (m := m) (A := upA A 25 (fo (tlC (B 5) (fitB (B 5) (A 22) (A 23) m) k) i f)) h49 hF hk (c := i) (by omega)) ?_
    refine (?_ : Ek sc (d + 3) m_C_tallyFits 34 _ [.int (b01 (fitB (B 5) (A 22) (A 23) m k i))] _ _ _ _ _)
    have h3 := ih (i + 1) (by omega)
    have hst : fo (tlC (B 5) (fitB (B 5) (A 22) (A 23) m) k) (i + 1) f = tlC (B 5) (fitB (B 5) (A 22) (A 23) m) k i (fo (tlC (B 5) (fitB (B 5) (A 22) (A 23) m) k) i f) := rfl
    rw [← nI_1, hst] at h3
    unfold tlC at h3
    cases hb : fitB (B 5) (A 22) (A 23) m k i with
    | false =>
      rw [hb] at h3
      refine ev_ift rfl rfl rfl rfl ?_
      repeat (first | refine ev_gos 99 rfl ?_ | refine ev_gf2 rfl rfl rfl rfl ?_ | refine ev_gf2 rfl rfl HH_land rfl ?_ | refine ev_gf2 rfl rfl HH_draft rfl ?_ | refine ev_gf2 rfl rfl (by with_reducible assumption) rfl ?_)
      exact h3
    | true =>
      rw [hb] at h3
      refine ev_iff rfl rfl rfl rfl ?_
      repeat (first | refine ev_gos 99 rfl ?_ | refine ev_gf2 rfl rfl rfl rfl ?_ | refine ev_gf2 rfl rfl HH_land rfl ?_ | refine ev_gf2 rfl rfl HH_draft rfl ?_ | refine ev_gf2 rfl rfl (by with_reducible assumption) rfl ?_)
      refine ev_cv rfl rfl HH_land (e_shape HH_land HH_shapes hk (by omega)) ?_
      refine ev_cv rfl rfl rfl (e_tallyC _ _) ?_
      repeat (first | refine ev_gos 99 rfl ?_ | refine ev_gf2 rfl rfl rfl rfl ?_ | refine ev_gf2 rfl rfl HH_land rfl ?_ | refine ev_gf2 rfl rfl HH_draft rfl ?_ | refine ev_gf2 rfl rfl (by with_reducible assumption) rfl ?_)
      exact h3
theorem e_tally_out (hN : CN s l A B W H P) {m : Nat} (hF : FD s A (W * H) m) (f : Nat → Int32) : ∀ (n k : Nat), k + n = 5 → Ev sc (d + 3) m_C_tallyFits 12 [some (.ref 0), some (.int (nI k)), none] [.int 5, .int (nI k)] (HH w s l (upA A 25 (fo (tlK (B 5) (fitB (B 5) (A 22) (A 23) m) (W * H)) k f)) B) none (HH w s l (upA A 25 (fo (tlK (B 5) (fitB (B 5) (A 22) (A 23) m) (W * H)) 5 f)) B) := by
  intro n
  induction n with
  | zero =>
    intro k hk
    have e : k = 5 := by omega
    subst e
    refine ev_ift rfl rfl rfl (c_ge (by decide : (5 : Int32) ≤ nI 5)) ?_
    exact ev_rv rfl rfl
  | succ n ih =>
    intro k hk
    refine ev_iff rfl rfl rfl (d_ge (nI_lt3 (b := 5) (by omega) (by omega) (by omega))) ?_
    repeat (first | refine ev_gos 99 rfl ?_ | refine ev_gf2 rfl rfl rfl rfl ?_ | refine ev_gf2 rfl rfl HH_land rfl ?_ | refine ev_gf2 rfl rfl HH_draft rfl ?_ | refine ev_gf2 rfl rfl (by with_reducible assumption) rfl ?_)
    exact e_tally_in hN hF (k := k) (by omega) f (fo (tlK (B 5) (fitB (B 5) (A 22) (A 23) m) (W * H)) k f) (ih (k + 1) (by omega)) (W * H) 0 (Nat.zero_add _)
theorem e_tally (hN : CN s l A B W H P) {m : Nat} (hF : FD s A (W * H) m) : Ev sc (d + 3) m_C_tallyFits 0 (iniL 3 [.ref 0]) [] (HH w s l A B) none (HH w s l (upA A 25 (fo (tlK (B 5) (fitB (B 5) (A 22) (A 23) m) (W * H)) 5 (mapP (fun _ _ => 0) (A 25) 49))) B) := by
  repeat (first | refine ev_gos 99 rfl ?_ | refine ev_gf2 rfl rfl rfl rfl ?_ | refine ev_gf2 rfl rfl HH_land rfl ?_ | refine ev_gf2 rfl rfl HH_draft rfl ?_ | refine ev_gf2 rfl rfl (by with_reducible assumption) rfl ?_)
  refine ev_cs rfl rfl rfl (e_fill (h := HH w s l A B) (q := 25) (m := 49) (f := A 25) rfl (by decide) 0) ?_
  rw [HA_25]
  repeat (first | refine ev_gos 99 rfl ?_ | refine ev_gf2 rfl rfl rfl rfl ?_ | refine ev_gf2 rfl rfl HH_land rfl ?_ | refine ev_gf2 rfl rfl HH_draft rfl ?_ | refine ev_gf2 rfl rfl (by with_reducible assumption) rfl ?_)
  exact e_tally_out hN hF _ 5 0 rfl
theorem e_ten_loop (h : AHp) {p : Nat} (hp : p ≤ 5) : ∀ (n i : Nat), i + n = p → Ev sc d m_C_tenToThe 6 [some (.int (nI p)), some (.long (lN (10 ^ i))), none, some (.int (nI i))] [.int (nI p), .int (nI i)] h (some (.long (lN (10 ^ p)))) h := by
  intro n
  induction n with
  | zero =>
    intro i hi
    have e : i = p := by omega
    subst e
    refine ev_ift rfl rfl rfl (c_ge ((nI_leI (by omega) (by omega)).mpr (by omega))) ?_
    repeat (first | refine ev_gos 99 rfl ?_ | refine ev_gf2 rfl rfl rfl rfl ?_ | refine ev_gf2 rfl rfl HH_land rfl ?_ | refine ev_gf2 rfl rfl HH_draft rfl ?_ | refine ev_gf2 rfl rfl (by with_reducible assumption) rfl ?_)
    exact ev_rl rfl rfl rfl
  | succ n ih =>
    intro i hi
    refine ev_iff rfl rfl rfl (d_ge (nI_lt3 (by omega) (by omega) (by omega))) ?_
    repeat (first | refine ev_gos 99 rfl ?_ | refine ev_gf2 rfl rfl rfl rfl ?_ | refine ev_gf2 rfl rfl HH_land rfl ?_ | refine ev_gf2 rfl rfl HH_draft rfl ?_ | refine ev_gf2 rfl rfl (by with_reducible assumption) rfl ?_)
    have h3 := ih (i + 1) (by omega)
    rw [← nI_1, Nat.pow_succ, ← lN_mul] at h3
    exact h3
theorem e_ten (h : AHp) {p : Nat} (hp : p ≤ 5) : Ev sc d m_C_tenToThe 0 (iniL 4 [.int (nI p)]) [] h (some (.long (lN (10 ^ p)))) h := by
  repeat (first | refine ev_gos 99 rfl ?_ | refine ev_gf2 rfl rfl rfl rfl ?_ | refine ev_gf2 rfl rfl HH_land rfl ?_ | refine ev_gf2 rfl rfl HH_draft rfl ?_ | refine ev_gf2 rfl rfl (by with_reducible assumption) rfl ?_)
  exact e_ten_loop h hp p 0 (Nat.zero_add p)
end FIT
end
section
/-! the class: the shortest round -/
def mnO (b : Option Nat) (v : Nat) : Option Nat := match b with
  | none => some v
  | some u => some (if v < u then v else u)
/-- the least of all rounds from a over the people of t: their steps times K and their order -/
def srG (dst : Nat → Nat → Nat) (pl : Nat → Nat) (K : Nat) (m : Nat) (sub : Nat → Nat → Option Nat) (a t : Nat) (p : Nat) (b : Option Nat) : Option Nat :=
  bif Nat.testBit t p then mnO b (dst a (pl p) * K + (p + 1) * 10 ^ m + (sub (pl p) (t - 2 ^ p)).getD 0) else b
def srN (dst : Nat → Nat → Nat) (pl : Nat → Nat) (K P : Nat) : Nat → Nat → Nat → Option Nat
  | 0, _, _ => some 0
  | m + 1, a, t => fo (srG dst pl K m (srN dst pl K P m) a t) P none
def encO (b : Option Nat) : Int64 := match b with
  | none => -1
  | some v => lN v
theorem srG_le {dst : Nat → Nat → Nat} {pl : Nat → Nat} {K m E Q R : Nat} {sub : Nat → Nat → Option Nat} {a t : Nat} (hd : ∀ p, dst a (pl p) * K ≤ E) (hs : ∀ p, (sub (pl p) (t - 2 ^ p)).getD 0 ≤ R) (h4 : ∀ p, p < 7 → (p + 1) * 10 ^ m ≤ Q) : ∀ n, n ≤ 7 → (fo (srG dst pl K m sub a t) n none).getD 0 ≤ E + Q + R := by
  intro n
  induction n with
  | zero => intro _; exact Nat.zero_le _
  | succ n ihn =>
    intro hn
    have h1 := ihn (by omega)
    show (srG dst pl K m sub a t n _).getD 0 ≤ _
    generalize fo (srG dst pl K m sub a t) n none = b at h1 ⊢
    have h5 : dst a (pl n) * K + (n + 1) * 10 ^ m + (sub (pl n) (t - 2 ^ n)).getD 0 ≤ E + Q + R := Nat.add_le_add (Nat.add_le_add (hd n) (h4 n (by omega))) (hs n)
    unfold srG
    generalize dst a (pl n) * K + (n + 1) * 10 ^ m + (sub (pl n) (t - 2 ^ n)).getD 0 = v at h5 ⊢
    cases Nat.testBit t n with
    | false => exact h1
    | true =>
      cases b with
      | none => exact h5
      | some u =>
        show (if v < u then v else u) ≤ _
        split
        · exact h5
        · exact h1
theorem srN_le {dst : Nat → Nat → Nat} {pl : Nat → Nat} {K P E Q : Nat} (hpl : ∀ p, pl p < 49) (hd : ∀ a p, a < 49 → dst a (pl p) * K ≤ E) (hP : P ≤ 7) (hQ : ∀ m p, m < 5 → p < 7 → (p + 1) * 10 ^ m ≤ Q) : ∀ (m a t : Nat), m ≤ 5 → a < 49 → (srN dst pl K P m a t).getD 0 ≤ m * (E + Q) := by
  intro m
  induction m with
  | zero => intro a t _ _; exact Nat.zero_le _
  | succ m ih =>
    intro a t hm ha
    have h := srG_le (dst := dst) (pl := pl) (K := K) (m := m) (E := E) (Q := Q) (R := m * (E + Q)) (sub := srN dst pl K P m) (a := a) (t := t) (fun p => hd a p ha) (fun p => ih _ _ (by omega) (hpl p)) (fun p hp => hQ m p (by omega) hp) P hP
    have e : (m + 1) * (E + Q) = E + Q + m * (E + Q) := by rw [Nat.succ_mul, Nat.add_comm]
    rw [e]
    exact h
theorem absd_le {a b m : Nat} (ha : a ≤ m) (hb : b ≤ m) : absd a b ≤ m := by
  unfold absd
  split <;> omega
theorem dist_le (W : Nat) {a b : Nat} (ha : a < 49) (hb : b < 49) : dist W a b ≤ 96 := by
  have h1 := absd_le (m := 48) (Nat.le_trans (Nat.mod_le a W) (by omega)) (Nat.le_trans (Nat.mod_le b W) (by omega))
  have h2 := absd_le (m := 48) (Nat.le_trans (Nat.div_le_self a W) (by omega)) (Nat.le_trans (Nat.div_le_self b W) (by omega))
  unfold dist
  omega
theorem srG_some {dst : Nat → Nat → Nat} {pl : Nat → Nat} {K m : Nat} {sub : Nat → Nat → Option Nat} {a t p : Nat} (ht : Nat.testBit t p = true) : ∀ n, p < n → ∃ v, fo (srG dst pl K m sub a t) n none = some v := by
  intro n
  induction n with
  | zero => intro h; omega
  | succ n ih =>
    intro h
    show ∃ v, srG dst pl K m sub a t n (fo (srG dst pl K m sub a t) n none) = some v
    by_cases e : p = n
    · subst e
      generalize fo (srG dst pl K m sub a t) p none = b
      unfold srG
      rw [ht]
      cases b with
      | none => exact ⟨_, rfl⟩
      | some u => exact ⟨_, rfl⟩
    · obtain ⟨v, hv⟩ := ih (by omega)
      rw [hv]
      unfold srG
      cases Nat.testBit t n with
      | true => exact ⟨_, rfl⟩
      | false => exact ⟨_, rfl⟩
theorem cn_ne {t : Nat} : ∀ {P : Nat}, 0 < cntB (Nat.testBit t) P → ∃ p, p < P ∧ Nat.testBit t p = true
  | 0, h => absurd h (Nat.lt_irrefl 0)
  | n + 1, h => by
    cases hb : Nat.testBit t n with
    | true => exact ⟨n, by omega, hb⟩
    | false =>
      have h2 : 0 < cntB (Nat.testBit t) n := by
        have : cntB (Nat.testBit t) (n + 1) = cntB (Nat.testBit t) n + (bif Nat.testBit t n then 1 else 0) := rfl
        rw [this, hb] at h
        exact h
      obtain ⟨p, p1, p2⟩ := cn_ne h2
      exact ⟨p, by omega, p2⟩
theorem cn_drop : ∀ t, t < 128 → ∀ p, p < 7 → Nat.testBit t p = true → ∀ P, P < 8 → p < P → cntB (Nat.testBit (t - 2 ^ p)) P + 1 = cntB (Nat.testBit t) P := by decide +kernel
theorem tb_drop : ∀ t, t < 128 → ∀ p, p < 7 → Nat.testBit t p = true → ∀ q, q < 7 → Nat.testBit (t - 2 ^ p) q = true → Nat.testBit t q = true := by decide +kernel
theorem set_drop : ∀ t, t < 128 → ∀ p, p < 7 → Nat.testBit t p = true → nI t &&& (((1 : Int32) <<< (nI p &&& 31)) ^^^ (-1)) = nI (t - 2 ^ p) := by decide +kernel
theorem set_bit : ∀ t, t < 128 → ∀ p, p < 7 → ((nI t >>> (nI p &&& 31)) &&& 1) = b01 (Nat.testBit t p) := by decide +kernel
theorem m1_ne {v : Nat} (h : v < 2 ^ 31) : ¬ lN v = -1 := by
  intro z
  rw [fa_eq64, lN_toInt h] at z
  have : (-1 : Int64).toInt = -1 := by decide
  omega
theorem e_bitCountI (sc : Scr) (d : Nat) (h : AHp) : ∀ t, t < 128 → Ev sc d m_JI_bitCount 0 (iniL 1 [.int (nI t)]) [] h (some (.int (nI (cntB (Nat.testBit t) 7)))) h := by
  intro t ht
  refine ev_gos 99 rfl ?_
  refine ev_ri rfl ?_ rfl
  revert t
  decide +kernel
section RND
variable {sc : Scr} {d : Nat} {w : Bool} {s : Nat → Int32} {l : Nat → Int64} {A : Nat → Nat → Int32} {B : Nat → Nat → Int64} {W H P : Nat}
def plA (A : Nat → Nat → Int32) (p : Nat) : Nat := (A 11 p).toNatClampNeg % 49
theorem e_round_loop (hN : CN s l A B W H P) (hW1 : 1 ≤ W) (hA : LF (A 11) (W * H)) {K m a t : Nat} (hK : K = 1000000) (hm : m ≤ 4) (ha : a < 49) (ht : t < 128) (hc : cntB (Nat.testBit t) P = m + 1) (hal : ∀ p, p < P → Nat.testBit t p = true → ¬ A 11 p = -1) (hle : ∀ a t n, a < 49 → n ≤ 7 → (fo (srG (dist W) (plA A) K m (srN (dist W) (plA A) K P m) a t) n none).getD 0 < 2 ^ 31) (hve : ∀ q p t', q < 49 → p < 7 → dist W a q * K + (p + 1) * 10 ^ m + (srN (dist W) (plA A) K P m q t').getD 0 < 2 ^ 31) (ih0 : ∀ a' t', a' < 49 → t' < 128 → cntB (Nat.testBit t') P = m → (∀ p, p < P → Nat.testBit t' p = true → ¬ A 11 p = -1) → Ev sc (d + m + 1) m_C_shortestRound 0 (iniL 15 [.ref 0, .int (nI a'), .int (nI t'), .int (nI m)]) [] (HH w s l A B) (some (.long (lN ((srN (dist W) (plA A) K P m a' t').getD 0)))) (HH w s l A B)) : ∀ (n i : Nat), i + n = P → Ev sc (d + m + 2) m_C_shortestRound 37 [some (.ref 0), some (.int (nI a)), some (.int (nI t)), some (.int (nI (m + 1))), some (.long (lN (10 ^ m))), none, some (.long (encO (fo (srG (dist W) (plA A) K m (srN (dist W) (plA A) K P m) a t) i none))), none, some (.int (nI i)), none, none, none, none, none, none] [.int (s 17), .int (nI i)] (HH w s l A B) (some (.long (encO (srN (dist W) (plA A) K P (m + 1) a t)))) (HH w s l A B) := by
  have h49 := hN.n49
  have hP7 : P ≤ 7 := hN.2.2.2.2.2.1
  have hW7 : W ≤ 7 := hN.2.2.2.1
  intro n
  induction n with
  | zero =>
    intro i hi
    have e : i = P := by omega
    subst e
    refine ev_ift rfl rfl rfl (c_ge (by rw [hN.2.2.1]; exact (nI_leI (by omega) (by omega)).mpr (by omega))) ?_
    repeat (first | refine ev_gos 99 rfl ?_ | refine ev_gf2 rfl rfl rfl rfl ?_ | refine ev_gf2 rfl rfl HH_land rfl ?_ | refine ev_gf2 rfl rfl HH_draft rfl ?_ | refine ev_gf2 rfl rfl (by with_reducible assumption) rfl ?_)
    exact ev_rl rfl rfl rfl
  | succ n ih =>
    intro i hi
    refine ev_iff rfl rfl rfl (d_ge (by rw [hN.2.2.1]; exact nI_lt3 (by omega) (by omega) (by omega))) ?_
    repeat (first | refine ev_gos 99 rfl ?_ | refine ev_gf2 rfl rfl rfl rfl ?_ | refine ev_gf2 rfl rfl HH_land rfl ?_ | refine ev_gf2 rfl rfl HH_draft rfl ?_ | refine ev_gf2 rfl rfl (by with_reducible assumption) rfl ?_)
    have h3 := ih (i + 1) (by omega)
    rw [← nI_1 i] at h3
    have hst : fo (srG (dist W) (plA A) K m (srN (dist W) (plA A) K P m) a t) (i + 1) none = srG (dist W) (plA A) K m (srN (dist W) (plA A) K P m) a t i (fo (srG (dist W) (plA A) K m (srN (dist W) (plA A) K P m) a t) i none) := rfl
    have hb1 := hle a t i ha (by omega)
    rw [hst] at h3
    generalize fo (srG (dist W) (plA A) K m (srN (dist W) (plA A) K P m) a t) i none = b at h3 hb1 ⊢
    unfold srG at h3
    cases hb : Nat.testBit t i with
    | false =>
      rw [hb] at h3
      refine ev_ift rfl rfl rfl (i_eq (by show ((nI t >>> (nI i &&& 31)) &&& 1) = 0; rw [set_bit t ht i (by omega), hb]; rfl)) ?_
      repeat (first | refine ev_gos 99 rfl ?_ | refine ev_gf2 rfl rfl rfl rfl ?_ | refine ev_gf2 rfl rfl HH_land rfl ?_ | refine ev_gf2 rfl rfl HH_draft rfl ?_ | refine ev_gf2 rfl rfl (by with_reducible assumption) rfl ?_)
      exact ev_wk2 h3 rfl (by repeat' (first | exact trivial | refine ⟨rfl, ?_⟩))
    | true =>
      rw [hb] at h3
      refine ev_iff rfl rfl rfl (j_eq (by show ¬ ((nI t >>> (nI i &&& 31)) &&& 1) = 0; rw [set_bit t ht i (by omega), hb]; decide)) ?_
      repeat (first | refine ev_gos 99 rfl ?_ | refine ev_gf2 rfl rfl rfl rfl ?_ | refine ev_gf2 rfl rfl HH_land rfl ?_ | refine ev_gf2 rfl rfl HH_draft rfl ?_ | refine ev_gf2 rfl rfl (by with_reducible assumption) rfl ?_)
      (refine ev_ia rfl rfl (inI (by omega) (by decide)) ?_; rw [nI_clamp (by omega)])
      rcases hA i (by omega) with e | ⟨q, q1, q2⟩
      · exact absurd e (hal i (by omega) hb)
      have hpl : plA A i = q := by unfold plA; rw [q2, nI_clamp (by omega), Nat.mod_eq_of_lt (by omega)]
      rw [hpl] at h3
      rw [q2]
      refine ev_cv rfl rfl HH_land (e_steps HH_land hN.1 hW1 hW7 ha (by omega)) ?_
      repeat (first | refine ev_gos 99 rfl ?_ | refine ev_gf2 rfl rfl rfl rfl ?_ | refine ev_gf2 rfl rfl HH_land rfl ?_ | refine ev_gf2 rfl rfl HH_draft rfl ?_ | refine ev_gf2 rfl rfl (by with_reducible assumption) rfl ?_)
      (refine ev_ia rfl rfl (inI (by omega) (by decide)) ?_; rw [nI_clamp (by omega)])
      rw [q2]
      repeat (first | refine ev_gos 99 rfl ?_ | refine ev_gf2 rfl rfl rfl rfl ?_ | refine ev_gf2 rfl rfl HH_land rfl ?_ | refine ev_gf2 rfl rfl HH_draft rfl ?_ | refine ev_gf2 rfl rfl (by with_reducible assumption) rfl ?_)
      have hdr := set_drop t ht i (by omega) hb
      have hcd := cn_drop t ht i (by omega) hb P (by omega) (by omega)
      have h7 := ih0 q (t - 2 ^ i) (by omega) (Nat.lt_of_le_of_lt (Nat.sub_le _ _) ht) (by omega) (fun p hp hp2 => hal p hp (tb_drop t ht i (by omega) hb p (by omega) hp2))
      refine ev_cv rfl rfl rfl (by
        rw [← hdr] at h7
        have e := nI_pred m
        rw [← e] at h7
        exact h7) ?_
      repeat (first | refine ev_gos 99 rfl ?_ | refine ev_gf2 rfl rfl rfl rfl ?_ | refine ev_gf2 rfl rfl HH_land rfl ?_ | refine ev_gf2 rfl rfl HH_draft rfl ?_ | refine ev_gf2 rfl rfl (by with_reducible assumption) rfl ?_)
      have hv := hve q i (t - 2 ^ i) (by omega) (by omega)
      have ev : (nI (dist W a q)).toInt64 * 1000000 + (nI i + 1).toInt64 * lN (10 ^ m) + lN ((srN (dist W) (plA A) K P m q (t - 2 ^ i)).getD 0) = lN (dist W a q * K + (i + 1) * 10 ^ m + (srN (dist W) (plA A) K P m q (t - 2 ^ i)).getD 0) := by
        have hd := dist_le W ha (show q < 49 by omega)
        rw [nI_1, nI_l (by omega), nI_l (by omega), show (1000000 : Int64) = lN K by rw [hK]; rfl, lN_mul, lN_mul, lN_add, lN_add]
      dsimp only [cond_true] at h3
      generalize dist W a q * K + (i + 1) * 10 ^ m + (srN (dist W) (plA A) K P m q (t - 2 ^ i)).getD 0 = v at h3 hv ev
      cases b with
      | none =>
        refine ev_iff rfl rfl rfl (j_ne (lc_eq.mpr rfl)) ?_
        repeat (first | refine ev_gos 99 rfl ?_ | refine ev_gf2 rfl rfl rfl rfl ?_ | refine ev_gf2 rfl rfl HH_land rfl ?_ | refine ev_gf2 rfl rfl HH_draft rfl ?_ | refine ev_gf2 rfl rfl (by with_reducible assumption) rfl ?_)
        rw [show encO (mnO none v) = lN v from rfl, ← ev] at h3
        exact ev_wk2 h3 rfl (by repeat' (first | exact trivial | refine ⟨rfl, ?_⟩))
      | some u =>
        refine ev_ift rfl rfl rfl (i_ne (fun z => m1_ne hb1 (lc_eq.mp z))) ?_
        repeat (first | refine ev_gos 99 rfl ?_ | refine ev_gf2 rfl rfl rfl rfl ?_ | refine ev_gf2 rfl rfl HH_land rfl ?_ | refine ev_gf2 rfl rfl HH_draft rfl ?_ | refine ev_gf2 rfl rfl (by with_reducible assumption) rfl ?_)
        refine ev_hw rfl rfl rfl ?_
        repeat (first | refine ev_gos 99 rfl ?_ | refine ev_gf2 rfl rfl rfl rfl ?_ | refine ev_gf2 rfl rfl HH_land rfl ?_ | refine ev_gf2 rfl rfl HH_draft rfl ?_ | refine ev_gf2 rfl rfl (by with_reducible assumption) rfl ?_)
        have hb1 : u < 2 ^ 31 := hb1
        have e2 : encO (mnO (some u) v) = if lN v < lN u then lN v else lN u := by
          show lN (if v < u then v else u) = _
          by_cases hq : v < u
          · rw [if_pos hq, if_pos ((lN_lt hv hb1).mpr hq)]
          · rw [if_neg hq, if_neg (fun z => hq ((lN_lt hv hb1).mp z))]
        rw [e2, ← ev] at h3
        exact ev_wk2 h3 rfl (by repeat' (first | exact trivial | refine ⟨rfl, ?_⟩))
theorem e_round (hN : CN s l A B W H P) (hW1 : 1 ≤ W) (hA : LF (A 11) (W * H)) {K : Nat} (hK : K = 1000000) : ∀ (m a t : Nat), m ≤ 5 → a < 49 → t < 128 → cntB (Nat.testBit t) P = m → (∀ p, p < P → Nat.testBit t p = true → ¬ A 11 p = -1) → Ev sc (d + m + 1) m_C_shortestRound 0 (iniL 15 [.ref 0, .int (nI a), .int (nI t), .int (nI m)]) [] (HH w s l A B) (some (.long (lN ((srN (dist W) (plA A) K P m a t).getD 0)))) (HH w s l A B) := by
  have hP7 : P ≤ 7 := hN.2.2.2.2.2.1
  have hpl : ∀ p, plA A p < 49 := fun p => Nat.mod_lt _ (by decide)
  intro m
  induction m with
  | zero =>
    intro a t _ ha ht hc hal
    repeat (first | refine ev_gos 99 rfl ?_ | refine ev_gf2 rfl rfl rfl rfl ?_ | refine ev_gf2 rfl rfl HH_land rfl ?_ | refine ev_gf2 rfl rfl HH_draft rfl ?_ | refine ev_gf2 rfl rfl (by with_reducible assumption) rfl ?_)
    refine ev_ift rfl rfl rfl (c_lt (by decide)) ?_
    repeat (first | refine ev_gos 99 rfl ?_ | refine ev_gf2 rfl rfl rfl rfl ?_ | refine ev_gf2 rfl rfl HH_land rfl ?_ | refine ev_gf2 rfl rfl HH_draft rfl ?_ | refine ev_gf2 rfl rfl (by with_reducible assumption) rfl ?_)
    exact ev_rl rfl rfl rfl
  | succ m ih =>
    intro a t hm ha ht hc hal
    have hQ : ∀ m p, m < 5 → p < 7 → (p + 1) * 10 ^ m ≤ 70000 := fun m p hm hp => Nat.le_trans (Nat.mul_le_mul (show p + 1 ≤ 7 by omega) (Nat.pow_le_pow_right (by decide) (show m ≤ 4 by omega))) (by decide)
    have hE : ∀ a q, a < 49 → q < 49 → dist W a q * K ≤ 96 * K := fun a q ha hq => Nat.mul_le_mul_right K (dist_le W ha hq)
    have hR : ∀ a t, a < 49 → (srN (dist W) (plA A) K P m a t).getD 0 ≤ m * (96 * K + 70000) := fun a t ha => srN_le hpl (fun a p ha => hE a _ ha (hpl p)) hP7 hQ m a t (by omega) ha
    have hKb : 96 * K + 70000 + m * (96 * K + 70000) < 2 ^ 31 := by
      have : m * (96 * K + 70000) ≤ 4 * (96 * K + 70000) := Nat.mul_le_mul_right _ (by omega)
      subst hK
      omega
    repeat (first | refine ev_gos 99 rfl ?_ | refine ev_gf2 rfl rfl rfl rfl ?_ | refine ev_gf2 rfl rfl HH_land rfl ?_ | refine ev_gf2 rfl rfl HH_draft rfl ?_ | refine ev_gf2 rfl rfl (by with_reducible assumption) rfl ?_)
    refine ev_iff rfl rfl rfl (d_lt (by rw [show (1 : Int32) = nI 1 from rfl]; exact nI_nlt (by omega) (by omega))) ?_
    repeat (first | refine ev_gos 99 rfl ?_ | refine ev_gf2 rfl rfl rfl rfl ?_ | refine ev_gf2 rfl rfl HH_land rfl ?_ | refine ev_gf2 rfl rfl HH_draft rfl ?_ | refine ev_gf2 rfl rfl (by with_reducible assumption) rfl ?_)
    refine ev_ift rfl rfl rfl (c_le (by rw [show (5 : Int32) = nI 5 from rfl]; exact (nI_leI (by omega) (by omega)).mpr (by omega))) ?_
    repeat (first | refine ev_gos 99 rfl ?_ | refine ev_gf2 rfl rfl rfl rfl ?_ | refine ev_gf2 rfl rfl HH_land rfl ?_ | refine ev_gf2 rfl rfl HH_draft rfl ?_ | refine ev_gf2 rfl rfl (by with_reducible assumption) rfl ?_)
    refine ev_cs rfl rfl rfl (by
      have q := e_ten (sc := sc) (d := d + (m + 1)) (HH w s l A B) (p := m) (by omega)
      rw [← nI_pred m] at q
      exact q) ?_
    repeat (first | refine ev_gos 99 rfl ?_ | refine ev_gf2 rfl rfl rfl rfl ?_ | refine ev_gf2 rfl rfl HH_land rfl ?_ | refine ev_gf2 rfl rfl HH_draft rfl ?_ | refine ev_gf2 rfl rfl (by with_reducible assumption) rfl ?_)
    have h5 := e_round_loop (sc := sc) (d := d) (w := w) (K := K) (m := m) (a := a) (t := t) hN hW1 hA hK (by omega) ha ht hc hal (fun a t n ha hn => by
      have := srG_le (dst := dist W) (pl := plA A) (K := K) (m := m) (sub := srN (dist W) (plA A) K P m) (a := a) (t := t) (E := 96 * K) (Q := 70000) (R := m * (96 * K + 70000)) (fun p => hE a _ ha (hpl p)) (fun p => hR _ _ (hpl p)) (fun p hp => hQ m p (by omega) hp) n hn
      omega) (fun q p t' hq hp => by
      have h1 := hE a q ha hq
      have h2 := hQ m p (by omega) hp
      have h3 := hR q t' hq
      omega) (fun a' t' => ih a' t' (by omega)) P 0 (Nat.zero_add P)
    obtain ⟨p, p1, p2⟩ := cn_ne (t := t) (P := P) (by omega)
    obtain ⟨v, hv⟩ := srG_some (dst := dist W) (pl := plA A) (K := K) (m := m) (sub := srN (dist W) (plA A) K P m) (a := a) p2 P p1
    have e : srN (dist W) (plA A) K P (m + 1) a t = some v := hv
    rw [e] at h5 ⊢
    exact ev_wk2 h5 rfl (by repeat' (first | exact trivial | refine ⟨rfl, ?_⟩))
end RND
end
section
/-! the reader: its state, and reading on -/
abbrev RS : Type := (Nat → Int32) × (Nat → Int64) × (Nat → Int32) × (Nat → Int64)
/-- ints of the reader and of the draft: fault 1, its place 2, place 3, place of the number 4, wind told 5; across 19, down 20, people 21, wind 22 -/
def isR (q : Nat) : Bool := (Nat.ble 1 q && Nat.ble q 5) || (Nat.ble 19 q && Nat.ble q 22)
def isRl (q : Nat) : Bool := Nat.ble 4 q && Nat.ble q 7
def rsS (s : Nat → Int32) (r : RS) : Nat → Int32 := fun q => bif isR q then r.1 q else s q
def rsL (l : Nat → Int64) (r : RS) : Nat → Int64 := fun q => bif isRl q then r.2.1 q else l q
def sR (r : RS) (p : Nat) (x : Int32) : RS := (upA r.1 p x, r.2)
def sRl (r : RS) (p : Nat) (x : Int64) : RS := (r.1, upA r.2.1 p x, r.2.2)
def sRk (r : RS) (f : Nat → Int32) : RS := (r.1, r.2.1, f, r.2.2.2)
def sRb (r : RS) (f : Nat → Int64) : RS := (r.1, r.2.1, r.2.2.1, f)
abbrev DR (w : Bool) (s : Nat → Int32) (l : Nat → Int64) (A : Nat → Nat → Int32) (B : Nat → Nat → Int64) (r : RS) : AHp := HH w (rsS s r) (rsL l r) (upA A 7 r.2.2.1) (upA B 8 r.2.2.2)
theorem bq_f {q p : Nat} (h : ¬ q = p) : Nat.beq q p = false := by
  cases hb : Nat.beq q p with
  | false => rfl
  | true => exact absurd (Nat.eq_of_beq_eq_true hb) h
theorem upA_ne {α : Type} (A : Nat → α) {p q : Nat} (f : α) (h : ¬ q = p) : upA A p f q = A q := by
  show (bif Nat.beq q p then f else A q) = A q
  rw [bq_f h]
  rfl
theorem rs_in (s : Nat → Int32) (r : RS) {p : Nat} (hp : isR p = true) (x : Int32) : upA (rsS s r) p x = rsS s (sR r p x) := by
  funext q
  by_cases h : q = p
  · subst h
    rw [upA_at]
    show x = bif isR q then upA r.1 q x q else s q
    rw [hp, upA_at]
    rfl
  · rw [upA_ne _ _ h]
    show rsS s r q = bif isR q then upA r.1 p x q else s q
    rw [upA_ne _ _ h]
    rfl
theorem rs_out (s : Nat → Int32) (r : RS) {p : Nat} (hp : isR p = false) (x : Int32) : upA (rsS s r) p x = rsS (upA s p x) r := by
  funext q
  by_cases h : q = p
  · subst h
    rw [upA_at]
    show x = bif isR q then r.1 q else upA s q x q
    rw [hp, upA_at]
    rfl
  · rw [upA_ne _ _ h]
    show rsS s r q = bif isR q then r.1 q else upA s p x q
    rw [upA_ne _ _ h]
    rfl
theorem rl_in (l : Nat → Int64) (r : RS) {p : Nat} (hp : isRl p = true) (x : Int64) : upA (rsL l r) p x = rsL l (sRl r p x) := by
  funext q
  by_cases h : q = p
  · subst h
    rw [upA_at]
    show x = bif isRl q then upA r.2.1 q x q else l q
    rw [hp, upA_at]
    rfl
  · rw [upA_ne _ _ h]
    show rsL l r q = bif isRl q then upA r.2.1 p x q else l q
    rw [upA_ne _ _ h]
    rfl
theorem sR_up (r : RS) (p : Nat) (x y : Int32) : sR (sR r p x) p y = sR r p y := by unfold sR; dsimp only; rw [upA_up]
theorem sR_id {r : RS} {p : Nat} {x : Int32} (h : r.1 p = x) : sR r p x = r := by unfold sR; rw [← h, upA_id]
theorem sR_comm (r : RS) {p q : Nat} (h : Nat.beq p q = false) (x y : Int32) : sR (sR r p x) q y = sR (sR r q y) p x := by unfold sR; dsimp only; rw [upA_comm _ h]
section DRR
variable {sc : Scr} {d M pc nx i : Nat} {v : Value} {L : Lcs} {S : Stk} {h' : AHp} {o : Option Value} {c n : Nat}
variable {w : Bool} {s : Nat → Int32} {l : Nat → Int64} {A : Nat → Nat → Int32} {B : Nat → Nat → Int64} {r : RS}
theorem pD_1 {x : Int32} (hc : cAt M pc = some (.putfield i, nx, 3, 2, v)) (k : Ek sc d M nx L S (DR w s l A B (sR r 1 x)) o h' c n) : Ek sc d M pc L (.int x :: .ref 1 :: S) (DR w s l A B r) o h' c n := by
  refine pf_R_1 hc ?_
  rw [rs_in s r rfl]
  exact k
theorem pD_2 {x : Int32} (hc : cAt M pc = some (.putfield i, nx, 3, 3, v)) (k : Ek sc d M nx L S (DR w s l A B (sR r 2 x)) o h' c n) : Ek sc d M pc L (.int x :: .ref 1 :: S) (DR w s l A B r) o h' c n := by
  refine pf_R_2 hc ?_
  rw [rs_in s r rfl]
  exact k
theorem pD_3 {x : Int32} (hc : cAt M pc = some (.putfield i, nx, 3, 4, v)) (k : Ek sc d M nx L S (DR w s l A B (sR r 3 x)) o h' c n) : Ek sc d M pc L (.int x :: .ref 1 :: S) (DR w s l A B r) o h' c n := by
  refine pf_R_3 hc ?_
  rw [rs_in s r rfl]
  exact k
theorem pD_4 {x : Int32} (hc : cAt M pc = some (.putfield i, nx, 3, 5, v)) (k : Ek sc d M nx L S (DR w s l A B (sR r 4 x)) o h' c n) : Ek sc d M pc L (.int x :: .ref 1 :: S) (DR w s l A B r) o h' c n := by
  refine pf_R_4 hc ?_
  rw [rs_in s r rfl]
  exact k
theorem pD_5 {x : Int32} (hx : x = 0 ∨ x = 1) (hc : cAt M pc = some (.putfield i, nx, 3, 6, v)) (k : Ek sc d M nx L S (DR w s l A B (sR r 5 x)) o h' c n) : Ek sc d M pc L (.int x :: .ref 1 :: S) (DR w s l A B r) o h' c n := by
  refine pf_R_5 hx hc ?_
  rw [rs_in s r rfl]
  exact k
theorem pD_19 {x : Int32} (hc : cAt M pc = some (.putfield i, nx, 1, 0, v)) (k : Ek sc d M nx L S (DR w s l A B (sR r 19 x)) o h' c n) : Ek sc d M pc L (.int x :: .ref (wL (!w)) :: S) (DR w s l A B r) o h' c n := by
  refine pf_D_19 hc ?_
  rw [rs_in s r rfl]
  exact k
theorem pD_20 {x : Int32} (hc : cAt M pc = some (.putfield i, nx, 1, 1, v)) (k : Ek sc d M nx L S (DR w s l A B (sR r 20 x)) o h' c n) : Ek sc d M pc L (.int x :: .ref (wL (!w)) :: S) (DR w s l A B r) o h' c n := by
  refine pf_D_20 hc ?_
  rw [rs_in s r rfl]
  exact k
theorem pD_21 {x : Int32} (hc : cAt M pc = some (.putfield i, nx, 1, 2, v)) (k : Ek sc d M nx L S (DR w s l A B (sR r 21 x)) o h' c n) : Ek sc d M pc L (.int x :: .ref (wL (!w)) :: S) (DR w s l A B r) o h' c n := by
  refine pf_D_21 hc ?_
  rw [rs_in s r rfl]
  exact k
theorem pD_22 {x : Int32} (hc : cAt M pc = some (.putfield i, nx, 1, 3, v)) (k : Ek sc d M nx L S (DR w s l A B (sR r 22 x)) o h' c n) : Ek sc d M pc L (.int x :: .ref (wL (!w)) :: S) (DR w s l A B r) o h' c n := by
  refine pf_D_22 hc ?_
  rw [rs_in s r rfl]
  exact k
theorem pDl_4 {x : Int64} (hc : cAt M pc = some (.putfield i, nx, 1, 4, v)) (k : Ek sc d M nx L S (DR w s l A B (sRl r 4 x)) o h' c n) : Ek sc d M pc L (.long x :: .ref (wL (!w)) :: S) (DR w s l A B r) o h' c n := by
  refine pf_D_l4 hc ?_
  rw [rl_in l r rfl]
  exact k
theorem pDl_5 {x : Int64} (hc : cAt M pc = some (.putfield i, nx, 1, 5, v)) (k : Ek sc d M nx L S (DR w s l A B (sRl r 5 x)) o h' c n) : Ek sc d M pc L (.long x :: .ref (wL (!w)) :: S) (DR w s l A B r) o h' c n := by
  refine pf_D_l5 hc ?_
  rw [rl_in l r rfl]
  exact k
theorem pDl_6 {x : Int64} (hc : cAt M pc = some (.putfield i, nx, 1, 6, v)) (k : Ek sc d M nx L S (DR w s l A B (sRl r 6 x)) o h' c n) : Ek sc d M pc L (.long x :: .ref (wL (!w)) :: S) (DR w s l A B r) o h' c n := by
  refine pf_D_l6 hc ?_
  rw [rl_in l r rfl]
  exact k
theorem pDl_7 {x : Int64} (hc : cAt M pc = some (.putfield i, nx, 1, 7, v)) (k : Ek sc d M nx L S (DR w s l A B (sRl r 7 x)) o h' c n) : Ek sc d M pc L (.long x :: .ref (wL (!w)) :: S) (DR w s l A B r) o h' c n := by
  refine pf_D_l7 hc ?_
  rw [rl_in l r rfl]
  exact k
theorem sD_k {j x : Int32} {a b : Nat} (hc : cAt M pc = some (.iastore, nx, a, b, v)) (hi : inB j 7 = true) (k : Ek sc d M nx L S (DR w s l A B (sRk r (upd r.2.2.1 j.toNatClampNeg x))) o h' c n) : Ek sc d M pc L (.int x :: .int j :: .ref (wK (!w)) :: S) (DR w s l A B r) o h' c n := by
  refine is_dk hc hi ?_
  rw [upA_up, upA_at]
  exact k
theorem sD_b {j : Int32} {x : Int64} {a b : Nat} (hc : cAt M pc = some (.lastore, nx, a, b, v)) (hi : inB j 245 = true) (k : Ek sc d M nx L S (DR w s l A B (sRb r (vp_updL r.2.2.2 j.toNatClampNeg x))) o h' c n) : Ek sc d M pc L (.long x :: .int j :: .ref (wS (!w)) :: S) (DR w s l A B r) o h' c n := ls_ds hc hi k
end DRR
/-! the text -/
def sk (f : Nat → Bool) : Nat → Nat → Nat
  | 0, i => i
  | k + 1, i => bif f i then sk f k (i + 1) else i
theorem sk_ge (f : Nat → Bool) : ∀ k i, i ≤ sk f k i
  | 0, i => Nat.le_refl i
  | k + 1, i => by
    show i ≤ (bif f i then sk f k (i + 1) else i)
    cases f i with
    | true => exact Nat.le_trans (Nat.le_succ i) (sk_ge f k (i + 1))
    | false => exact Nat.le_refl i
theorem sk_le (f : Nat → Bool) : ∀ k i, sk f k i ≤ i + k
  | 0, i => Nat.le_refl i
  | k + 1, i => by
    show (bif f i then sk f k (i + 1) else i) ≤ i + (k + 1)
    cases f i with
    | true =>
      have := sk_le f k (i + 1)
      show sk f k (i + 1) ≤ _
      omega
    | false => exact Nat.le_add_right i _
theorem sk_stop (f : Nat → Bool) : ∀ k i, sk f k i = i + k ∨ f (sk f k i) = false
  | 0, i => Or.inl rfl
  | k + 1, i => by
    show (bif f i then sk f k (i + 1) else i) = i + (k + 1) ∨ f (bif f i then sk f k (i + 1) else i) = false
    cases hf : f i with
    | true =>
      rcases sk_stop f k (i + 1) with h | h
      · left
        show sk f k (i + 1) = _
        omega
      · right
        exact h
    | false => exact Or.inr hf
theorem sk_t {f : Nat → Bool} {k i : Nat} (h : f i = true) : sk f (k + 1) i = sk f k (i + 1) := by
  show (bif f i then _ else _) = _
  rw [h]
  rfl
theorem sk_f {f : Nat → Bool} {k i : Nat} (h : f i = false) : sk f k i = i := by
  cases k with
  | zero => rfl
  | succ k =>
    show (bif f i then _ else _) = _
    rw [h]
    rfl
def blk (t : Nat → Int32) (j : Nat) : Bool := decide (t j = 32)
def dig (t : Nat → Int32) (j : Nat) : Bool := decide (48 ≤ t j) && decide (t j ≤ 57)
/-- behind the blanks -/
def skN (t : Nat → Int32) (n i : Nat) : Nat := sk (blk t) (n - i) i
/-- behind the figures -/
def dgN (t : Nat → Int32) (n i : Nat) : Nat := sk (dig t) (n - i) i
theorem skN_b (t : Nat → Int32) {n i : Nat} (h : i ≤ n) : i ≤ skN t n i ∧ skN t n i ≤ n := ⟨sk_ge _ _ _, by have := sk_le (blk t) (n - i) i; unfold skN; omega⟩
theorem dgN_b (t : Nat → Int32) {n i : Nat} (h : i ≤ n) : i ≤ dgN t n i ∧ dgN t n i ≤ n := ⟨sk_ge _ _ _, by have := sk_le (dig t) (n - i) i; unfold dgN; omega⟩
/-- the number whose figures begin at j, of its first three -/
def vlF (t : Nat → Int32) (j k : Nat) (v : Int32) : Int32 := if k < 3 then 10 * v + t (j + k) - 48 else v
def vlN (t : Nat → Int32) (j m : Nat) : Int32 := fo (vlF t j) m 0
def cmR (r : RS) (a b : Int32) : RS := if r.1 1 = 0 then sR (sR r 1 a) 2 b else r
/-- a number is read -/
def nmR (t : Nat → Int32) (n : Nat) (r : RS) (i : Nat) (x y : Int32) : RS :=
  let j := skN t n i
  let e := dgN t n j
  let r1 : RS := sR (sR r 4 (nI j)) 3 (nI e)
  if e = j then cmR r1 1 (nI e) else if 3 < e - j ∨ vlN t j (e - j) < x ∨ y < vlN t j (e - j) then cmR r1 2 (nI j) else r1
section RDR
variable {sc : Scr} {d : Nat} {w : Bool} {s : Nat → Int32} {l : Nat → Int64} {A : Nat → Nat → Int32} {B : Nat → Nat → Int64} {r : RS} {t : Nat → Int32} {n : Nat}
theorem e_complain (a b : Int32) : Ev sc d m_R_complain 0 (iniL 3 [.ref 1, .int a, .int b]) [] (DR w s l A B r) none (DR w s l A B (cmR r a b)) := by
  repeat (first | refine ev_gos 99 rfl ?_ | refine ev_gf2 rfl rfl rfl rfl ?_ | refine ev_gf2 rfl rfl HH_land rfl ?_ | refine ev_gf2 rfl rfl HH_draft rfl ?_ | refine ev_gf2 rfl rfl (by with_reducible assumption) rfl ?_)
  unfold cmR
  by_cases h0 : r.1 1 = 0
  · rw [if_pos h0]
    refine ev_iff rfl rfl rfl (j_ne h0) ?_
    repeat (first | refine ev_gos 99 rfl ?_ | refine ev_gf2 rfl rfl rfl rfl ?_ | refine ev_gf2 rfl rfl HH_land rfl ?_ | refine ev_gf2 rfl rfl HH_draft rfl ?_ | refine ev_gf2 rfl rfl (by with_reducible assumption) rfl ?_)
    refine pD_1 rfl ?_
    repeat (first | refine ev_gos 99 rfl ?_ | refine ev_gf2 rfl rfl rfl rfl ?_ | refine ev_gf2 rfl rfl HH_land rfl ?_ | refine ev_gf2 rfl rfl HH_draft rfl ?_ | refine ev_gf2 rfl rfl (by with_reducible assumption) rfl ?_)
    refine pD_2 rfl ?_
    exact ev_rv rfl rfl
  · rw [if_neg h0]
    refine ev_ift rfl rfl rfl (i_ne h0) ?_
    exact ev_rv rfl rfl
theorem e_skip_loop (ht : A 2 = t) (hs : s 0 = nI n) (hn : n ≤ 240) : ∀ (k i : Nat), i + k = n → Ev sc d m_R_skipBlanks 8 [some (.ref 1)] [.int (s 0), .int (nI i)] (DR w s l A B (sR r 3 (nI i))) none (DR w s l A B (sR r 3 (nI (sk (blk t) k i)))) := by
  subst ht
  intro k
  induction k with
  | zero =>
    intro i hi
    refine ev_ift rfl rfl rfl (c_ge (by rw [hs]; exact (nI_leI (by omega) (by omega)).mpr (by omega))) ?_
    exact ev_rv rfl rfl
  | succ k ih =>
    intro i hi
    refine ev_iff rfl rfl rfl (d_ge (by rw [hs]; exact nI_lt3 (by omega) (by omega) (by omega))) ?_
    repeat (first | refine ev_gos 99 rfl ?_ | refine ev_gf2 rfl rfl rfl rfl ?_ | refine ev_gf2 rfl rfl HH_land rfl ?_ | refine ev_gf2 rfl rfl HH_draft rfl ?_ | refine ev_gf2 rfl rfl (by with_reducible assumption) rfl ?_)
    refine ev_ia rfl rfl (inI (k := i) (by omega) (by decide)) ?_
    refine (?_ : Ek sc d m_R_skipBlanks 20 _ [.int (A 2 (nI i).toNatClampNeg)] _ _ _ _ _)
    rw [nI_clamp (by omega)]
    repeat (first | refine ev_gos 99 rfl ?_ | refine ev_gf2 rfl rfl rfl rfl ?_ | refine ev_gf2 rfl rfl HH_land rfl ?_ | refine ev_gf2 rfl rfl HH_draft rfl ?_ | refine ev_gf2 rfl rfl (by with_reducible assumption) rfl ?_)
    by_cases hb : A 2 i = 32
    · rw [sk_t (show blk (A 2) i = true from decide_eq_true hb)]
      refine ev_iff rfl rfl rfl (d_ne hb) ?_
      repeat (first | refine ev_gos 99 rfl ?_ | refine ev_gf2 rfl rfl rfl rfl ?_ | refine ev_gf2 rfl rfl HH_land rfl ?_ | refine ev_gf2 rfl rfl HH_draft rfl ?_ | refine ev_gf2 rfl rfl (by with_reducible assumption) rfl ?_)
      refine pD_3 rfl ?_
      refine (?_ : Ek sc d m_R_skipBlanks 35 _ _ (DR w s l A B (sR (sR r 3 (nI i)) 3 (nI i + 1))) _ _ _ _)
      rw [sR_up]
      repeat (first | refine ev_gos 99 rfl ?_ | refine ev_gf2 rfl rfl rfl rfl ?_ | refine ev_gf2 rfl rfl HH_land rfl ?_ | refine ev_gf2 rfl rfl HH_draft rfl ?_ | refine ev_gf2 rfl rfl (by with_reducible assumption) rfl ?_)
      have h3 := ih (i + 1) (by omega)
      rw [← nI_1] at h3
      exact h3
    · rw [sk_f (show blk (A 2) i = false from decide_eq_false hb)]
      refine ev_ift rfl rfl rfl (c_ne hb) ?_
      exact ev_rv rfl rfl
theorem e_skip (ht : A 2 = t) (hs : s 0 = nI n) (hn : n ≤ 240) {i : Nat} (hi : i ≤ n) (hp : r.1 3 = nI i) : Ev sc d m_R_skipBlanks 0 (iniL 1 [.ref 1]) [] (DR w s l A B r) none (DR w s l A B (sR r 3 (nI (skN t n i)))) := by
  have h3 := e_skip_loop (sc := sc) (d := d) (w := w) (s := s) (l := l) (A := A) (B := B) (r := r) ht hs hn (n - i) i (by omega)
  have e : sR r 3 (nI i) = r := by unfold sR; rw [← hp, upA_id]
  rw [e, ← hp] at h3
  repeat (first | refine ev_gos 99 rfl ?_ | refine ev_gf2 rfl rfl rfl rfl ?_ | refine ev_gf2 rfl rfl HH_land rfl ?_ | refine ev_gf2 rfl rfl HH_draft rfl ?_ | refine ev_gf2 rfl rfl (by with_reducible assumption) rfl ?_)
  exact h3
theorem e_atFigure (ht : A 2 = t) (hs : s 0 = nI n) (hn : n ≤ 240) {i : Nat} (hi : i ≤ n) (hp : r.1 3 = nI i) : Ev sc d m_R_atFigure 0 (iniL 1 [.ref 1]) [] (DR w s l A B r) (some (.int (b01 (decide (i < n) && dig t i)))) (DR w s l A B r) := by
  subst ht
  repeat (first | refine ev_gos 99 rfl ?_ | refine ev_gf2 rfl rfl rfl rfl ?_ | refine ev_gf2 rfl rfl HH_land rfl ?_ | refine ev_gf2 rfl rfl HH_draft rfl ?_ | refine ev_gf2 rfl rfl (by with_reducible assumption) rfl ?_)
  by_cases h1 : i < n
  · refine ev_iff rfl rfl rfl (d_ge (by show ¬ s 0 ≤ r.1 3; rw [hs, hp]; exact nI_lt3 (by omega) (by omega) (by omega))) ?_
    repeat (first | refine ev_gos 99 rfl ?_ | refine ev_gf2 rfl rfl rfl rfl ?_ | refine ev_gf2 rfl rfl HH_land rfl ?_ | refine ev_gf2 rfl rfl HH_draft rfl ?_ | refine ev_gf2 rfl rfl (by with_reducible assumption) rfl ?_)
    refine ev_ia rfl rfl (by show inB (r.1 3) 240 = true; rw [hp]; exact inI (by omega) (by decide)) ?_
    refine (?_ : Ek sc d m_R_atFigure 20 _ [.int (A 2 (r.1 3).toNatClampNeg)] _ _ _ _ _)
    have ec : (r.1 3).toNatClampNeg = i := by rw [hp, nI_clamp (by omega)]
    rw [ec, decide_eq_true h1]
    repeat (first | refine ev_gos 99 rfl ?_ | refine ev_gf2 rfl rfl rfl rfl ?_ | refine ev_gf2 rfl rfl HH_land rfl ?_ | refine ev_gf2 rfl rfl HH_draft rfl ?_ | refine ev_gf2 rfl rfl (by with_reducible assumption) rfl ?_)
    unfold dig
    by_cases h2 : A 2 i < 48
    · refine ev_ift rfl rfl rfl (c_lt h2) ?_
      repeat (first | refine ev_gos 99 rfl ?_ | refine ev_gf2 rfl rfl rfl rfl ?_ | refine ev_gf2 rfl rfl HH_land rfl ?_ | refine ev_gf2 rfl rfl HH_draft rfl ?_ | refine ev_gf2 rfl rfl (by with_reducible assumption) rfl ?_)
      exact ev_rz rfl (Or.inl rfl) (by rw [decide_eq_false (fun z => le_nlt z h2)]; rfl) rfl
    · refine ev_iff rfl rfl rfl (d_lt h2) ?_
      repeat (first | refine ev_gos 99 rfl ?_ | refine ev_gf2 rfl rfl rfl rfl ?_ | refine ev_gf2 rfl rfl HH_land rfl ?_ | refine ev_gf2 rfl rfl HH_draft rfl ?_ | refine ev_gf2 rfl rfl (by with_reducible assumption) rfl ?_)
      refine ev_ia rfl rfl (by show inB (r.1 3) 240 = true; rw [hp]; exact inI (by omega) (by decide)) ?_
      refine (?_ : Ek sc d m_R_atFigure 34 _ [.int (A 2 (r.1 3).toNatClampNeg)] _ _ _ _ _)
      rw [ec, decide_eq_true (nlt_le3 h2)]
      repeat (first | refine ev_gos 99 rfl ?_ | refine ev_gf2 rfl rfl rfl rfl ?_ | refine ev_gf2 rfl rfl HH_land rfl ?_ | refine ev_gf2 rfl rfl HH_draft rfl ?_ | refine ev_gf2 rfl rfl (by with_reducible assumption) rfl ?_)
      by_cases h3 : 57 < A 2 i
      · refine ev_ift rfl rfl rfl (c_gt h3) ?_
        repeat (first | refine ev_gos 99 rfl ?_ | refine ev_gf2 rfl rfl rfl rfl ?_ | refine ev_gf2 rfl rfl HH_land rfl ?_ | refine ev_gf2 rfl rfl HH_draft rfl ?_ | refine ev_gf2 rfl rfl (by with_reducible assumption) rfl ?_)
        exact ev_rz rfl (Or.inl rfl) (by rw [decide_eq_false (fun z => le_nlt z h3)]; rfl) rfl
      · refine ev_iff rfl rfl rfl (d_gt h3) ?_
        repeat (first | refine ev_gos 99 rfl ?_ | refine ev_gf2 rfl rfl rfl rfl ?_ | refine ev_gf2 rfl rfl HH_land rfl ?_ | refine ev_gf2 rfl rfl HH_draft rfl ?_ | refine ev_gf2 rfl rfl (by with_reducible assumption) rfl ?_)
        exact ev_rz rfl (Or.inr rfl) (by rw [decide_eq_true (nlt_le3 h3)]; rfl) rfl
  · refine ev_ift rfl rfl rfl (c_ge (by show s 0 ≤ r.1 3; rw [hs, hp]; exact (nI_leI (by omega) (by omega)).mpr (by omega))) ?_
    repeat (first | refine ev_gos 99 rfl ?_ | refine ev_gf2 rfl rfl rfl rfl ?_ | refine ev_gf2 rfl rfl HH_land rfl ?_ | refine ev_gf2 rfl rfl HH_draft rfl ?_ | refine ev_gf2 rfl rfl (by with_reducible assumption) rfl ?_)
    exact ev_rz rfl (Or.inl rfl) (by rw [decide_eq_false h1]; rfl) rfl
end RDR
end
section
/-! the reader: a number, the end of a clause -/
def nvR (t : Nat → Int32) (n : Nat) (r : RS) (i : Nat) (x y : Int32) : Int32 := if (nmR t n r i x y).1 1 = 0 then vlN t (skN t n i) (dgN t n (skN t n i) - skN t n i) else -1
def endR (t : Nat → Int32) (n : Nat) (r : RS) (i : Nat) : RS := if skN t n i < n ∧ t (skN t n i) = 59 then sR r 3 (nI (skN t n i + 1)) else cmR (sR r 3 (nI (skN t n i))) 1 (nI (skN t n i))
theorem dg_t {t : Nat → Int32} {k i : Nat} (h : dig t i = true) : sk (dig t) (k + 1) i = sk (dig t) k (i + 1) := sk_t h
section NUM
variable {sc : Scr} {d : Nat} {w : Bool} {s : Nat → Int32} {l : Nat → Int64} {A : Nat → Nat → Int32} {B : Nat → Nat → Int64} {r : RS} {t : Nat → Int32} {n : Nat}
theorem e_num_loop (ht : A 2 = t) (hs : s 0 = nI n) (hn : n ≤ 240) (x y : Int32) {j : Nat} {o : Option Value} {h' : AHp} (hk : Ev sc (d + 1) m_R_readNumber 76 [some (.ref 1), some (.int x), some (.int y), some (.int (vlN t j (dgN t n j - j)))] [] (DR w s l A B (sR (sR r 4 (nI j)) 3 (nI (dgN t n j)))) o h') : ∀ (k i : Nat), i + k = n → j ≤ i → sk (dig t) k i = dgN t n j → Ev sc (d + 1) m_R_readNumber 22 [some (.ref 1), some (.int x), some (.int y), some (.int (vlN t j (i - j)))] [.int (s 0), .int (nI i)] (DR w s l A B (sR (sR r 4 (nI j)) 3 (nI i))) o h' := by
  subst ht
  intro k
  induction k with
  | zero =>
    intro i hi hj he
    have e : i = dgN (A 2) n j := he
    refine ev_ift rfl rfl rfl (c_ge (by rw [hs]; exact (nI_leI (by omega) (by omega)).mpr (by omega))) ?_
    rw [← e] at hk
    exact hk
  | succ k ih =>
    intro i hi hj he
    refine ev_iff rfl rfl rfl (d_ge (by rw [hs]; exact nI_lt3 (by omega) (by omega) (by omega))) ?_
    repeat (first | refine ev_gos 99 rfl ?_ | refine ev_gf2 rfl rfl rfl rfl ?_ | refine ev_gf2 rfl rfl HH_land rfl ?_ | refine ev_gf2 rfl rfl HH_draft rfl ?_ | refine ev_gf2 rfl rfl (by with_reducible assumption) rfl ?_)
    refine ev_cv rfl rfl rfl (e_atFigure (t := A 2) (n := n) rfl hs hn (i := i) (by omega) rfl) ?_
    rw [decide_eq_true (show i < n by omega), Bool.true_and]
    cases hd : dig (A 2) i with
    | false =>
      rw [sk_f hd] at he
      refine ev_ift rfl rfl rfl rfl ?_
      rw [← he] at hk
      exact hk
    | true =>
      rw [sk_t hd] at he
      refine ev_iff rfl rfl rfl rfl ?_
      repeat (first | refine ev_gos 99 rfl ?_ | refine ev_gf2 rfl rfl rfl rfl ?_ | refine ev_gf2 rfl rfl HH_land rfl ?_ | refine ev_gf2 rfl rfl HH_draft rfl ?_ | refine ev_gf2 rfl rfl (by with_reducible assumption) rfl ?_)
      have h3 := ih (i + 1) (by omega) (by omega) he
      have hst : vlN (A 2) j (i + 1 - j) = if i - j < 3 then 10 * vlN (A 2) j (i - j) + A 2 i - 48 else vlN (A 2) j (i - j) := by
        rw [show i + 1 - j = (i - j) + 1 by omega]
        show vlF (A 2) j (i - j) _ = _
        unfold vlF
        rw [show j + (i - j) = i by omega]
        rfl
      rw [hst] at h3
      refine (?_ : Ek sc (d + 1) m_R_readNumber 42 _ [.int 3, .int (nI i - nI j)] _ _ _ _ _)
      rw [pk_sub hj]
      by_cases h4 : i - j < 3
      · rw [if_pos h4] at h3
        refine ev_iff rfl rfl rfl (d_ge (nI_lt3 (b := 3) (by omega) (by omega) (by omega))) ?_
        repeat (first | refine ev_gos 99 rfl ?_ | refine ev_gf2 rfl rfl rfl rfl ?_ | refine ev_gf2 rfl rfl HH_land rfl ?_ | refine ev_gf2 rfl rfl HH_draft rfl ?_ | refine ev_gf2 rfl rfl (by with_reducible assumption) rfl ?_)
        refine ev_ia rfl rfl (inI (k := i) (by omega) (by decide)) ?_
        refine (?_ : Ek sc (d + 1) m_R_readNumber 58 _ [.int (A 2 (nI i).toNatClampNeg), _] _ _ _ _ _)
        rw [nI_clamp (by omega)]
        repeat (first | refine ev_gos 99 rfl ?_ | refine ev_gf2 rfl rfl rfl rfl ?_ | refine ev_gf2 rfl rfl HH_land rfl ?_ | refine ev_gf2 rfl rfl HH_draft rfl ?_ | refine ev_gf2 rfl rfl (by with_reducible assumption) rfl ?_)
        refine pD_3 rfl ?_
        refine (?_ : Ek sc (d + 1) m_R_readNumber 73 _ _ (DR w s l A B (sR (sR (sR r 4 (nI j)) 3 (nI i)) 3 (nI i + 1))) _ _ _ _)
        rw [sR_up, nI_1]
        repeat (first | refine ev_gos 99 rfl ?_ | refine ev_gf2 rfl rfl rfl rfl ?_ | refine ev_gf2 rfl rfl HH_land rfl ?_ | refine ev_gf2 rfl rfl HH_draft rfl ?_ | refine ev_gf2 rfl rfl (by with_reducible assumption) rfl ?_)
        exact h3
      · rw [if_neg h4] at h3
        refine ev_ift rfl rfl rfl (c_ge ((nI_leI (a := 3) (by omega) (by omega)).mpr (by omega))) ?_
        repeat (first | refine ev_gos 99 rfl ?_ | refine ev_gf2 rfl rfl rfl rfl ?_ | refine ev_gf2 rfl rfl HH_land rfl ?_ | refine ev_gf2 rfl rfl HH_draft rfl ?_ | refine ev_gf2 rfl rfl (by with_reducible assumption) rfl ?_)
        refine pD_3 rfl ?_
        refine (?_ : Ek sc (d + 1) m_R_readNumber 73 _ _ (DR w s l A B (sR (sR (sR r 4 (nI j)) 3 (nI i)) 3 (nI i + 1))) _ _ _ _)
        rw [sR_up, nI_1]
        repeat (first | refine ev_gos 99 rfl ?_ | refine ev_gf2 rfl rfl rfl rfl ?_ | refine ev_gf2 rfl rfl HH_land rfl ?_ | refine ev_gf2 rfl rfl HH_draft rfl ?_ | refine ev_gf2 rfl rfl (by with_reducible assumption) rfl ?_)
        exact h3
theorem cm_fn (r : RS) {a : Int32} (b : Int32) (ha : ¬ a = 0) : ¬ (cmR r a b).1 1 = 0 := by
  unfold cmR
  by_cases h : r.1 1 = 0
  · rw [if_pos h]
    exact ha
  · rw [if_neg h]
    exact h
theorem e_num_end (v : Int32) (x y : Int32) : Ev sc d m_R_readNumber 131 [some (.ref 1), some (.int x), some (.int y), some (.int v)] [] (DR w s l A B r) (some (.int (if r.1 1 = 0 then v else -1))) (DR w s l A B r) := by
  repeat (first | refine ev_gos 99 rfl ?_ | refine ev_gf2 rfl rfl rfl rfl ?_ | refine ev_gf2 rfl rfl HH_land rfl ?_ | refine ev_gf2 rfl rfl HH_draft rfl ?_ | refine ev_gf2 rfl rfl (by with_reducible assumption) rfl ?_)
  by_cases h : r.1 1 = 0
  · refine ev_iff rfl rfl rfl (j_ne h) ?_
    repeat (first | refine ev_gos 99 rfl ?_ | refine ev_gf2 rfl rfl rfl rfl ?_ | refine ev_gf2 rfl rfl HH_land rfl ?_ | refine ev_gf2 rfl rfl HH_draft rfl ?_ | refine ev_gf2 rfl rfl (by with_reducible assumption) rfl ?_)
    exact ev_ri rfl (by rw [if_pos h]) rfl
  · refine ev_ift rfl rfl rfl (i_ne h) ?_
    repeat (first | refine ev_gos 99 rfl ?_ | refine ev_gf2 rfl rfl rfl rfl ?_ | refine ev_gf2 rfl rfl HH_land rfl ?_ | refine ev_gf2 rfl rfl HH_draft rfl ?_ | refine ev_gf2 rfl rfl (by with_reducible assumption) rfl ?_)
    exact ev_ri rfl (by rw [if_neg h]) rfl
theorem e_readNumber (ht : A 2 = t) (hs : s 0 = nI n) (hn : n ≤ 240) {i : Nat} (hi : i ≤ n) (hp : r.1 3 = nI i) (x y : Int32) : Ev sc (d + 1) m_R_readNumber 0 (iniL 4 [.ref 1, .int x, .int y]) [] (DR w s l A B r) (some (.int (nvR t n r i x y))) (DR w s l A B (nmR t n r i x y)) := by
  have hj := skN_b t hi
  have he := dgN_b t hj.2
  repeat (first | refine ev_gos 99 rfl ?_ | refine ev_gf2 rfl rfl rfl rfl ?_ | refine ev_gf2 rfl rfl HH_land rfl ?_ | refine ev_gf2 rfl rfl HH_draft rfl ?_ | refine ev_gf2 rfl rfl (by with_reducible assumption) rfl ?_)
  refine ev_cv rfl rfl rfl (e_skip ht hs hn hi hp) ?_
  repeat (first | refine ev_gos 99 rfl ?_ | refine ev_gf2 rfl rfl rfl rfl ?_ | refine ev_gf2 rfl rfl HH_land rfl ?_ | refine ev_gf2 rfl rfl HH_draft rfl ?_ | refine ev_gf2 rfl rfl (by with_reducible assumption) rfl ?_)
  refine pD_4 rfl ?_
  refine (?_ : Ek sc (d + 1) m_R_readNumber 12 _ _ (DR w s l A B (sR (sR r 3 (nI (skN t n i))) 4 (nI (skN t n i)))) _ _ _ _)
  rw [sR_comm r (p := 3) (q := 4) rfl]
  unfold nvR nmR
  dsimp only
  generalize skN t n i = j at hj he
  have key : Ev sc (d + 1) m_R_readNumber 76 [some (.ref 1), some (.int x), some (.int y), some (.int (vlN t j (dgN t n j - j)))] [] (DR w s l A B (sR (sR r 4 (nI j)) 3 (nI (dgN t n j)))) (some (.int (if (if dgN t n j = j then cmR (sR (sR r 4 (nI j)) 3 (nI (dgN t n j))) 1 (nI (dgN t n j)) else if 3 < dgN t n j - j ∨ vlN t j (dgN t n j - j) < x ∨ y < vlN t j (dgN t n j - j) then cmR (sR (sR r 4 (nI j)) 3 (nI (dgN t n j))) 2 (nI j) else sR (sR r 4 (nI j)) 3 (nI (dgN t n j))).1 1 = 0 then vlN t j (dgN t n j - j) else -1))) (DR w s l A B (if dgN t n j = j then cmR (sR (sR r 4 (nI j)) 3 (nI (dgN t n j))) 1 (nI (dgN t n j)) else if 3 < dgN t n j - j ∨ vlN t j (dgN t n j - j) < x ∨ y < vlN t j (dgN t n j - j) then cmR (sR (sR r 4 (nI j)) 3 (nI (dgN t n j))) 2 (nI j) else sR (sR r 4 (nI j)) 3 (nI (dgN t n j)))) := by
    generalize dgN t n j = e at he
    generalize vlN t j (e - j) = v
    repeat (first | refine ev_gos 99 rfl ?_ | refine ev_gf2 rfl rfl rfl rfl ?_ | refine ev_gf2 rfl rfl HH_land rfl ?_ | refine ev_gf2 rfl rfl HH_draft rfl ?_ | refine ev_gf2 rfl rfl (by with_reducible assumption) rfl ?_)
    by_cases h1 : e = j
    · rw [if_pos h1]
      refine ev_iff rfl rfl rfl (d_ne (by show nI e = nI j; rw [h1])) ?_
      repeat (first | refine ev_gos 99 rfl ?_ | refine ev_gf2 rfl rfl rfl rfl ?_ | refine ev_gf2 rfl rfl HH_land rfl ?_ | refine ev_gf2 rfl rfl HH_draft rfl ?_ | refine ev_gf2 rfl rfl (by with_reducible assumption) rfl ?_)
      refine ev_cv rfl rfl rfl (e_complain 1 (nI e)) ?_
      refine ev_gos 1 rfl ?_
      exact e_num_end v x y
    · rw [if_neg h1]
      refine ev_ift rfl rfl rfl (c_ne (by show ¬ nI e = nI j; exact fun z => h1 ((nI_eq (by omega) (by omega)).mp z))) ?_
      repeat (first | refine ev_gos 99 rfl ?_ | refine ev_gf2 rfl rfl rfl rfl ?_ | refine ev_gf2 rfl rfl HH_land rfl ?_ | refine ev_gf2 rfl rfl HH_draft rfl ?_ | refine ev_gf2 rfl rfl (by with_reducible assumption) rfl ?_)
      refine (?_ : Ek sc (d + 1) m_R_readNumber 109 _ [.int 3, .int (nI e - nI j)] _ _ _ _ _)
      rw [pk_sub he.1]
      by_cases h2 : 3 < e - j
      · rw [if_pos (Or.inl h2)]
        refine ev_ift rfl rfl rfl (c_gt ((nI_ltI (a := 3) (by omega) (by omega)).mpr h2)) ?_
        repeat (first | refine ev_gos 99 rfl ?_ | refine ev_gf2 rfl rfl rfl rfl ?_ | refine ev_gf2 rfl rfl HH_land rfl ?_ | refine ev_gf2 rfl rfl HH_draft rfl ?_ | refine ev_gf2 rfl rfl (by with_reducible assumption) rfl ?_)
        refine ev_cv rfl rfl rfl (e_complain 2 (nI j)) ?_
        exact e_num_end v x y
      · refine ev_iff rfl rfl rfl (d_gt (fun z => h2 ((nI_ltI (a := 3) (by omega) (by omega)).mp z))) ?_
        repeat (first | refine ev_gos 99 rfl ?_ | refine ev_gf2 rfl rfl rfl rfl ?_ | refine ev_gf2 rfl rfl HH_land rfl ?_ | refine ev_gf2 rfl rfl HH_draft rfl ?_ | refine ev_gf2 rfl rfl (by with_reducible assumption) rfl ?_)
        by_cases h3 : v < x
        · rw [if_pos (Or.inr (Or.inl h3))]
          refine ev_ift rfl rfl rfl (c_lt h3) ?_
          repeat (first | refine ev_gos 99 rfl ?_ | refine ev_gf2 rfl rfl rfl rfl ?_ | refine ev_gf2 rfl rfl HH_land rfl ?_ | refine ev_gf2 rfl rfl HH_draft rfl ?_ | refine ev_gf2 rfl rfl (by with_reducible assumption) rfl ?_)
          refine ev_cv rfl rfl rfl (e_complain 2 (nI j)) ?_
          exact e_num_end v x y
        · refine ev_iff rfl rfl rfl (d_lt h3) ?_
          repeat (first | refine ev_gos 99 rfl ?_ | refine ev_gf2 rfl rfl rfl rfl ?_ | refine ev_gf2 rfl rfl HH_land rfl ?_ | refine ev_gf2 rfl rfl HH_draft rfl ?_ | refine ev_gf2 rfl rfl (by with_reducible assumption) rfl ?_)
          by_cases h4 : y < v
          · rw [if_pos (Or.inr (Or.inr h4))]
            refine ev_iff rfl rfl rfl (d_le (fun z => le_nlt z h4)) ?_
            repeat (first | refine ev_gos 99 rfl ?_ | refine ev_gf2 rfl rfl rfl rfl ?_ | refine ev_gf2 rfl rfl HH_land rfl ?_ | refine ev_gf2 rfl rfl HH_draft rfl ?_ | refine ev_gf2 rfl rfl (by with_reducible assumption) rfl ?_)
            refine ev_cv rfl rfl rfl (e_complain 2 (nI j)) ?_
            exact e_num_end v x y
          · rw [if_neg (show ¬ (3 < e - j ∨ v < x ∨ y < v) from fun z => z.elim h2 (fun z => z.elim h3 h4))]
            refine ev_ift rfl rfl rfl (c_le (nlt_le3 h4)) ?_
            exact e_num_end v x y
  have h9 := e_num_loop (sc := sc) (d := d) (w := w) (s := s) (l := l) (A := A) (B := B) (r := r) ht hs hn x y key (n - j) j (by omega) (Nat.le_refl j) rfl
  rw [Nat.sub_self] at h9
  repeat (first | refine ev_gos 99 rfl ?_ | refine ev_gf2 rfl rfl rfl rfl ?_ | refine ev_gf2 rfl rfl HH_land rfl ?_ | refine ev_gf2 rfl rfl HH_draft rfl ?_ | refine ev_gf2 rfl rfl (by with_reducible assumption) rfl ?_)
  exact h9
theorem e_readEnd (ht : A 2 = t) (hs : s 0 = nI n) (hn : n ≤ 240) {i : Nat} (hi : i ≤ n) (hp : r.1 3 = nI i) : Ev sc (d + 1) m_R_readEnd 0 (iniL 1 [.ref 1]) [] (DR w s l A B r) none (DR w s l A B (endR t n r i)) := by
  have hj := skN_b t hi
  repeat (first | refine ev_gos 99 rfl ?_ | refine ev_gf2 rfl rfl rfl rfl ?_ | refine ev_gf2 rfl rfl HH_land rfl ?_ | refine ev_gf2 rfl rfl HH_draft rfl ?_ | refine ev_gf2 rfl rfl (by with_reducible assumption) rfl ?_)
  refine ev_cv rfl rfl rfl (e_skip ht hs hn hi hp) ?_
  subst ht
  unfold endR
  generalize skN (A 2) n i = j at hj
  repeat (first | refine ev_gos 99 rfl ?_ | refine ev_gf2 rfl rfl rfl rfl ?_ | refine ev_gf2 rfl rfl HH_land rfl ?_ | refine ev_gf2 rfl rfl HH_draft rfl ?_ | refine ev_gf2 rfl rfl (by with_reducible assumption) rfl ?_)
  by_cases h1 : j < n
  · refine ev_iff rfl rfl rfl (d_ge (by show ¬ s 0 ≤ nI j; rw [hs]; exact nI_lt3 (by omega) (by omega) (by omega))) ?_
    repeat (first | refine ev_gos 99 rfl ?_ | refine ev_gf2 rfl rfl rfl rfl ?_ | refine ev_gf2 rfl rfl HH_land rfl ?_ | refine ev_gf2 rfl rfl HH_draft rfl ?_ | refine ev_gf2 rfl rfl (by with_reducible assumption) rfl ?_)
    refine ev_ia rfl rfl (inI (k := j) (by omega) (by decide)) ?_
    refine (?_ : Ek sc (d + 1) m_R_readEnd 24 _ [.int (A 2 (nI j).toNatClampNeg)] _ _ _ _ _)
    rw [nI_clamp (by omega)]
    repeat (first | refine ev_gos 99 rfl ?_ | refine ev_gf2 rfl rfl rfl rfl ?_ | refine ev_gf2 rfl rfl HH_land rfl ?_ | refine ev_gf2 rfl rfl HH_draft rfl ?_ | refine ev_gf2 rfl rfl (by with_reducible assumption) rfl ?_)
    by_cases h2 : A 2 j = 59
    · rw [if_pos ⟨h1, h2⟩]
      refine ev_ift rfl rfl rfl (c_eq h2) ?_
      repeat (first | refine ev_gos 99 rfl ?_ | refine ev_gf2 rfl rfl rfl rfl ?_ | refine ev_gf2 rfl rfl HH_land rfl ?_ | refine ev_gf2 rfl rfl HH_draft rfl ?_ | refine ev_gf2 rfl rfl (by with_reducible assumption) rfl ?_)
      refine pD_3 rfl ?_
      refine (?_ : Ek sc (d + 1) m_R_readEnd 49 _ _ (DR w s l A B (sR (sR r 3 (nI j)) 3 (nI j + 1))) _ _ _ _)
      rw [sR_up, nI_1]
      exact ev_rv rfl rfl
    · rw [if_neg (fun z => h2 z.2)]
      refine ev_iff rfl rfl rfl (d_eq h2) ?_
      repeat (first | refine ev_gos 99 rfl ?_ | refine ev_gf2 rfl rfl rfl rfl ?_ | refine ev_gf2 rfl rfl HH_land rfl ?_ | refine ev_gf2 rfl rfl HH_draft rfl ?_ | refine ev_gf2 rfl rfl (by with_reducible assumption) rfl ?_)
      refine ev_cv rfl rfl rfl (e_complain 1 (nI j)) ?_
      exact ev_rv rfl rfl
  · rw [if_neg (fun z => h1 z.1)]
    refine ev_ift rfl rfl rfl (c_ge (by show s 0 ≤ nI j; rw [hs]; exact (nI_leI (by omega) (by omega)).mpr (by omega))) ?_
    repeat (first | refine ev_gos 99 rfl ?_ | refine ev_gf2 rfl rfl rfl rfl ?_ | refine ev_gf2 rfl rfl HH_land rfl ?_ | refine ev_gf2 rfl rfl HH_draft rfl ?_ | refine ev_gf2 rfl rfl (by with_reducible assumption) rfl ?_)
    refine ev_cv rfl rfl rfl (e_complain 1 (nI j)) ?_
    exact ev_rv rfl rfl
end NUM
end
section
/-! the draft: cleared, measured, its shapes drawn -/
theorem sRl_up (r : RS) (p : Nat) (x y : Int64) : sRl (sRl r p x) p y = sRl r p y := by unfold sRl; dsimp only; rw [upA_up]
theorem sRl_id {r : RS} {p : Nat} {x : Int64} (h : r.2.1 p = x) : sRl r p x = r := by unfold sRl; rw [← h, upA_id]
theorem sRl_comm (r : RS) {p q : Nat} (h : Nat.beq p q = false) (x y : Int64) : sRl (sRl r p x) q y = sRl (sRl r q y) p x := by unfold sRl; dsimp only; rw [upA_comm _ h]
def mapJ (x : Int64) (f : Nat → Int64) (n : Nat) : Nat → Int64 := fun j => if j < n then x else f j
theorem mapJ_0 (x : Int64) (f : Nat → Int64) : mapJ x f 0 = f := by funext j; unfold mapJ; rw [if_neg (by omega)]
theorem mapJ_s (x : Int64) (f : Nat → Int64) (n : Nat) : vp_updL (mapJ x f n) n x = mapJ x f (n + 1) := by
  funext j
  show (if j = n then x else mapJ x f n j) = _
  unfold mapJ
  by_cases e : j = n
  · subst e
    simp
  · by_cases e2 : j < n
    · simp [e, e2, show j < n + 1 by omega]
    · simp [e, e2, show ¬ j < n + 1 by omega]
theorem e_fillL_loop {sc : Scr} {d q m : Nat} {h : AHp} {f : Nat → Int64} (hd : h[q]? = some (aJ m f)) (hm : m < 2 ^ 31) (x : Int64) : ∀ (n i : Nat), i + n = m → Ev sc d m_JA_fillL 9 [some (.ref q), some (.long x), none, some (.int (nI i)), some (.int (Int32.ofNat m))] [.int (Int32.ofNat m), .int (nI i)] (h.set q (aJ m (mapJ x f i))) none (h.set q (aJ m (mapJ x f m))) := by
  intro n
  induction n with
  | zero =>
    intro i hi
    have e : i = m := by omega
    subst e
    refine ev_ift rfl rfl rfl (c_ge ((nI_leI hm hm).mpr (Nat.le_refl i) : nI i ≤ nI i)) ?_
    exact ev_rv rfl rfl
  | succ n ih =>
    intro i hi
    refine ev_iff rfl rfl rfl (d_ge (nI_lt3 (by omega) hm (by omega) : ¬ nI m ≤ nI i)) ?_
    repeat (first | refine ev_gos 99 rfl ?_ | refine ev_gf2 rfl rfl rfl rfl ?_ | refine ev_gf2 rfl rfl HH_land rfl ?_ | refine ev_gf2 rfl rfl HH_draft rfl ?_ | refine ev_gf2 rfl rfl (by with_reducible assumption) rfl ?_)
    refine ev_lst rfl (gs_eq hd) (inI (by omega) hm) ?_
    rw [nI_clamp (by omega), List.set_set]
    have h3 := ih (i + 1) (by omega)
    rw [← nI_1, ← mapJ_s] at h3
    repeat (first | refine ev_gos 99 rfl ?_ | refine ev_gf2 rfl rfl rfl rfl ?_ | refine ev_gf2 rfl rfl HH_land rfl ?_ | refine ev_gf2 rfl rfl HH_draft rfl ?_ | refine ev_gf2 rfl rfl (by with_reducible assumption) rfl ?_)
    exact h3
theorem e_fillL {sc : Scr} {d q m : Nat} {h : AHp} {f : Nat → Int64} (hd : h[q]? = some (aJ m f)) (hm : m < 2 ^ 31) (x : Int64) : Ev sc d m_JA_fillL 0 (iniL 5 [.ref q, .long x]) [] h none (h.set q (aJ m (mapJ x f m))) := by
  repeat (first | refine ev_gos 99 rfl ?_ | refine ev_gf2 rfl rfl rfl rfl ?_ | refine ev_gf2 rfl rfl HH_land rfl ?_ | refine ev_gf2 rfl rfl HH_draft rfl ?_ | refine ev_gf2 rfl rfl (by with_reducible assumption) rfl ?_)
  refine ev_len rfl (Or.inr (rd_of hd)) ?_
  repeat (first | refine ev_gos 99 rfl ?_ | refine ev_gf2 rfl rfl rfl rfl ?_ | refine ev_gf2 rfl rfl HH_land rfl ?_ | refine ev_gf2 rfl rfl HH_draft rfl ?_ | refine ev_gf2 rfl rfl (by with_reducible assumption) rfl ?_)
  have h3 := e_fillL_loop (sc := sc) (d := d) hd hm x m 0 (Nat.zero_add m)
  have e : h.set q (aJ m (mapJ x f 0)) = h := by
    rw [mapJ_0]
    apply List.ext_getElem?
    intro i
    by_cases hq : q = i
    · subst hq
      rw [gs_eq hd, hd]
    · rw [gs_ne hq]
  rw [e] at h3
  exact h3
def clrR (r : RS) : RS := sRb (sRl (sRl (sRl (sRl (sR (sR (sR (sR r 19 0) 20 0) 21 0) 22 0) 4 0) 5 0) 6 0) 7 0) (mapJ 0 r.2.2.2 245)
def msR (r : RS) (w h : Nat) : RS := sRl (sRl (sRl (sR (sR r 19 (nI w)) 20 (nI h)) 4 (allS (w * h))) 5 (lefS w (w * h))) 6 (rigS w (w * h))
theorem all_eq {N : Nat} (h : N ≤ 49) : bit N - 1 = allS N := by
  apply mk_eq
  intro i hi
  rw [bitm1 (by omega) hi]
theorem lef_s {w y : Nat} (hw : 1 ≤ w) (h : w * y + w ≤ 49) : lefS w (w * y) ||| bit (w * y) = lefS w (w * (y + 1)) := by
  apply mk_eq
  intro i hi
  rw [bs_or, bs_bitc (by omega) hi]
  unfold lefS
  rw [bs_mk _ hi, show w * (y + 1) = w * y + w from Nat.mul_succ w y]
  by_cases a : i < w * y
  · simp [a, show ¬ i = w * y by omega, show i < w * y + w by omega]
  · by_cases b : i < w * y + w
    · obtain ⟨k, rfl⟩ : ∃ k, i = w * y + k := ⟨i - w * y, by omega⟩
      rw [Nat.mul_add_mod, Nat.mod_eq_of_lt (show k < w by omega)]
      simp [a, b]
    · simp [a, b]
      omega
theorem rig_s {w y : Nat} (hw : 1 ≤ w) (h : w * y + w ≤ 49) : rigS w (w * y) ||| bit (w * y + w - 1) = rigS w (w * (y + 1)) := by
  apply mk_eq
  intro i hi
  rw [bs_or, bs_bitc (by omega) hi]
  unfold rigS
  rw [bs_mk _ hi, show w * (y + 1) = w * y + w from Nat.mul_succ w y]
  by_cases a : i < w * y
  · simp [a, show ¬ i = w * y + w - 1 by omega, show i < w * y + w by omega]
  · by_cases b : i < w * y + w
    · obtain ⟨k, rfl⟩ : ∃ k, i = w * y + k := ⟨i - w * y, by omega⟩
      rw [Nat.mul_add_mod, Nat.mod_eq_of_lt (show k < w by omega)]
      simp [a, b]
      omega
    · simp [a, b]
      omega
theorem lef_0 (w : Nat) : lefS w 0 = 0 := bs_ext (fun i hi => by unfold lefS; rw [bs_mk _ hi, bs_0]; simp)
theorem rig_0 (w : Nat) : rigS w 0 = 0 := bs_ext (fun i hi => by unfold rigS; rw [bs_mk _ hi, bs_0]; simp)
theorem all_0 : allS 0 = 0 := bs_ext (fun i hi => by unfold allS; rw [bs_mk _ hi, bs_0]; simp)
def dsC (W N : Nat) (rk : Int64) (k c : Nat) (b : Nat → Int64) : Nat → Int64 := vp_updL b (k * 49 + c) (drwS W N rk k c)
def dsK (W N : Nat) (rk : Int64) (k : Nat) (b : Nat → Int64) : Nat → Int64 := fo (dsC W N rk k) N b
theorem dsC_at (W N : Nat) (rk : Int64) (k : Nat) (b : Nat → Int64) : ∀ n j, fo (dsC W N rk k) n b j = if k * 49 ≤ j ∧ j < k * 49 + n then drwS W N rk k (j - k * 49) else b j
  | 0, j => by rw [if_neg (by omega)]; rfl
  | n + 1, j => by
    show (if j = k * 49 + n then drwS W N rk k n else fo (dsC W N rk k) n b j) = _
    rw [dsC_at W N rk k b n j]
    by_cases e : j = k * 49 + n
    · subst e
      rw [if_pos rfl, if_pos (by omega), show k * 49 + n - k * 49 = n by omega]
    · rw [if_neg e]
      by_cases e2 : k * 49 ≤ j ∧ j < k * 49 + n
      · rw [if_pos e2, if_pos (by omega)]
      · rw [if_neg e2, if_neg (by omega)]
theorem dsK_at (W N : Nat) (rk : Int64) (b : Nat → Int64) {c : Nat} (hN : N ≤ 49) (hc : c < 49) : ∀ n k, fo (dsK W N rk) n b (k * 49 + c) = if k < n ∧ c < N then drwS W N rk k c else b (k * 49 + c)
  | 0, k => by rw [if_neg (by omega)]; rfl
  | n + 1, k => by
    show fo (dsC W N rk n) N (fo (dsK W N rk) n b) (k * 49 + c) = _
    rw [dsC_at, dsK_at W N rk b hN hc n k]
    by_cases e : k = n
    · subst e
      by_cases e2 : c < N
      · rw [if_pos (by omega), if_pos (by omega), show k * 49 + c - k * 49 = c by omega]
      · rw [if_neg (by omega), if_neg (by omega), if_neg (by omega)]
    · rw [if_neg (by omega)]
      by_cases e2 : k < n ∧ c < N
      · rw [if_pos e2, if_pos (by omega)]
      · rw [if_neg e2, if_neg (by omega)]
section DFT
variable {sc : Scr} {d : Nat} {w : Bool} {s : Nat → Int32} {l : Nat → Int64} {A : Nat → Nat → Int32} {B : Nat → Nat → Int64} {r : RS} {W H : Nat}
theorem HH_DR : HH w s l A B = DR w s l A B (s, l, A 7, B 8) := by
  have e1 : rsS s (s, l, A 7, B 8) = s := by funext q; show (bif isR q then s q else s q) = s q; cases isR q <;> rfl
  have e2 : rsL l (s, l, A 7, B 8) = l := by funext q; show (bif isRl q then l q else l q) = l q; cases isRl q <;> rfl
  show _ = HH w (rsS s (s, l, A 7, B 8)) (rsL l (s, l, A 7, B 8)) (upA A 7 (A 7)) (upA B 8 (B 8))
  rw [e1, e2, upA_id, upA_id]
theorem e_clear : Ev sc (d + 1) m_L_clear 0 (iniL 1 [.ref (wL (!w))]) [] (DR w s l A B r) none (DR w s l A B (clrR r)) := by
  refine ev_gos 99 rfl ?_
  refine pD_19 rfl ?_
  refine ev_gos 99 rfl ?_
  refine pD_20 rfl ?_
  refine ev_gos 99 rfl ?_
  refine pD_21 rfl ?_
  refine ev_gos 99 rfl ?_
  refine pD_22 rfl ?_
  refine ev_gos 99 rfl ?_
  refine pDl_4 rfl ?_
  refine ev_gos 99 rfl ?_
  refine pDl_5 rfl ?_
  refine ev_gos 99 rfl ?_
  refine pDl_6 rfl ?_
  refine ev_gos 99 rfl ?_
  refine pDl_7 rfl ?_
  repeat (first | refine ev_gos 99 rfl ?_ | refine ev_gf2 rfl rfl rfl rfl ?_ | refine ev_gf2 rfl rfl HH_land rfl ?_ | refine ev_gf2 rfl rfl HH_draft rfl ?_ | refine ev_gf2 rfl rfl (by with_reducible assumption) rfl ?_)
  refine ev_cs rfl rfl rfl (e_fillL (q := wS (!w)) (m := 245) (f := r.2.2.2) HH_dshapes (by decide) 0) ?_
  rw [HA_ds, upA_up]
  exact ev_rv rfl rfl
theorem e_measure_loop (hW : 1 ≤ W) (hW7 : W ≤ 7) (hH : H ≤ 7) : ∀ (n y : Nat), y + n = H → Ev sc d m_L_measure 25 [some (.ref (wL (!w))), some (.int (nI W)), some (.int (nI H)), some (.int (nI y))] [.int (nI H), .int (nI y)] (DR w s l A B (sRl (sRl r 5 (lefS W (W * y))) 6 (rigS W (W * y)))) none (DR w s l A B (sRl (sRl r 5 (lefS W (W * H))) 6 (rigS W (W * H)))) := by
  have h49 := WH49 hW7 hH
  intro n
  induction n with
  | zero =>
    intro y hy
    have e : y = H := by omega
    subst e
    refine ev_ift rfl rfl rfl (c_ge ((nI_leI (by omega) (by omega)).mpr (by omega))) ?_
    exact ev_rv rfl rfl
  | succ n ih =>
    intro y hy
    have hb : W * y + W ≤ 49 := by
      have : W * (y + 1) ≤ W * H := Nat.mul_le_mul_left W (by omega)
      rw [Nat.mul_succ] at this
      omega
    refine ev_iff rfl rfl rfl (d_ge (nI_lt3 (by omega) (by omega) (by omega))) ?_
    repeat (first | refine ev_gos 99 rfl ?_ | refine ev_gf2 rfl rfl rfl rfl ?_ | refine ev_gf2 rfl rfl HH_land rfl ?_ | refine ev_gf2 rfl rfl HH_draft rfl ?_ | refine ev_gf2 rfl rfl (by with_reducible assumption) rfl ?_)
    refine pDl_5 rfl ?_
    refine (?_ : Ek sc d m_L_measure 42 _ _ (DR w s l A B (sRl (sRl (sRl r 5 (lefS W (W * y))) 6 (rigS W (W * y))) 5 (lefS W (W * y) ||| (1 : Int64) <<< ((nI W * nI y).toInt64 &&& 63)))) _ _ _ _)
    rw [pk_mul, show (1 : Int64) <<< ((nI (W * y)).toInt64 &&& 63) = bit (W * y) from rfl, lef_s hW hb, sRl_comm _ (p := 6) (q := 5) rfl, sRl_up]
    repeat (first | refine ev_gos 99 rfl ?_ | refine ev_gf2 rfl rfl rfl rfl ?_ | refine ev_gf2 rfl rfl HH_land rfl ?_ | refine ev_gf2 rfl rfl HH_draft rfl ?_ | refine ev_gf2 rfl rfl (by with_reducible assumption) rfl ?_)
    refine pDl_6 rfl ?_
    refine (?_ : Ek sc d m_L_measure 60 _ _ (DR w s l A B (sRl (sRl (sRl r 5 (lefS W (W * (y + 1)))) 6 (rigS W (W * y))) 6 (rigS W (W * y) ||| (1 : Int64) <<< ((nI W * nI y + nI W - 1).toInt64 &&& 63)))) _ _ _ _)
    rw [pk_mul, nI_add, show (1 : Int32) = nI 1 from rfl, pk_sub (by omega), show (1 : Int64) <<< ((nI (W * y + W - 1)).toInt64 &&& 63) = bit (W * y + W - 1) from rfl, rig_s hW hb, sRl_up]
    repeat (first | refine ev_gos 99 rfl ?_ | refine ev_gf2 rfl rfl rfl rfl ?_ | refine ev_gf2 rfl rfl HH_land rfl ?_ | refine ev_gf2 rfl rfl HH_draft rfl ?_ | refine ev_gf2 rfl rfl (by with_reducible assumption) rfl ?_)
    have h3 := ih (y + 1) (by omega)
    rw [← nI_1] at h3
    exact h3
theorem e_measure (hW : 1 ≤ W) (hW7 : W ≤ 7) (hH : H ≤ 7) (h5 : r.2.1 5 = 0) (h6 : r.2.1 6 = 0) : Ev sc d m_L_measure 0 (iniL 4 [.ref (wL (!w)), .int (nI W), .int (nI H)]) [] (DR w s l A B r) none (DR w s l A B (msR r W H)) := by
  have h49 := WH49 hW7 hH
  refine ev_gos 99 rfl ?_
  refine pD_19 rfl ?_
  refine ev_gos 99 rfl ?_
  refine pD_20 rfl ?_
  refine ev_gos 99 rfl ?_
  refine pDl_4 rfl ?_
  refine (?_ : Ek sc d m_L_measure 21 _ _ (DR w s l A B (sRl (sR (sR r 19 (nI W)) 20 (nI H)) 4 ((1 : Int64) <<< ((nI W * nI H).toInt64 &&& 63) - 1))) _ _ _ _)
  rw [pk_mul, show (1 : Int64) <<< ((nI (W * H)).toInt64 &&& 63) - 1 = bit (W * H) - 1 from rfl, all_eq h49]
  repeat (first | refine ev_gos 99 rfl ?_ | refine ev_gf2 rfl rfl rfl rfl ?_ | refine ev_gf2 rfl rfl HH_land rfl ?_ | refine ev_gf2 rfl rfl HH_draft rfl ?_ | refine ev_gf2 rfl rfl (by with_reducible assumption) rfl ?_)
  have h3 := e_measure_loop (sc := sc) (d := d) (w := w) (s := s) (l := l) (A := A) (B := B) (r := sRl (sR (sR r 19 (nI W)) 20 (nI H)) 4 (allS (W * H))) hW hW7 hH H 0 (Nat.zero_add H)
  rw [Nat.mul_zero, lef_0, rig_0, sRl_id (p := 5) (by exact h5), sRl_id (p := 6) (by exact h6)] at h3
  exact h3
theorem e_draw_in (hW7 : W ≤ 7) (hH : H ≤ 7) (h19 : r.1 19 = nI W) (h20 : r.1 20 = nI H) (h4 : r.2.1 4 = allS (W * H)) (h5 : r.2.1 5 = lefS W (W * H)) (h6 : r.2.1 6 = rigS W (W * H)) {k : Nat} (hk : k < 5) (b : Nat → Int64) {h' : AHp} (hout : Ev sc (d + 2) m_L_drawShapes 4 [some (.ref (wL (!w))), some (.int (nI (k + 1))), none] [.int 5, .int (nI (k + 1))] (DR w s l A B (sRb r (dsK W (W * H) (r.2.1 7) k b))) none h') : ∀ (n c : Nat), c + n = W * H → Ev sc (d + 2) m_L_drawShapes 11 [some (.ref (wL (!w))), some (.int (nI k)), some (.int (nI c))] [.ref (wL (!w)), .int (nI c)] (DR w s l A B (sRb r (fo (dsC W (W * H) (r.2.1 7) k) c b))) none h' := by
  have h49 := WH49 hW7 hH
  have hcells : r.1 19 * r.1 20 = nI (W * H) := by rw [h19, h20, pk_mul]
  intro n
  induction n with
  | zero =>
    intro c hc
    have e : c = W * H := by omega
    subst e
    refine ev_cv rfl rfl HH_draft (e_cells HH_draft) ?_
    refine ev_ift rfl rfl rfl (c_ge (by show r.1 19 * r.1 20 ≤ nI (W * H); rw [hcells]; exact (nI_leI (by omega) (by omega)).mpr (by omega))) ?_
    repeat (first | refine ev_gos 99 rfl ?_ | refine ev_gf2 rfl rfl rfl rfl ?_ | refine ev_gf2 rfl rfl HH_land rfl ?_ | refine ev_gf2 rfl rfl HH_draft rfl ?_ | refine ev_gf2 rfl rfl (by with_reducible assumption) rfl ?_)
    have h3 := hout
    rw [← nI_1] at h3
    exact ev_wk2 h3 rfl (by repeat' (first | exact trivial | refine ⟨rfl, ?_⟩))
  | succ n ih =>
    intro c hc
    refine ev_cv rfl rfl HH_draft (e_cells HH_draft) ?_
    refine ev_iff rfl rfl rfl (d_ge (by show ¬ r.1 19 * r.1 20 ≤ nI c; rw [hcells]; exact nI_lt3 (by omega) (by omega) (by omega))) ?_
    repeat (first | refine ev_gos 99 rfl ?_ | refine ev_gf2 rfl rfl rfl rfl ?_ | refine ev_gf2 rfl rfl HH_land rfl ?_ | refine ev_gf2 rfl rfl HH_draft rfl ?_ | refine ev_gf2 rfl rfl (by with_reducible assumption) rfl ?_)
    refine ev_iff rfl rfl rfl (d_ge (nI_lt3 (b := 49) (by omega) (by omega) (by omega))) ?_
    repeat (first | refine ev_gos 99 rfl ?_ | refine ev_gf2 rfl rfl rfl rfl ?_ | refine ev_gf2 rfl rfl HH_land rfl ?_ | refine ev_gf2 rfl rfl HH_draft rfl ?_ | refine ev_gf2 rfl rfl (by with_reducible assumption) rfl ?_)
    refine ev_cv rfl rfl HH_draft (e_drawnShape (sc := sc) (h := DR w s l A B (sRb r (fo (dsC W (W * H) (r.2.1 7) k) c b))) (W := W) (N := W * H) (p := wL (!w)) (pk := wK (!w)) (ps := wS (!w)) (xw := r.1 19) (xh := r.1 20) (xp := r.1 21) (tw := r.1 22) (al := r.2.1 4) (le := r.2.1 5) (re := r.2.1 6) (rk := r.2.1 7) HH_draft h19 h4 h5 h6 rfl hk) ?_
    have e1 : nI k * 49 + nI c = nI (k * 49 + c) := by rw [show (49 : Int32) = nI 49 from rfl, pk_mul, nI_add]
    refine sD_b (r := sRb r (fo (dsC W (W * H) (r.2.1 7) k) c b)) rfl (by show inB (nI k * 49 + nI c) 245 = true; rw [e1]; exact inI (by omega) (by decide)) ?_
    refine (?_ : Ek sc (d + 2) m_L_drawShapes 40 _ _ (DR w s l A B (sRb r (vp_updL (fo (dsC W (W * H) (r.2.1 7) k) c b) (nI k * 49 + nI c).toNatClampNeg (drwS W (W * H) (r.2.1 7) k c)))) _ _ _ _)
    rw [e1, nI_clamp (by omega)]
    repeat (first | refine ev_gos 99 rfl ?_ | refine ev_gf2 rfl rfl rfl rfl ?_ | refine ev_gf2 rfl rfl HH_land rfl ?_ | refine ev_gf2 rfl rfl HH_draft rfl ?_ | refine ev_gf2 rfl rfl (by with_reducible assumption) rfl ?_)
    have h3 := ih (c + 1) (by omega)
    rw [← nI_1] at h3
    exact h3
theorem e_draw_out (hW7 : W ≤ 7) (hH : H ≤ 7) (h19 : r.1 19 = nI W) (h20 : r.1 20 = nI H) (h4 : r.2.1 4 = allS (W * H)) (h5 : r.2.1 5 = lefS W (W * H)) (h6 : r.2.1 6 = rigS W (W * H)) (b : Nat → Int64) : ∀ (n k : Nat), k + n = 5 → Ev sc (d + 2) m_L_drawShapes 4 [some (.ref (wL (!w))), some (.int (nI k)), none] [.int 5, .int (nI k)] (DR w s l A B (sRb r (fo (dsK W (W * H) (r.2.1 7)) k b))) none (DR w s l A B (sRb r (fo (dsK W (W * H) (r.2.1 7)) 5 b))) := by
  intro n
  induction n with
  | zero =>
    intro k hk
    have e : k = 5 := by omega
    subst e
    refine ev_ift rfl rfl rfl (c_ge (by decide : (5 : Int32) ≤ nI 5)) ?_
    exact ev_rv rfl rfl
  | succ n ih =>
    intro k hk
    refine ev_iff rfl rfl rfl (d_ge (nI_lt3 (b := 5) (by omega) (by omega) (by omega))) ?_
    repeat (first | refine ev_gos 99 rfl ?_ | refine ev_gf2 rfl rfl rfl rfl ?_ | refine ev_gf2 rfl rfl HH_land rfl ?_ | refine ev_gf2 rfl rfl HH_draft rfl ?_ | refine ev_gf2 rfl rfl (by with_reducible assumption) rfl ?_)
    exact e_draw_in hW7 hH h19 h20 h4 h5 h6 (k := k) (by omega) (fo (dsK W (W * H) (r.2.1 7)) k b) (ih (k + 1) (by omega)) (W * H) 0 (Nat.zero_add _)
theorem e_drawShapes (hW7 : W ≤ 7) (hH : H ≤ 7) (h19 : r.1 19 = nI W) (h20 : r.1 20 = nI H) (h4 : r.2.1 4 = allS (W * H)) (h5 : r.2.1 5 = lefS W (W * H)) (h6 : r.2.1 6 = rigS W (W * H)) : Ev sc (d + 2) m_L_drawShapes 0 (iniL 3 [.ref (wL (!w))]) [] (DR w s l A B r) none (DR w s l A B (sRb r (fo (dsK W (W * H) (r.2.1 7)) 5 r.2.2.2))) := by
  repeat (first | refine ev_gos 99 rfl ?_ | refine ev_gf2 rfl rfl rfl rfl ?_ | refine ev_gf2 rfl rfl HH_land rfl ?_ | refine ev_gf2 rfl rfl HH_draft rfl ?_ | refine ev_gf2 rfl rfl (by with_reducible assumption) rfl ?_)
  exact e_draw_out (r := r) hW7 hH h19 h20 h4 h5 h6 r.2.2.2 5 0 rfl
end DFT
end
section
/-! the reader: clauses -/
def nV (t : Nat → Int32) (n i : Nat) : Int32 := vlN t (skN t n i) (dgN t n (skN t n i) - skN t n i)
def nE (t : Nat → Int32) (n i : Nat) : Nat := dgN t n (skN t n i)
def nmC (t : Nat → Int32) (n i : Nat) (x y : Int32) : Nat := if nE t n i = skN t n i then 1 else if 3 < nE t n i - skN t n i ∨ nV t n i < x ∨ y < nV t n i then 2 else 0
def enC (t : Nat → Int32) (n i : Nat) : Nat := if skN t n i < n ∧ t (skN t n i) = 59 then 0 else 1
theorem nE_b (t : Nat → Int32) {n i : Nat} (h : i ≤ n) : skN t n i ≤ nE t n i ∧ nE t n i ≤ n := dgN_b t (skN_b t h).2
theorem cm_facts (r : RS) (a b : Int32) : (cmR r a b).1 1 = (if r.1 1 = 0 then a else r.1 1) ∧ (cmR r a b).1 2 = (if r.1 1 = 0 then b else r.1 2) ∧ (∀ q, ¬ q = 1 → ¬ q = 2 → (cmR r a b).1 q = r.1 q) ∧ (cmR r a b).2 = r.2 := by
  unfold cmR
  by_cases h : r.1 1 = 0
  · rw [if_pos h, if_pos h, if_pos h]
    exact ⟨rfl, rfl, fun q h1 h2 => by show upA (upA r.1 1 a) 2 b q = _; rw [upA_ne _ _ h2, upA_ne _ _ h1], rfl⟩
  · rw [if_neg h, if_neg h, if_neg h]
    exact ⟨rfl, rfl, fun _ _ _ => rfl, rfl⟩
theorem nm_eq (t : Nat → Int32) (n : Nat) (r : RS) (i : Nat) (x y : Int32) : nmR t n r i x y = if nmC t n i x y = 0 then sR (sR r 4 (nI (skN t n i))) 3 (nI (nE t n i)) else cmR (sR (sR r 4 (nI (skN t n i))) 3 (nI (nE t n i))) (nI (nmC t n i x y)) (nI (skN t n i)) := by
  have e0 : nmR t n r i x y = if nE t n i = skN t n i then cmR (sR (sR r 4 (nI (skN t n i))) 3 (nI (nE t n i))) 1 (nI (nE t n i)) else if 3 < nE t n i - skN t n i ∨ nV t n i < x ∨ y < nV t n i then cmR (sR (sR r 4 (nI (skN t n i))) 3 (nI (nE t n i))) 2 (nI (skN t n i)) else sR (sR r 4 (nI (skN t n i))) 3 (nI (nE t n i)) := rfl
  rw [e0]
  unfold nmC
  by_cases h : nE t n i = skN t n i
  · rw [if_pos h, if_pos h, if_neg (by decide), h]
    rfl
  · rw [if_neg h, if_neg h]
    by_cases h2 : 3 < nE t n i - skN t n i ∨ nV t n i < x ∨ y < nV t n i
    · rw [if_pos h2, if_pos h2, if_neg (by decide)]
      rfl
    · rw [if_neg h2, if_neg h2, if_pos rfl]
theorem nmC_lt (t : Nat → Int32) (n i : Nat) (x y : Int32) : nmC t n i x y < 3 := by
  unfold nmC
  split
  · decide
  · split <;> decide
theorem nm_fn (t : Nat → Int32) (n : Nat) (r : RS) (i : Nat) (x y : Int32) : (nmR t n r i x y).1 1 = if r.1 1 = 0 then nI (nmC t n i x y) else r.1 1 := by
  rw [nm_eq]
  by_cases h : nmC t n i x y = 0
  · rw [if_pos h, h]
    show r.1 1 = _
    split
    · assumption
    · rfl
  · rw [if_neg h, (cm_facts _ _ _).1]
    rfl
theorem nm_fp (t : Nat → Int32) (n : Nat) (r : RS) (i : Nat) (x y : Int32) : (nmR t n r i x y).1 2 = if r.1 1 = 0 ∧ ¬ nmC t n i x y = 0 then nI (skN t n i) else r.1 2 := by
  rw [nm_eq]
  by_cases h : nmC t n i x y = 0
  · rw [if_pos h, if_neg (fun z => z.2 h)]
    rfl
  · rw [if_neg h, (cm_facts _ _ _).2.1]
    show (if r.1 1 = 0 then nI (skN t n i) else r.1 2) = _
    by_cases h2 : r.1 1 = 0
    · rw [if_pos h2, if_pos (show r.1 1 = 0 ∧ ¬ nmC t n i x y = 0 from ⟨h2, h⟩)]
    · rw [if_neg h2, if_neg (show ¬ (r.1 1 = 0 ∧ ¬ nmC t n i x y = 0) from fun z => h2 z.1)]
theorem nm_q (t : Nat → Int32) (n : Nat) (r : RS) (i : Nat) (x y : Int32) {q : Nat} (h1 : ¬ q = 1) (h2 : ¬ q = 2) (h3 : ¬ q = 3) (h4 : ¬ q = 4) : (nmR t n r i x y).1 q = r.1 q := by
  have e : (sR (sR r 4 (nI (skN t n i))) 3 (nI (nE t n i))).1 q = r.1 q := by
    show upA (upA r.1 4 _) 3 _ q = _
    rw [upA_ne _ _ h3, upA_ne _ _ h4]
  rw [nm_eq]
  split
  · exact e
  · rw [(cm_facts _ _ _).2.2.1 q h1 h2, e]
theorem nm_pl (t : Nat → Int32) (n : Nat) (r : RS) (i : Nat) (x y : Int32) : (nmR t n r i x y).1 3 = nI (nE t n i) := by
  rw [nm_eq]
  split
  · rfl
  · rw [(cm_facts _ _ _).2.2.1 3 (by decide) (by decide)]
    rfl
theorem nm_np (t : Nat → Int32) (n : Nat) (r : RS) (i : Nat) (x y : Int32) : (nmR t n r i x y).1 4 = nI (skN t n i) := by
  rw [nm_eq]
  split
  · rfl
  · rw [(cm_facts _ _ _).2.2.1 4 (by decide) (by decide)]
    rfl
theorem nm_2 (t : Nat → Int32) (n : Nat) (r : RS) (i : Nat) (x y : Int32) : (nmR t n r i x y).2 = r.2 := by
  rw [nm_eq]
  split
  · rfl
  · rw [(cm_facts _ _ _).2.2.2]
    rfl
theorem nm_ok {t : Nat → Int32} {n : Nat} {r : RS} {i : Nat} {x y : Int32} (h : (nmR t n r i x y).1 1 = 0) : r.1 1 = 0 ∧ nmC t n i x y = 0 := by
  rw [nm_fn] at h
  by_cases h1 : r.1 1 = 0
  · rw [if_pos h1] at h
    exact ⟨h1, (nI_eq (b := 0) (by have := nmC_lt t n i x y; omega) (by decide)).mp h⟩
  · rw [if_neg h1] at h
    exact absurd h h1
theorem nm_rng {t : Nat → Int32} {n i : Nat} {x y : Int32} (h : nmC t n i x y = 0) : ¬ nV t n i < x ∧ ¬ y < nV t n i := by
  unfold nmC at h
  by_cases h1 : nE t n i = skN t n i
  · rw [if_pos h1] at h
    cases h
  · rw [if_neg h1] at h
    by_cases h2 : 3 < nE t n i - skN t n i ∨ nV t n i < x ∨ y < nV t n i
    · rw [if_pos h2] at h
      cases h
    · exact ⟨fun z => h2 (Or.inr (Or.inl z)), fun z => h2 (Or.inr (Or.inr z))⟩
theorem rngN {v : Int32} {a b : Nat} (ha : a < 2 ^ 31) (hb : b < 2 ^ 31) (h1 : ¬ v < nI a) (h2 : ¬ nI b < v) : ∃ k, a ≤ k ∧ k ≤ b ∧ v = nI k := by
  rw [Int32.lt_iff_toInt_lt, nI_toInt ha] at h1
  rw [Int32.lt_iff_toInt_lt, nI_toInt hb] at h2
  obtain ⟨k, k1, k2⟩ := nI_of (x := v) (by rw [Int32.lt_iff_toInt_lt]; show ¬ v.toInt < 0; omega)
  rw [k2, nI_toInt k1] at h1 h2
  exact ⟨k, by omega, by omega, k2⟩
def sdR (t : Nat → Int32) (n : Nat) (r : RS) (i : Nat) : RS :=
  let r1 := if r.1 19 = 0 then r else cmR r 3 (nI (i - 1))
  let r2 := nmR t n r1 i 2 7
  let r3 := nmR t n r2 (nE t n i) 2 7
  if r3.1 1 = 0 then msR r3 (nV t n i).toNatClampNeg (nV t n (nE t n i)).toNatClampNeg else r3
def psR (t : Nat → Int32) (n : Nat) (r : RS) (i : Nat) : RS :=
  let r1 := if r.1 21 < 7 then r else cmR r 3 (nI (i - 1))
  let r2 := nmR t n r1 i 0 4
  if r2.1 1 = 0 then sR (sRk r2 (upd r.2.2.1 (r.1 21).toNatClampNeg (nV t n i))) 21 (r.1 21 + 1) else r2
def wdR (t : Nat → Int32) (n : Nat) (r : RS) (i : Nat) : RS :=
  let r1 := if r.1 5 = 0 then r else cmR r 3 (nI (i - 1))
  let r2 := nmR t n r1 i 0 4
  if r2.1 1 = 0 then sR (sR r2 22 (nV t n i)) 5 1 else r2
def adR (r : RS) (x : Int64) : RS := sRl (if r.2.1 7 &&& x = 0 then r else cmR r 4 (r.1 4)) 7 (r.2.1 7 ||| x)
def rkR (t : Nat → Int32) (n : Nat) (r : RS) (i : Nat) : RS :=
  let r1 := if pop (r.2.1 7) < 8 then r else cmR r 3 (nI (i - 1))
  let r2 := nmR t n r1 i 0 (r.1 19 - 1)
  let r3 := nmR t n r2 (nE t n i) 0 (r.1 20 - 1)
  if r3.1 1 = 0 then adR r3 ((1 : Int64) <<< ((r.1 19 * nV t n (nE t n i) + nV t n i).toInt64 &&& 63)) else r3
section CLS
variable {sc : Scr} {d : Nat} {w : Bool} {s : Nat → Int32} {l : Nat → Int64} {A : Nat → Nat → Int32} {B : Nat → Nat → Int64} {r : RS} {t : Nat → Int32} {n : Nat}
theorem nv_0 {i : Nat} {x y : Int32} (h : (nmR t n r i x y).1 1 = 0) : nvR t n r i x y = nV t n i := by
  unfold nvR
  rw [if_pos h]
  rfl
theorem e_readSides (ht : A 2 = t) (hs : s 0 = nI n) (hn : n ≤ 240) {i : Nat} (h1 : 1 ≤ i) (hi : i ≤ n) (hp : r.1 3 = nI i) (h5 : r.1 19 = 0 → r.2.1 5 = 0 ∧ r.2.1 6 = 0) : Ev sc (d + 2) m_R_readSides 0 (iniL 4 [.ref 1, .ref (wL (!w))]) [] (DR w s l A B r) none (DR w s l A B (sdR t n r i)) := by
  have key : ∀ r1 : RS, r1.1 3 = nI i → (r1.1 1 = 0 → r1.2.1 5 = 0 ∧ r1.2.1 6 = 0) → Ev sc (d + 2) m_R_readSides 18 (iniL 4 [.ref 1, .ref (wL (!w))]) [] (DR w s l A B r1) none (DR w s l A B (let r2 := nmR t n r1 i 2 7; let r3 := nmR t n r2 (nE t n i) 2 7; if r3.1 1 = 0 then msR r3 (nV t n i).toNatClampNeg (nV t n (nE t n i)).toNatClampNeg else r3)) := by
    intro r1 hp1 h51
    have he := nE_b t hi
    repeat (first | refine ev_gos 99 rfl ?_ | refine ev_gf2 rfl rfl rfl rfl ?_ | refine ev_gf2 rfl rfl HH_land rfl ?_ | refine ev_gf2 rfl rfl HH_draft rfl ?_ | refine ev_gf2 rfl rfl (by with_reducible assumption) rfl ?_)
    refine ev_cv rfl rfl rfl (e_readNumber ht hs hn hi hp1 2 7) ?_
    repeat (first | refine ev_gos 99 rfl ?_ | refine ev_gf2 rfl rfl rfl rfl ?_ | refine ev_gf2 rfl rfl HH_land rfl ?_ | refine ev_gf2 rfl rfl HH_draft rfl ?_ | refine ev_gf2 rfl rfl (by with_reducible assumption) rfl ?_)
    refine ev_cv rfl rfl rfl (e_readNumber ht hs hn (i := nE t n i) he.2 (nm_pl _ _ _ _ _ _) 2 7) ?_
    repeat (first | refine ev_gos 99 rfl ?_ | refine ev_gf2 rfl rfl rfl rfl ?_ | refine ev_gf2 rfl rfl HH_land rfl ?_ | refine ev_gf2 rfl rfl HH_draft rfl ?_ | refine ev_gf2 rfl rfl (by with_reducible assumption) rfl ?_)
    dsimp only
    by_cases h0 : (nmR t n (nmR t n r1 i 2 7) (nE t n i) 2 7).1 1 = 0
    · rw [if_pos h0]
      refine ev_iff rfl rfl rfl (j_ne h0) ?_
      obtain ⟨o1, o2⟩ := nm_ok h0
      obtain ⟨o3, o4⟩ := nm_ok o1
      obtain ⟨a, a1, a2, a3⟩ := rngN (v := nV t n i) (a := 2) (b := 7) (by decide) (by decide) (nm_rng o4).1 (nm_rng o4).2
      obtain ⟨b, b1, b2, b3⟩ := rngN (v := nV t n (nE t n i)) (a := 2) (b := 7) (by decide) (by decide) (nm_rng o2).1 (nm_rng o2).2
      rw [nv_0 o1, nv_0 h0, a3, b3, nI_clamp (by omega), nI_clamp (by omega)]
      repeat (first | refine ev_gos 99 rfl ?_ | refine ev_gf2 rfl rfl rfl rfl ?_ | refine ev_gf2 rfl rfl HH_land rfl ?_ | refine ev_gf2 rfl rfl HH_draft rfl ?_ | refine ev_gf2 rfl rfl (by with_reducible assumption) rfl ?_)
      refine ev_cv rfl rfl HH_draft (e_measure (W := a) (H := b) (by omega) a2 b2 (by rw [nm_2, nm_2]; exact (h51 o3).1) (by rw [nm_2, nm_2]; exact (h51 o3).2)) ?_
      exact ev_rv rfl rfl
    · rw [if_neg h0]
      refine ev_ift rfl rfl rfl (i_ne h0) ?_
      exact ev_rv rfl rfl
  unfold sdR
  repeat (first | refine ev_gos 99 rfl ?_ | refine ev_gf2 rfl rfl rfl rfl ?_ | refine ev_gf2 rfl rfl HH_land rfl ?_ | refine ev_gf2 rfl rfl HH_draft rfl ?_ | refine ev_gf2 rfl rfl (by with_reducible assumption) rfl ?_)
  by_cases h0 : r.1 19 = 0
  · rw [if_pos h0]
    refine ev_ift rfl rfl rfl (i_eq h0) ?_
    exact key r hp (fun _ => h5 h0)
  · rw [if_neg h0]
    refine ev_iff rfl rfl rfl (j_eq h0) ?_
    repeat (first | refine ev_gos 99 rfl ?_ | refine ev_gf2 rfl rfl rfl rfl ?_ | refine ev_gf2 rfl rfl HH_land rfl ?_ | refine ev_gf2 rfl rfl HH_draft rfl ?_ | refine ev_gf2 rfl rfl (by with_reducible assumption) rfl ?_)
    refine ev_cv rfl rfl rfl (e_complain 3 (r.1 3 - 1)) ?_
    have e : r.1 3 - 1 = nI (i - 1) := by rw [hp, show (1 : Int32) = nI 1 from rfl, pk_sub h1]
    rw [e]
    exact key (cmR r 3 (nI (i - 1))) (by rw [(cm_facts _ _ _).2.2.1 3 (by decide) (by decide)]; exact hp) (fun z => absurd z (cm_fn r _ (by decide)))
theorem e_readPerson (ht : A 2 = t) (hs : s 0 = nI n) (hn : n ≤ 240) {i P : Nat} (h1 : 1 ≤ i) (hi : i ≤ n) (hp : r.1 3 = nI i) (hP : r.1 21 = nI P) (hP7 : P ≤ 7) : Ev sc (d + 2) m_R_readPerson 0 (iniL 3 [.ref 1, .ref (wL (!w))]) [] (DR w s l A B r) none (DR w s l A B (psR t n r i)) := by
  have key : ∀ r1 : RS, r1.1 3 = nI i → r1.1 21 = r.1 21 → r1.2 = r.2 → (r1.1 1 = 0 → P < 7) → Ev sc (d + 2) m_R_readPerson 20 (iniL 3 [.ref 1, .ref (wL (!w))]) [] (DR w s l A B r1) none (DR w s l A B (let r2 := nmR t n r1 i 0 4; if r2.1 1 = 0 then sR (sRk r2 (upd r.2.2.1 (r.1 21).toNatClampNeg (nV t n i))) 21 (r.1 21 + 1) else r2)) := by
    intro r1 hp1 h21 h2 h51
    repeat (first | refine ev_gos 99 rfl ?_ | refine ev_gf2 rfl rfl rfl rfl ?_ | refine ev_gf2 rfl rfl HH_land rfl ?_ | refine ev_gf2 rfl rfl HH_draft rfl ?_ | refine ev_gf2 rfl rfl (by with_reducible assumption) rfl ?_)
    refine ev_cv rfl rfl rfl (e_readNumber ht hs hn hi hp1 0 4) ?_
    repeat (first | refine ev_gos 99 rfl ?_ | refine ev_gf2 rfl rfl rfl rfl ?_ | refine ev_gf2 rfl rfl HH_land rfl ?_ | refine ev_gf2 rfl rfl HH_draft rfl ?_ | refine ev_gf2 rfl rfl (by with_reducible assumption) rfl ?_)
    dsimp only
    have e21 : (nmR t n r1 i 0 4).1 21 = r.1 21 := by rw [nm_q _ _ _ _ _ _ (by decide) (by decide) (by decide) (by decide), h21]
    by_cases h0 : (nmR t n r1 i 0 4).1 1 = 0
    · rw [if_pos h0]
      refine ev_iff rfl rfl rfl (j_ne h0) ?_
      obtain ⟨o3, o4⟩ := nm_ok h0
      have hP6 := h51 o3
      repeat (first | refine ev_gos 99 rfl ?_ | refine ev_gf2 rfl rfl rfl rfl ?_ | refine ev_gf2 rfl rfl HH_land rfl ?_ | refine ev_gf2 rfl rfl HH_draft rfl ?_ | refine ev_gf2 rfl rfl (by with_reducible assumption) rfl ?_)
      refine sD_k rfl (by show inB ((nmR t n r1 i 0 4).1 21) 7 = true; rw [e21, hP]; exact inI hP6 (by decide)) ?_
      repeat (first | refine ev_gos 99 rfl ?_ | refine ev_gf2 rfl rfl rfl rfl ?_ | refine ev_gf2 rfl rfl HH_land rfl ?_ | refine ev_gf2 rfl rfl HH_draft rfl ?_ | refine ev_gf2 rfl rfl (by with_reducible assumption) rfl ?_)
      refine pD_21 rfl ?_
      refine ev_rv rfl ?_
      show DR w s l A B (sR (sRk (nmR t n r1 i 0 4) (upd (nmR t n r1 i 0 4).2.2.1 ((nmR t n r1 i 0 4).1 21).toNatClampNeg (nvR t n r1 i 0 4))) 21 ((nmR t n r1 i 0 4).1 21 + 1)) = _
      rw [e21, nv_0 h0, nm_2, h2]
    · rw [if_neg h0]
      refine ev_ift rfl rfl rfl (i_ne h0) ?_
      exact ev_rv rfl rfl
  unfold psR
  repeat (first | refine ev_gos 99 rfl ?_ | refine ev_gf2 rfl rfl rfl rfl ?_ | refine ev_gf2 rfl rfl HH_land rfl ?_ | refine ev_gf2 rfl rfl HH_draft rfl ?_ | refine ev_gf2 rfl rfl (by with_reducible assumption) rfl ?_)
  by_cases h0 : r.1 21 < 7
  · rw [if_pos h0]
    refine ev_ift rfl rfl rfl (c_lt h0) ?_
    exact key r hp rfl rfl (fun _ => by rw [hP] at h0; exact (nI_ltI (b := 7) (by omega) (by decide)).mp h0)
  · rw [if_neg h0]
    refine ev_iff rfl rfl rfl (d_lt h0) ?_
    repeat (first | refine ev_gos 99 rfl ?_ | refine ev_gf2 rfl rfl rfl rfl ?_ | refine ev_gf2 rfl rfl HH_land rfl ?_ | refine ev_gf2 rfl rfl HH_draft rfl ?_ | refine ev_gf2 rfl rfl (by with_reducible assumption) rfl ?_)
    refine ev_cv rfl rfl rfl (e_complain 3 (r.1 3 - 1)) ?_
    have e : r.1 3 - 1 = nI (i - 1) := by rw [hp, show (1 : Int32) = nI 1 from rfl, pk_sub h1]
    rw [e]
    exact key (cmR r 3 (nI (i - 1))) (by rw [(cm_facts _ _ _).2.2.1 3 (by decide) (by decide)]; exact hp) ((cm_facts _ _ _).2.2.1 21 (by decide) (by decide)) (cm_facts _ _ _).2.2.2 (fun z => absurd z (cm_fn r _ (by decide)))
theorem e_readWind (ht : A 2 = t) (hs : s 0 = nI n) (hn : n ≤ 240) {i : Nat} (h1 : 1 ≤ i) (hi : i ≤ n) (hp : r.1 3 = nI i) : Ev sc (d + 2) m_R_readWind 0 (iniL 3 [.ref 1, .ref (wL (!w))]) [] (DR w s l A B r) none (DR w s l A B (wdR t n r i)) := by
  have key : ∀ r1 : RS, r1.1 3 = nI i → Ev sc (d + 2) m_R_readWind 18 (iniL 3 [.ref 1, .ref (wL (!w))]) [] (DR w s l A B r1) none (DR w s l A B (let r2 := nmR t n r1 i 0 4; if r2.1 1 = 0 then sR (sR r2 22 (nV t n i)) 5 1 else r2)) := by
    intro r1 hp1
    repeat (first | refine ev_gos 99 rfl ?_ | refine ev_gf2 rfl rfl rfl rfl ?_ | refine ev_gf2 rfl rfl HH_land rfl ?_ | refine ev_gf2 rfl rfl HH_draft rfl ?_ | refine ev_gf2 rfl rfl (by with_reducible assumption) rfl ?_)
    refine ev_cv rfl rfl rfl (e_readNumber ht hs hn hi hp1 0 4) ?_
    repeat (first | refine ev_gos 99 rfl ?_ | refine ev_gf2 rfl rfl rfl rfl ?_ | refine ev_gf2 rfl rfl HH_land rfl ?_ | refine ev_gf2 rfl rfl HH_draft rfl ?_ | refine ev_gf2 rfl rfl (by with_reducible assumption) rfl ?_)
    dsimp only
    by_cases h0 : (nmR t n r1 i 0 4).1 1 = 0
    · rw [if_pos h0]
      refine ev_iff rfl rfl rfl (j_ne h0) ?_
      repeat (first | refine ev_gos 99 rfl ?_ | refine ev_gf2 rfl rfl rfl rfl ?_ | refine ev_gf2 rfl rfl HH_land rfl ?_ | refine ev_gf2 rfl rfl HH_draft rfl ?_ | refine ev_gf2 rfl rfl (by with_reducible assumption) rfl ?_)
      refine pD_22 rfl ?_
      repeat (first | refine ev_gos 99 rfl ?_ | refine ev_gf2 rfl rfl rfl rfl ?_ | refine ev_gf2 rfl rfl HH_land rfl ?_ | refine ev_gf2 rfl rfl HH_draft rfl ?_ | refine ev_gf2 rfl rfl (by with_reducible assumption) rfl ?_)
      refine pD_5 (Or.inr rfl) rfl ?_
      refine ev_rv rfl ?_
      show DR w s l A B (sR (sR (nmR t n r1 i 0 4) 22 (nvR t n r1 i 0 4)) 5 1) = _
      rw [nv_0 h0]
    · rw [if_neg h0]
      refine ev_ift rfl rfl rfl (i_ne h0) ?_
      exact ev_rv rfl rfl
  unfold wdR
  repeat (first | refine ev_gos 99 rfl ?_ | refine ev_gf2 rfl rfl rfl rfl ?_ | refine ev_gf2 rfl rfl HH_land rfl ?_ | refine ev_gf2 rfl rfl HH_draft rfl ?_ | refine ev_gf2 rfl rfl (by with_reducible assumption) rfl ?_)
  by_cases h0 : r.1 5 = 0
  · rw [if_pos h0]
    refine ev_ift rfl rfl rfl (i_eq h0) ?_
    exact key r hp
  · rw [if_neg h0]
    refine ev_iff rfl rfl rfl (j_eq h0) ?_
    repeat (first | refine ev_gos 99 rfl ?_ | refine ev_gf2 rfl rfl rfl rfl ?_ | refine ev_gf2 rfl rfl HH_land rfl ?_ | refine ev_gf2 rfl rfl HH_draft rfl ?_ | refine ev_gf2 rfl rfl (by with_reducible assumption) rfl ?_)
    refine ev_cv rfl rfl rfl (e_complain 3 (r.1 3 - 1)) ?_
    have e : r.1 3 - 1 = nI (i - 1) := by rw [hp, show (1 : Int32) = nI 1 from rfl, pk_sub h1]
    rw [e]
    exact key (cmR r 3 (nI (i - 1))) (by rw [(cm_facts _ _ _).2.2.1 3 (by decide) (by decide)]; exact hp)
theorem e_addRock (x : Int64) : Ev sc (d + 1) m_R_addRock 0 (iniL 4 [.ref 1, .ref (wL (!w)), .long x]) [] (DR w s l A B r) none (DR w s l A B (adR r x)) := by
  unfold adR
  repeat (first | refine ev_gos 99 rfl ?_ | refine ev_gf2 rfl rfl rfl rfl ?_ | refine ev_gf2 rfl rfl HH_land rfl ?_ | refine ev_gf2 rfl rfl HH_draft rfl ?_ | refine ev_gf2 rfl rfl (by with_reducible assumption) rfl ?_)
  by_cases h0 : r.2.1 7 &&& x = 0
  · rw [if_pos h0]
    refine ev_ift rfl rfl rfl (i_eq (lc_eq.mpr h0)) ?_
    repeat (first | refine ev_gos 99 rfl ?_ | refine ev_gf2 rfl rfl rfl rfl ?_ | refine ev_gf2 rfl rfl HH_land rfl ?_ | refine ev_gf2 rfl rfl HH_draft rfl ?_ | refine ev_gf2 rfl rfl (by with_reducible assumption) rfl ?_)
    refine pDl_7 rfl ?_
    exact ev_rv rfl rfl
  · rw [if_neg h0]
    refine ev_iff rfl rfl rfl (j_eq (fun z => h0 (lc_eq.mp z))) ?_
    repeat (first | refine ev_gos 99 rfl ?_ | refine ev_gf2 rfl rfl rfl rfl ?_ | refine ev_gf2 rfl rfl HH_land rfl ?_ | refine ev_gf2 rfl rfl HH_draft rfl ?_ | refine ev_gf2 rfl rfl (by with_reducible assumption) rfl ?_)
    refine ev_cv rfl rfl rfl (e_complain 4 (r.1 4)) ?_
    repeat (first | refine ev_gos 99 rfl ?_ | refine ev_gf2 rfl rfl rfl rfl ?_ | refine ev_gf2 rfl rfl HH_land rfl ?_ | refine ev_gf2 rfl rfl HH_draft rfl ?_ | refine ev_gf2 rfl rfl (by with_reducible assumption) rfl ?_)
    refine pDl_7 rfl ?_
    refine ev_rv rfl ?_
    show DR w s l A B (sRl (cmR r 4 (r.1 4)) 7 ((cmR r 4 (r.1 4)).2.1 7 ||| x)) = _
    rw [(cm_facts _ _ _).2.2.2]
theorem e_readRock (ht : A 2 = t) (hs : s 0 = nI n) (hn : n ≤ 240) {i : Nat} (h1 : 1 ≤ i) (hi : i ≤ n) (hp : r.1 3 = nI i) : Ev sc (d + 2) m_R_readRock 0 (iniL 4 [.ref 1, .ref (wL (!w))]) [] (DR w s l A B r) none (DR w s l A B (rkR t n r i)) := by
  have key : ∀ r1 : RS, r1.1 3 = nI i → r1.1 19 = r.1 19 → r1.1 20 = r.1 20 → Ev sc (d + 2) m_R_readRock 23 (iniL 4 [.ref 1, .ref (wL (!w))]) [] (DR w s l A B r1) none (DR w s l A B (let r2 := nmR t n r1 i 0 (r.1 19 - 1); let r3 := nmR t n r2 (nE t n i) 0 (r.1 20 - 1); if r3.1 1 = 0 then adR r3 ((1 : Int64) <<< ((r.1 19 * nV t n (nE t n i) + nV t n i).toInt64 &&& 63)) else r3)) := by
    intro r1 hp1 h19 h20
    have he := nE_b t hi
    repeat (first | refine ev_gos 99 rfl ?_ | refine ev_gf2 rfl rfl rfl rfl ?_ | refine ev_gf2 rfl rfl HH_land rfl ?_ | refine ev_gf2 rfl rfl HH_draft rfl ?_ | refine ev_gf2 rfl rfl (by with_reducible assumption) rfl ?_)
    refine ev_cv rfl rfl rfl (e_readNumber ht hs hn hi hp1 0 (r1.1 19 - 1)) ?_
    repeat (first | refine ev_gos 99 rfl ?_ | refine ev_gf2 rfl rfl rfl rfl ?_ | refine ev_gf2 rfl rfl HH_land rfl ?_ | refine ev_gf2 rfl rfl HH_draft rfl ?_ | refine ev_gf2 rfl rfl (by with_reducible assumption) rfl ?_)
    refine ev_cv rfl rfl rfl (e_readNumber ht hs hn (i := nE t n i) he.2 (nm_pl _ _ _ _ _ _) 0 ((nmR t n r1 i 0 (r1.1 19 - 1)).1 20 - 1)) ?_
    have e20 : (nmR t n r1 i 0 (r1.1 19 - 1)).1 20 = r.1 20 := by rw [nm_q _ _ _ _ _ _ (by decide) (by decide) (by decide) (by decide), h20]
    repeat (first | refine ev_gos 99 rfl ?_ | refine ev_gf2 rfl rfl rfl rfl ?_ | refine ev_gf2 rfl rfl HH_land rfl ?_ | refine ev_gf2 rfl rfl HH_draft rfl ?_ | refine ev_gf2 rfl rfl (by with_reducible assumption) rfl ?_)
    dsimp only
    rw [e20, h19]
    by_cases h0 : (nmR t n (nmR t n r1 i 0 (r.1 19 - 1)) (nE t n i) 0 (r.1 20 - 1)).1 1 = 0
    · rw [if_pos h0]
      refine ev_iff rfl rfl rfl (j_ne h0) ?_
      obtain ⟨o1, o2⟩ := nm_ok h0
      rw [nv_0 o1, nv_0 h0]
      repeat (first | refine ev_gos 99 rfl ?_ | refine ev_gf2 rfl rfl rfl rfl ?_ | refine ev_gf2 rfl rfl HH_land rfl ?_ | refine ev_gf2 rfl rfl HH_draft rfl ?_ | refine ev_gf2 rfl rfl (by with_reducible assumption) rfl ?_)
      refine ev_cv rfl rfl rfl (e_addRock _) ?_
      refine ev_rv rfl ?_
      show DR w s l A B (adR _ ((1 : Int64) <<< (((nmR t n (nmR t n r1 i 0 (r.1 19 - 1)) (nE t n i) 0 (r.1 20 - 1)).1 19 * nV t n (nE t n i) + nV t n i).toInt64 &&& 63))) = _
      rw [nm_q _ _ _ _ _ _ (by decide) (by decide) (by decide) (by decide), nm_q _ _ _ _ _ _ (by decide) (by decide) (by decide) (by decide), h19]
    · rw [if_neg h0]
      refine ev_ift rfl rfl rfl (i_ne h0) ?_
      exact ev_rv rfl rfl
  unfold rkR
  repeat (first | refine ev_gos 99 rfl ?_ | refine ev_gf2 rfl rfl rfl rfl ?_ | refine ev_gf2 rfl rfl HH_land rfl ?_ | refine ev_gf2 rfl rfl HH_draft rfl ?_ | refine ev_gf2 rfl rfl (by with_reducible assumption) rfl ?_)
  refine ev_cs rfl rfl rfl (e_bitCountL sc _ _ _) ?_
  repeat (first | refine ev_gos 99 rfl ?_ | refine ev_gf2 rfl rfl rfl rfl ?_ | refine ev_gf2 rfl rfl HH_land rfl ?_ | refine ev_gf2 rfl rfl HH_draft rfl ?_ | refine ev_gf2 rfl rfl (by with_reducible assumption) rfl ?_)
  have hpo := pop_le (r.2.1 7)
  by_cases h0 : pop (r.2.1 7) < 8
  · rw [if_pos h0]
    refine ev_ift rfl rfl rfl (c_lt ((nI_ltI (a := pop (r.2.1 7)) (b := 8) (by omega) (by decide)).mpr h0)) ?_
    exact key r hp rfl rfl
  · rw [if_neg h0]
    refine ev_iff rfl rfl rfl (d_lt (fun z => h0 ((nI_ltI (a := pop (r.2.1 7)) (b := 8) (by omega) (by decide)).mp z))) ?_
    repeat (first | refine ev_gos 99 rfl ?_ | refine ev_gf2 rfl rfl rfl rfl ?_ | refine ev_gf2 rfl rfl HH_land rfl ?_ | refine ev_gf2 rfl rfl HH_draft rfl ?_ | refine ev_gf2 rfl rfl (by with_reducible assumption) rfl ?_)
    refine ev_cv rfl rfl rfl (e_complain 3 (r.1 3 - 1)) ?_
    have e : r.1 3 - 1 = nI (i - 1) := by rw [hp, show (1 : Int32) = nI 1 from rfl, pk_sub h1]
    rw [e]
    exact key (cmR r 3 (nI (i - 1))) (by rw [(cm_facts _ _ _).2.2.1 3 (by decide) (by decide)]; exact hp) ((cm_facts _ _ _).2.2.1 19 (by decide) (by decide)) ((cm_facts _ _ _).2.2.1 20 (by decide) (by decide))
end CLS
end
section
/-! the reader: a whole text -/
theorem sw_out {dd lo hi : Int} {offs : Array Int} {pc : Nat} {x : Int32} (h : x.toInt < lo ∨ hi < x.toInt) : swT (.tableswitch dd lo hi offs) pc x = some ((pc : Int) + dd).toNat := by
  show (bif decide (x.toInt < lo) || decide (hi < x.toInt) then some ((pc : Int) + dd).toNat else _) = _
  rcases h with h | h
  · rw [decide_eq_true h]
    rfl
  · rw [decide_eq_true h, Bool.or_true]
    rfl
def clzR (t : Nat → Int32) (n : Nat) (r : RS) (i : Nat) : RS :=
  if ¬ t i = 110 ∧ r.1 19 = 0 then cmR r 1 (nI i) else
  if t i = 110 then endR t n (sdR t n (sR r 3 (nI (i + 1))) (i + 1)) (nE t n (nE t n (i + 1))) else
  if t i = 112 then endR t n (psR t n (sR r 3 (nI (i + 1))) (i + 1)) (nE t n (i + 1)) else
  if t i = 119 then endR t n (wdR t n (sR r 3 (nI (i + 1))) (i + 1)) (nE t n (i + 1)) else
  if t i = 114 then endR t n (rkR t n (sR r 3 (nI (i + 1))) (i + 1)) (nE t n (nE t n (i + 1))) else
  endR t n (cmR (sR r 3 (nI (i + 1))) 1 (nI i)) (i + 1)
/-- what holds of a draft while it is read -/
def RV (n : Nat) (r : RS) (W H P i : Nat) : Prop := r.1 3 = nI i ∧ i ≤ n ∧ r.1 19 = nI W ∧ r.1 20 = nI H ∧ r.1 21 = nI P ∧ W ≤ 7 ∧ H ≤ 7 ∧ P ≤ 7 ∧ ((W = 0 ∧ H = 0) ∨ (2 ≤ W ∧ 2 ≤ H)) ∧ r.2.1 4 = allS (W * H) ∧ r.2.1 5 = lefS W (W * H) ∧ r.2.1 6 = rigS W (W * H)
theorem RV_q {n : Nat} {r r' : RS} {W H P i i' : Nat} (h : RV n r W H P i) (h3 : r'.1 3 = nI i') (hi : i' ≤ n) (h19 : r'.1 19 = r.1 19) (h20 : r'.1 20 = r.1 20) (h21 : r'.1 21 = r.1 21) (h4 : r'.2.1 4 = r.2.1 4) (h5 : r'.2.1 5 = r.2.1 5) (h6 : r'.2.1 6 = r.2.1 6) : RV n r' W H P i' := by
  obtain ⟨a1, a2, a3, a4, a5, a6, a7, a8, a9, a10, a11, a12⟩ := h
  exact ⟨h3, hi, h19.trans a3, h20.trans a4, h21.trans a5, a6, a7, a8, a9, h4.trans a10, h5.trans a11, h6.trans a12⟩
theorem RV_sk {n : Nat} {r : RS} {W H P i k : Nat} (h : RV n r W H P i) (hk : k ≤ n) : RV n (sR r 3 (nI k)) W H P k := RV_q h rfl hk rfl rfl rfl rfl rfl rfl
theorem RV_nm {t : Nat → Int32} {n : Nat} {r : RS} {W H P i : Nat} (h : RV n r W H P i) (x y : Int32) : RV n (nmR t n r i x y) W H P (nE t n i) :=
  RV_q h (nm_pl _ _ _ _ _ _) (nE_b t h.2.1).2 (nm_q _ _ _ _ _ _ (by decide) (by decide) (by decide) (by decide)) (nm_q _ _ _ _ _ _ (by decide) (by decide) (by decide) (by decide)) (nm_q _ _ _ _ _ _ (by decide) (by decide) (by decide) (by decide)) (by rw [nm_2]) (by rw [nm_2]) (by rw [nm_2])
theorem RV_cm {n : Nat} {r : RS} {W H P i : Nat} (h : RV n r W H P i) (a b : Int32) : RV n (cmR r a b) W H P i := by
  obtain ⟨f1, f2, f3, f4⟩ := cm_facts r a b
  exact RV_q h ((f3 3 (by decide) (by decide)).trans h.1) h.2.1 (f3 19 (by decide) (by decide)) (f3 20 (by decide) (by decide)) (f3 21 (by decide) (by decide)) (by rw [f4]) (by rw [f4]) (by rw [f4])
theorem RV_if {n : Nat} {r : RS} {W H P i : Nat} (h : RV n r W H P i) (p : Prop) [Decidable p] (a b : Int32) : RV n (if p then r else cmR r a b) W H P i := by
  split
  · exact h
  · exact RV_cm h a b
theorem RV_en {t : Nat → Int32} {n : Nat} {r : RS} {W H P i : Nat} (h : RV n r W H P i) : ∃ i', RV n (endR t n r i) W H P i' := by
  have hj := skN_b t h.2.1
  unfold endR
  split
  · rename_i hc
    exact ⟨_, RV_sk h (k := skN t n i + 1) hc.1⟩
  · exact ⟨_, RV_cm (RV_sk h hj.2) _ _⟩
theorem RV_sd {t : Nat → Int32} {n : Nat} {r : RS} {W H P i : Nat} (h : RV n r W H P i) : ∃ W' H', RV n (sdR t n r i) W' H' P (nE t n (nE t n i)) := by
  have h1 := RV_if h (r.1 19 = 0) 3 (nI (i - 1))
  unfold sdR
  dsimp only
  generalize (if r.1 19 = 0 then r else cmR r 3 (nI (i - 1))) = r1 at h1 ⊢
  have h2 := RV_nm (t := t) h1 2 7
  have h3 := RV_nm (t := t) h2 2 7
  by_cases h0 : (nmR t n (nmR t n r1 i 2 7) (nE t n i) 2 7).1 1 = 0
  · rw [if_pos h0]
    obtain ⟨o1, o2⟩ := nm_ok h0
    obtain ⟨o3, o4⟩ := nm_ok o1
    obtain ⟨a, a1, a2, a3⟩ := rngN (v := nV t n i) (a := 2) (b := 7) (by decide) (by decide) (nm_rng o4).1 (nm_rng o4).2
    obtain ⟨b, b1, b2, b3⟩ := rngN (v := nV t n (nE t n i)) (a := 2) (b := 7) (by decide) (by decide) (nm_rng o2).1 (nm_rng o2).2
    rw [a3, b3, nI_clamp (by omega), nI_clamp (by omega)]
    generalize nmR t n (nmR t n r1 i 2 7) (nE t n i) 2 7 = r3 at h3 ⊢
    obtain ⟨q1, q2, q3, q4, q5, q6, q7, q8, q9, q10, q11, q12⟩ := h3
    exact ⟨a, b, q1, q2, rfl, rfl, q5, a2, b2, q8, Or.inr ⟨a1, b1⟩, rfl, rfl, rfl⟩
  · rw [if_neg h0]
    exact ⟨W, H, h3⟩
theorem RV_ps {t : Nat → Int32} {n : Nat} {r : RS} {W H P i : Nat} (h : RV n r W H P i) : ∃ P', RV n (psR t n r i) W H P' (nE t n i) := by
  have h1 := RV_if h (r.1 21 < 7) 3 (nI (i - 1))
  have hq7 : (if r.1 21 < 7 then r else cmR r 3 (nI (i - 1))).1 1 = 0 → P < 7 := by
    intro o3
    by_cases hq : r.1 21 < 7
    · rw [h.2.2.2.2.1] at hq
      exact (nI_ltI (b := 7) (by have := h.2.2.2.2.2.2.2.1; omega) (by decide)).mp hq
    · rw [if_neg hq] at o3
      exact absurd o3 (cm_fn r _ (by decide))
  unfold psR
  dsimp only
  generalize (if r.1 21 < 7 then r else cmR r 3 (nI (i - 1))) = r1 at h1 hq7 ⊢
  have h2 := RV_nm (t := t) h1 0 4
  by_cases h0 : (nmR t n r1 i 0 4).1 1 = 0
  · rw [if_pos h0]
    obtain ⟨o3, o4⟩ := nm_ok h0
    have hP6 := hq7 o3
    generalize nmR t n r1 i 0 4 = r3 at h2 ⊢
    obtain ⟨a1, a2, a3, a4, a5, a6, a7, a8, a9, a10, a11, a12⟩ := h2
    refine ⟨P + 1, a1, a2, a3, a4, ?_, a6, a7, by omega, a9, a10, a11, a12⟩
    show r.1 21 + 1 = _
    rw [h.2.2.2.2.1, nI_1]
  · rw [if_neg h0]
    exact ⟨P, h2⟩
theorem RV_wd {t : Nat → Int32} {n : Nat} {r : RS} {W H P i : Nat} (h : RV n r W H P i) : RV n (wdR t n r i) W H P (nE t n i) := by
  have h1 := RV_if h (r.1 5 = 0) 3 (nI (i - 1))
  unfold wdR
  dsimp only
  generalize (if r.1 5 = 0 then r else cmR r 3 (nI (i - 1))) = r1 at h1 ⊢
  have h2 := RV_nm (t := t) h1 0 4
  by_cases h0 : (nmR t n r1 i 0 4).1 1 = 0
  · rw [if_pos h0]
    generalize nmR t n r1 i 0 4 = r3 at h2 ⊢
    exact RV_q h2 h2.1 h2.2.1 rfl rfl rfl rfl rfl rfl
  · rw [if_neg h0]
    exact h2
theorem RV_rk {t : Nat → Int32} {n : Nat} {r : RS} {W H P i : Nat} (h : RV n r W H P i) : RV n (rkR t n r i) W H P (nE t n (nE t n i)) := by
  have h1 := RV_if h (pop (r.2.1 7) < 8) 3 (nI (i - 1))
  unfold rkR
  dsimp only
  generalize (if pop (r.2.1 7) < 8 then r else cmR r 3 (nI (i - 1))) = r1 at h1 ⊢
  have h2 := RV_nm (t := t) (RV_nm (t := t) h1 0 (r.1 19 - 1)) 0 (r.1 20 - 1)
  generalize nmR t n (nmR t n r1 i 0 (r.1 19 - 1)) (nE t n i) 0 (r.1 20 - 1) = q at h2 ⊢
  by_cases h0 : q.1 1 = 0
  · rw [if_pos h0]
    unfold adR
    generalize (1 : Int64) <<< ((r.1 19 * nV t n (nE t n i) + nV t n i).toInt64 &&& 63) = x
    have h3 := RV_if h2 (q.2.1 7 &&& x = 0) 4 (q.1 4)
    generalize (if q.2.1 7 &&& x = 0 then q else cmR q 4 (q.1 4)) = q2 at h3 ⊢
    exact RV_q h3 h3.1 h3.2.1 rfl rfl rfl rfl rfl rfl
  · rw [if_neg h0]
    exact h2
theorem RV_cl {t : Nat → Int32} {n : Nat} {r : RS} {W H P i : Nat} (h : RV n r W H P i) (hi : i < n) : ∃ W' H' P' i', RV n (clzR t n r i) W' H' P' i' := by
  have h0 := RV_sk h (k := i + 1) hi
  unfold clzR
  split
  · exact ⟨_, _, _, _, RV_cm h _ _⟩
  · split
    · obtain ⟨W', H', h1⟩ := RV_sd (t := t) h0
      obtain ⟨i', h2⟩ := RV_en (t := t) h1
      exact ⟨_, _, _, _, h2⟩
    · split
      · obtain ⟨P', h1⟩ := RV_ps (t := t) h0
        obtain ⟨i', h2⟩ := RV_en (t := t) h1
        exact ⟨_, _, _, _, h2⟩
      · split
        · obtain ⟨i', h2⟩ := RV_en (t := t) (RV_wd (t := t) h0)
          exact ⟨_, _, _, _, h2⟩
        · split
          · obtain ⟨i', h2⟩ := RV_en (t := t) (RV_rk (t := t) h0)
            exact ⟨_, _, _, _, h2⟩
          · obtain ⟨i', h2⟩ := RV_en (t := t) (RV_cm h0 1 (nI i))
            exact ⟨_, _, _, _, h2⟩
/-- the loop over the clauses -/
def lpR (t : Nat → Int32) (n : Nat) : Nat → RS → RS
  | 0, r => r
  | f + 1, r => if (r.1 3).toNatClampNeg < n ∧ r.1 1 = 0 then lpR t n f (sR (clzR t n r (r.1 3).toNatClampNeg) 3 (nI (skN t n ((clzR t n r (r.1 3).toNatClampNeg).1 3).toNatClampNeg))) else r
theorem lp_s {t : Nat → Int32} {n f i i' : Nat} {r : RS} (h3 : r.1 3 = nI i) (hi : i < n) (hn : n ≤ 240) (hi' : i' ≤ n) (h1 : r.1 1 = 0) (hc : (clzR t n r i).1 3 = nI i') : lpR t n (f + 1) r = lpR t n f (sR (clzR t n r i) 3 (nI (skN t n i'))) := by
  show (if (r.1 3).toNatClampNeg < n ∧ r.1 1 = 0 then _ else _) = _
  rw [h3, nI_clamp (by omega), if_pos ⟨hi, h1⟩, hc, nI_clamp (by omega)]
theorem lp_e {t : Nat → Int32} {n f i : Nat} {r : RS} (h3 : r.1 3 = nI i) (hi : i ≤ n) (hn : n ≤ 240) (h : ¬ (i < n ∧ r.1 1 = 0)) : lpR t n f r = r := by
  cases f with
  | zero => rfl
  | succ f =>
    show (if (r.1 3).toNatClampNeg < n ∧ r.1 1 = 0 then _ else _) = _
    rw [h3, nI_clamp (by omega), if_neg h]
theorem RV_lp {t : Nat → Int32} {n : Nat} (hn : n ≤ 240) : ∀ (f : Nat) (r : RS) (W H P i : Nat), RV n r W H P i → ∃ W' H' P' i', RV n (lpR t n f r) W' H' P' i'
  | 0, r, W, H, P, i, h => ⟨W, H, P, i, h⟩
  | f + 1, r, W, H, P, i, h => by
    by_cases hc : i < n ∧ r.1 1 = 0
    · obtain ⟨W', H', P', i', h2⟩ := RV_cl (t := t) h hc.1
      rw [lp_s h.1 hc.1 hn h2.2.1 hc.2 h2.1]
      exact RV_lp hn f _ _ _ _ _ (RV_sk h2 (skN_b t h2.2.1).2)
    · rw [lp_e h.1 h.2.1 hn hc]
      exact ⟨W, H, P, i, h⟩
/-- the state in which reading begins -/
def r0R (t : Nat → Int32) (n : Nat) (r : RS) : RS := sR (clrR (sR (sR (sR (sR r 1 0) 2 (-1)) 3 0) 5 0)) 3 (nI (skN t n 0))
section INT
variable {sc : Scr} {d : Nat} {w : Bool} {s : Nat → Int32} {l : Nat → Int64} {A : Nat → Nat → Int32} {B : Nat → Nat → Int64} {r : RS} {t : Nat → Int32} {n : Nat}
theorem RV_0 (t : Nat → Int32) (n : Nat) (r : RS) : RV n (r0R t n r) 0 0 0 (skN t n 0) := ⟨rfl, (skN_b t (Nat.zero_le n)).2, rfl, rfl, rfl, by decide, by decide, by decide, Or.inl ⟨rfl, rfl⟩, all_0.symm, (lef_0 0).symm, (rig_0 0).symm⟩
theorem e_readClause (ht : A 2 = t) (hs : s 0 = nI n) (hn : n ≤ 240) {W H P i : Nat} (hr : RV n r W H P i) (hi : i < n) : Ev sc (d + 3) m_R_readClause 0 (iniL 3 [.ref 1, .ref (wL (!w))]) [] (DR w s l A B r) none (DR w s l A B (clzR t n r i)) := by
  have h0 := RV_sk hr (k := i + 1) hi
  have hz : (sR r 3 (nI (i + 1))).1 19 = 0 → (sR r 3 (nI (i + 1))).2.1 5 = 0 ∧ (sR r 3 (nI (i + 1))).2.1 6 = 0 := by
    intro z
    have hW : W = 0 := (nI_eq (b := 0) (by have := hr.2.2.2.2.2.1; omega) (by decide)).mp (hr.2.2.1.symm.trans z)
    refine ⟨hr.2.2.2.2.2.2.2.2.2.2.1.trans ?_, hr.2.2.2.2.2.2.2.2.2.2.2.trans ?_⟩
    · rw [hW, Nat.zero_mul, lef_0]
    · rw [hW, Nat.zero_mul, rig_0]
  have hfin : ∀ (r1 : RS) (W' H' P' i1 : Nat), RV n r1 W' H' P' i1 → ∀ L2 : Lcs, L2.length = 3 → gL L2 0 = some (.ref 1) → Ev sc (d + 3) m_R_readClause 143 [some (.ref 1), some (.ref (wL (!w))), none] [] (DR w s l A B r1) none (DR w s l A B (endR t n r1 i1)) := by
    intro r1 W' H' P' i1 h1 _ _ _
    repeat (first | refine ev_gos 99 rfl ?_ | refine ev_gf2 rfl rfl rfl rfl ?_ | refine ev_gf2 rfl rfl HH_land rfl ?_ | refine ev_gf2 rfl rfl HH_draft rfl ?_ | refine ev_gf2 rfl rfl (by with_reducible assumption) rfl ?_)
    refine ev_cv rfl rfl rfl (e_readEnd ht hs hn h1.2.1 h1.1) ?_
    exact ev_rv rfl rfl
  have hfin2 : ∀ (r1 : RS) (W' H' P' i1 : Nat) (x : Int32), RV n r1 W' H' P' i1 → Ev sc (d + 3) m_R_readClause 143 [some (.ref 1), some (.ref (wL (!w))), some (.int x)] [] (DR w s l A B r1) none (DR w s l A B (endR t n r1 i1)) := fun r1 W' H' P' i1 x h1 => ev_wk2 (hfin r1 W' H' P' i1 h1 [some (.ref 1), none, none] rfl rfl) rfl (by repeat' (first | exact trivial | refine ⟨rfl, ?_⟩))
  repeat (first | refine ev_gos 99 rfl ?_ | refine ev_gf2 rfl rfl rfl rfl ?_ | refine ev_gf2 rfl rfl HH_land rfl ?_ | refine ev_gf2 rfl rfl HH_draft rfl ?_ | refine ev_gf2 rfl rfl (by with_reducible assumption) rfl ?_)
  refine ev_ia rfl rfl (by show inB (r.1 3) 240 = true; rw [hr.1]; exact inI (by omega) (by decide)) ?_
  refine (?_ : Ek sc (d + 3) m_R_readClause 9 _ [.int (A 2 (r.1 3).toNatClampNeg)] _ _ _ _ _)
  rw [hr.1, nI_clamp (by omega), ht]
  unfold clzR
  generalize hx : t i = x
  have key : ¬ (¬ x = 110 ∧ r.1 19 = 0) → Ev sc (d + 3) m_R_readClause 33 [some (.ref 1), some (.ref (wL (!w))), some (.int x)] [] (DR w s l A B r) none (DR w s l A B (if x = 110 then endR t n (sdR t n (sR r 3 (nI (i + 1))) (i + 1)) (nE t n (nE t n (i + 1))) else if x = 112 then endR t n (psR t n (sR r 3 (nI (i + 1))) (i + 1)) (nE t n (i + 1)) else if x = 119 then endR t n (wdR t n (sR r 3 (nI (i + 1))) (i + 1)) (nE t n (i + 1)) else if x = 114 then endR t n (rkR t n (sR r 3 (nI (i + 1))) (i + 1)) (nE t n (nE t n (i + 1))) else endR t n (cmR (sR r 3 (nI (i + 1))) 1 (nI i)) (i + 1))) := by
    intro hq
    repeat (first | refine ev_gos 99 rfl ?_ | refine ev_gf2 rfl rfl rfl rfl ?_ | refine ev_gf2 rfl rfl HH_land rfl ?_ | refine ev_gf2 rfl rfl HH_draft rfl ?_ | refine ev_gf2 rfl rfl (by with_reducible assumption) rfl ?_)
    refine pD_3 rfl ?_
    refine (?_ : Ek sc (d + 3) m_R_readClause 43 _ _ (DR w s l A B (sR r 3 (r.1 3 + 1))) _ _ _ _)
    rw [hr.1, nI_1]
    repeat (first | refine ev_gos 99 rfl ?_ | refine ev_gf2 rfl rfl rfl rfl ?_ | refine ev_gf2 rfl rfl HH_land rfl ?_ | refine ev_gf2 rfl rfl HH_draft rfl ?_ | refine ev_gf2 rfl rfl (by with_reducible assumption) rfl ?_)
    by_cases c1 : x = 110
    · rw [if_pos c1]
      refine ev_sw rfl rfl (by rw [c1]; rfl : _ = some 100) ?_
      repeat (first | refine ev_gos 99 rfl ?_ | refine ev_gf2 rfl rfl rfl rfl ?_ | refine ev_gf2 rfl rfl HH_land rfl ?_ | refine ev_gf2 rfl rfl HH_draft rfl ?_ | refine ev_gf2 rfl rfl (by with_reducible assumption) rfl ?_)
      refine ev_cv rfl rfl rfl (e_readSides ht hs hn (i := i + 1) (by omega) hi rfl hz) ?_
      obtain ⟨W', H', h1⟩ := RV_sd (t := t) h0
      refine ev_gos 1 rfl ?_
      exact hfin2 _ _ _ _ _ x h1
    · rw [if_neg c1]
      by_cases c2 : x = 112
      · rw [if_pos c2]
        refine ev_sw rfl rfl (by rw [c2]; rfl : _ = some 108) ?_
        repeat (first | refine ev_gos 99 rfl ?_ | refine ev_gf2 rfl rfl rfl rfl ?_ | refine ev_gf2 rfl rfl HH_land rfl ?_ | refine ev_gf2 rfl rfl HH_draft rfl ?_ | refine ev_gf2 rfl rfl (by with_reducible assumption) rfl ?_)
        refine ev_cv rfl rfl rfl (e_readPerson ht hs hn (i := i + 1) (P := P) (by omega) hi rfl h0.2.2.2.2.1 h0.2.2.2.2.2.2.2.1) ?_
        obtain ⟨P', h1⟩ := RV_ps (t := t) h0
        refine ev_gos 1 rfl ?_
        exact hfin2 _ _ _ _ _ x h1
      · rw [if_neg c2]
        by_cases c3 : x = 119
        · rw [if_pos c3]
          refine ev_sw rfl rfl (by rw [c3]; rfl : _ = some 116) ?_
          repeat (first | refine ev_gos 99 rfl ?_ | refine ev_gf2 rfl rfl rfl rfl ?_ | refine ev_gf2 rfl rfl HH_land rfl ?_ | refine ev_gf2 rfl rfl HH_draft rfl ?_ | refine ev_gf2 rfl rfl (by with_reducible assumption) rfl ?_)
          refine ev_cv rfl rfl rfl (e_readWind ht hs hn (i := i + 1) (by omega) hi rfl) ?_
          refine ev_gos 1 rfl ?_
          exact hfin2 _ _ _ _ _ x (RV_wd (t := t) h0)
        · rw [if_neg c3]
          by_cases c4 : x = 114
          · rw [if_pos c4]
            refine ev_sw rfl rfl (by rw [c4]; rfl : _ = some 124) ?_
            repeat (first | refine ev_gos 99 rfl ?_ | refine ev_gf2 rfl rfl rfl rfl ?_ | refine ev_gf2 rfl rfl HH_land rfl ?_ | refine ev_gf2 rfl rfl HH_draft rfl ?_ | refine ev_gf2 rfl rfl (by with_reducible assumption) rfl ?_)
            refine ev_cv rfl rfl rfl (e_readRock ht hs hn (i := i + 1) (by omega) hi rfl) ?_
            refine ev_gos 1 rfl ?_
            exact hfin2 _ _ _ _ _ x (RV_rk (t := t) h0)
          · rw [if_neg c4]
            have hsw : swT (.tableswitch 88 110 119 #[56, 88, 64, 88, 80, 88, 88, 88, 88, 72]) 44 x = some 132 := by
              by_cases o1 : x.toInt < 110 ∨ 119 < x.toInt
              · exact sw_out o1
              · obtain ⟨k, k1, k2, k3⟩ := rngN (v := x) (a := 110) (b := 119) (by decide) (by decide) (by rw [Int32.lt_iff_toInt_lt]; exact fun z => o1 (Or.inl z)) (by rw [Int32.lt_iff_toInt_lt]; exact fun z => o1 (Or.inr z))
                subst k3
                rcases (show k = 110 ∨ k = 111 ∨ k = 112 ∨ k = 113 ∨ k = 114 ∨ k = 115 ∨ k = 116 ∨ k = 117 ∨ k = 118 ∨ k = 119 by omega) with rfl | rfl | rfl | rfl | rfl | rfl | rfl | rfl | rfl | rfl
                · exact absurd rfl c1
                · rfl
                · exact absurd rfl c2
                · rfl
                · exact absurd rfl c4
                · rfl
                · rfl
                · rfl
                · rfl
                · exact absurd rfl c3
            refine ev_sw rfl rfl hsw ?_
            repeat (first | refine ev_gos 99 rfl ?_ | refine ev_gf2 rfl rfl rfl rfl ?_ | refine ev_gf2 rfl rfl HH_land rfl ?_ | refine ev_gf2 rfl rfl HH_draft rfl ?_ | refine ev_gf2 rfl rfl (by with_reducible assumption) rfl ?_)
            refine ev_cv rfl rfl rfl (e_complain 1 (nI (i + 1) - 1)) ?_
            rw [nI_pred]
            exact hfin2 _ _ _ _ _ x (RV_cm h0 1 (nI i))
  repeat (first | refine ev_gos 99 rfl ?_ | refine ev_gf2 rfl rfl rfl rfl ?_ | refine ev_gf2 rfl rfl HH_land rfl ?_ | refine ev_gf2 rfl rfl HH_draft rfl ?_ | refine ev_gf2 rfl rfl (by with_reducible assumption) rfl ?_)
  by_cases c1 : x = 110
  · refine ev_ift rfl rfl rfl (c_eq c1) ?_
    rw [if_neg (fun z => z.1 c1)]
    exact key (fun z => z.1 c1)
  · refine ev_iff rfl rfl rfl (d_eq c1) ?_
    repeat (first | refine ev_gos 99 rfl ?_ | refine ev_gf2 rfl rfl rfl rfl ?_ | refine ev_gf2 rfl rfl HH_land rfl ?_ | refine ev_gf2 rfl rfl HH_draft rfl ?_ | refine ev_gf2 rfl rfl (by with_reducible assumption) rfl ?_)
    by_cases c2 : r.1 19 = 0
    · rw [if_pos ⟨c1, c2⟩]
      refine ev_iff rfl rfl rfl (j_ne c2) ?_
      repeat (first | refine ev_gos 99 rfl ?_ | refine ev_gf2 rfl rfl rfl rfl ?_ | refine ev_gf2 rfl rfl HH_land rfl ?_ | refine ev_gf2 rfl rfl HH_draft rfl ?_ | refine ev_gf2 rfl rfl (by with_reducible assumption) rfl ?_)
      refine ev_cv rfl rfl rfl (e_complain 1 (r.1 3)) ?_
      rw [hr.1]
      exact ev_rv rfl rfl
    · rw [if_neg (fun z => c2 z.2)]
      refine ev_ift rfl rfl rfl (i_ne c2) ?_
      exact key (fun z => c2 z.2)
theorem e_into_loop (ht : A 2 = t) (hs : s 0 = nI n) (hn : n ≤ 240) {h' : AHp} (hk : ∀ r1 : RS, Ev sc (d + 4) m_R_readInto 70 [some (.ref 1), some (.ref (wL (!w))), none] [] (DR w s l A B r1) none h' → True) (hfin : Ev sc (d + 4) m_R_readInto 70 [some (.ref 1), some (.ref (wL (!w))), none] [] (DR w s l A B (lpR t n 240 r)) none h') : ∀ (f k : Nat) (r1 : RS) (W H P i : Nat), k + f = 240 → RV n r1 W H P i → lpR t n f r1 = lpR t n 240 r → Ev sc (d + 4) m_R_readInto 34 [some (.ref 1), some (.ref (wL (!w))), some (.int (nI k))] [.int 240, .int (nI k)] (DR w s l A B r1) none h' := by
  intro f
  induction f with
  | zero =>
    intro k r1 W H P i hk hr he
    have e : k = 240 := by omega
    subst e
    refine ev_ift rfl rfl rfl (c_ge (by decide : (240 : Int32) ≤ nI 240)) ?_
    rw [← he] at hfin
    exact ev_wk2 hfin rfl (by repeat' (first | exact trivial | refine ⟨rfl, ?_⟩))
  | succ f ih =>
    intro k r1 W H P i hk hr he
    refine ev_iff rfl rfl rfl (d_ge (nI_lt3 (b := 240) (by omega) (by omega) (by omega))) ?_
    repeat (first | refine ev_gos 99 rfl ?_ | refine ev_gf2 rfl rfl rfl rfl ?_ | refine ev_gf2 rfl rfl HH_land rfl ?_ | refine ev_gf2 rfl rfl HH_draft rfl ?_ | refine ev_gf2 rfl rfl (by with_reducible assumption) rfl ?_)
    by_cases h1 : i < n
    · refine ev_iff rfl rfl rfl (d_ge (by show ¬ s 0 ≤ r1.1 3; rw [hs, hr.1]; exact nI_lt3 (by omega) (by omega) (by omega))) ?_
      repeat (first | refine ev_gos 99 rfl ?_ | refine ev_gf2 rfl rfl rfl rfl ?_ | refine ev_gf2 rfl rfl HH_land rfl ?_ | refine ev_gf2 rfl rfl HH_draft rfl ?_ | refine ev_gf2 rfl rfl (by with_reducible assumption) rfl ?_)
      by_cases h2 : r1.1 1 = 0
      · refine ev_iff rfl rfl rfl (j_ne h2) ?_
        repeat (first | refine ev_gos 99 rfl ?_ | refine ev_gf2 rfl rfl rfl rfl ?_ | refine ev_gf2 rfl rfl HH_land rfl ?_ | refine ev_gf2 rfl rfl HH_draft rfl ?_ | refine ev_gf2 rfl rfl (by with_reducible assumption) rfl ?_)
        refine ev_cv rfl rfl rfl (e_readClause ht hs hn hr h1) ?_
        obtain ⟨W', H', P', i', h3⟩ := RV_cl (t := t) hr h1
        repeat (first | refine ev_gos 99 rfl ?_ | refine ev_gf2 rfl rfl rfl rfl ?_ | refine ev_gf2 rfl rfl HH_land rfl ?_ | refine ev_gf2 rfl rfl HH_draft rfl ?_ | refine ev_gf2 rfl rfl (by with_reducible assumption) rfl ?_)
        refine ev_cv rfl rfl rfl (e_skip ht hs hn h3.2.1 h3.1) ?_
        repeat (first | refine ev_gos 99 rfl ?_ | refine ev_gf2 rfl rfl rfl rfl ?_ | refine ev_gf2 rfl rfl HH_land rfl ?_ | refine ev_gf2 rfl rfl HH_draft rfl ?_ | refine ev_gf2 rfl rfl (by with_reducible assumption) rfl ?_)
        rw [lp_s hr.1 h1 hn h3.2.1 h2 h3.1] at he
        have h5 := ih (k + 1) _ W' H' P' _ (by omega) (RV_sk h3 (skN_b t h3.2.1).2) he
        rw [← nI_1] at h5
        exact h5
      · rw [lp_e hr.1 hr.2.1 hn (fun z => h2 z.2)] at he
        refine ev_ift rfl rfl rfl (i_ne h2) ?_
        rw [← he] at hfin
        exact ev_wk2 hfin rfl (by repeat' (first | exact trivial | refine ⟨rfl, ?_⟩))
    · rw [lp_e hr.1 hr.2.1 hn (fun z => h1 z.1)] at he
      refine ev_ift rfl rfl rfl (c_ge (by show s 0 ≤ r1.1 3; rw [hs, hr.1]; exact (nI_leI (by omega) (by have := hr.2.1; omega)).mpr (by omega))) ?_
      rw [← he] at hfin
      exact ev_wk2 hfin rfl (by repeat' (first | exact trivial | refine ⟨rfl, ?_⟩))
theorem e_readInto (ht : A 2 = t) (hs : s 0 = nI n) (hn : n ≤ 240) : ∃ W H P i, RV n (lpR t n 240 (r0R t n r)) W H P i ∧ Ev sc (d + 4) m_R_readInto 0 (iniL 3 [.ref 1, .ref (wL (!w))]) [] (DR w s l A B r) none (DR w (upA s 0 0) l A B (sRb (lpR t n 240 (r0R t n r)) (fo (dsK W (W * H) ((lpR t n 240 (r0R t n r)).2.1 7)) 5 (lpR t n 240 (r0R t n r)).2.2.2))) := by
  obtain ⟨W, H, P, i, hv⟩ := RV_lp (t := t) hn 240 _ _ _ _ _ (RV_0 t n r)
  refine ⟨W, H, P, i, hv, ?_⟩
  refine ev_gos 99 rfl ?_
  refine pD_1 rfl ?_
  refine ev_gos 99 rfl ?_
  refine pD_2 rfl ?_
  refine ev_gos 99 rfl ?_
  refine pD_3 rfl ?_
  refine ev_gos 99 rfl ?_
  refine pD_5 (Or.inl rfl) rfl ?_
  repeat (first | refine ev_gos 99 rfl ?_ | refine ev_gf2 rfl rfl rfl rfl ?_ | refine ev_gf2 rfl rfl HH_land rfl ?_ | refine ev_gf2 rfl rfl HH_draft rfl ?_ | refine ev_gf2 rfl rfl (by with_reducible assumption) rfl ?_)
  refine ev_cv rfl rfl HH_draft e_clear ?_
  repeat (first | refine ev_gos 99 rfl ?_ | refine ev_gf2 rfl rfl rfl rfl ?_ | refine ev_gf2 rfl rfl HH_land rfl ?_ | refine ev_gf2 rfl rfl HH_draft rfl ?_ | refine ev_gf2 rfl rfl (by with_reducible assumption) rfl ?_)
  refine ev_cv rfl rfl rfl (e_skip (n := n) (i := 0) ht hs hn (Nat.zero_le n) rfl) ?_
  repeat (first | refine ev_gos 99 rfl ?_ | refine ev_gf2 rfl rfl rfl rfl ?_ | refine ev_gf2 rfl rfl HH_land rfl ?_ | refine ev_gf2 rfl rfl HH_draft rfl ?_ | refine ev_gf2 rfl rfl (by with_reducible assumption) rfl ?_)
  refine e_into_loop (r := r0R t n r) ht hs hn (fun _ _ => trivial) ?_ 240 0 _ 0 0 0 _ rfl (RV_0 t n r) rfl
  repeat (first | refine ev_gos 99 rfl ?_ | refine ev_gf2 rfl rfl rfl rfl ?_ | refine ev_gf2 rfl rfl HH_land rfl ?_ | refine ev_gf2 rfl rfl HH_draft rfl ?_ | refine ev_gf2 rfl rfl (by with_reducible assumption) rfl ?_)
  refine ev_cv rfl rfl HH_draft (e_drawShapes hv.2.2.2.2.2.1 hv.2.2.2.2.2.2.1 hv.2.2.1 hv.2.2.2.1 hv.2.2.2.2.2.2.2.2.2.1 hv.2.2.2.2.2.2.2.2.2.2.1 hv.2.2.2.2.2.2.2.2.2.2.2) ?_
  repeat (first | refine ev_gos 99 rfl ?_ | refine ev_gf2 rfl rfl rfl rfl ?_ | refine ev_gf2 rfl rfl HH_land rfl ?_ | refine ev_gf2 rfl rfl HH_draft rfl ?_ | refine ev_gf2 rfl rfl (by with_reducible assumption) rfl ?_)
  refine pf_R_0 rfl ?_
  rw [rs_out _ _ rfl]
  exact ev_rv rfl rfl
theorem e_add {k : Nat} (hk : k ≤ 240) (hs : s 0 = nI k) (x : Int32) : Ev sc d m_R_add 0 (iniL 2 [.ref 1, .int x]) [] (HH w s l A B) (some (.int (if k < 240 then nI (k + 1) else -1000000004))) (if k < 240 then HH w (upA s 0 (nI (k + 1))) l (upA A 2 (upd (A 2) k x)) B else HH w s l A B) := by
  repeat (first | refine ev_gos 99 rfl ?_ | refine ev_gf2 rfl rfl rfl rfl ?_ | refine ev_gf2 rfl rfl HH_land rfl ?_ | refine ev_gf2 rfl rfl HH_draft rfl ?_ | refine ev_gf2 rfl rfl (by with_reducible assumption) rfl ?_)
  by_cases h6 : k < 240
  · refine ev_ift rfl rfl rfl (c_lt (by rw [hs]; exact (nI_ltI (by omega) (by decide)).mpr h6 : s 0 < nI 240)) ?_
    repeat (first | refine ev_gos 99 rfl ?_ | refine ev_gf2 rfl rfl rfl rfl ?_ | refine ev_gf2 rfl rfl HH_land rfl ?_ | refine ev_gf2 rfl rfl HH_draft rfl ?_ | refine ev_gf2 rfl rfl (by with_reducible assumption) rfl ?_)
    refine is_2 rfl (by rw [hs]; exact inI h6 (by decide)) ?_
    repeat (first | refine ev_gos 99 rfl ?_ | refine ev_gf2 rfl rfl rfl rfl ?_ | refine ev_gf2 rfl rfl HH_land rfl ?_ | refine ev_gf2 rfl rfl HH_draft rfl ?_ | refine ev_gf2 rfl rfl (by with_reducible assumption) rfl ?_)
    refine pf_R_0 rfl ?_
    repeat (first | refine ev_gos 99 rfl ?_ | refine ev_gf2 rfl rfl rfl rfl ?_ | refine ev_gf2 rfl rfl HH_land rfl ?_ | refine ev_gf2 rfl rfl HH_draft rfl ?_ | refine ev_gf2 rfl rfl (by with_reducible assumption) rfl ?_)
    rw [if_pos h6, if_pos h6]
    have e1 : s 0 + 1 = nI (k + 1) := by rw [hs, nI_1]
    refine ev_ri rfl e1 ?_
    show HH w (upA s 0 (s 0 + 1)) l (upA A 2 (upd (A 2) (s 0).toNatClampNeg x)) B = _
    rw [e1, hs, nI_clamp (by omega)]
  · refine ev_iff rfl rfl rfl (d_lt (by rw [hs]; exact fun z => h6 ((nI_ltI (by omega) (by decide)).mp z) : ¬ s 0 < nI 240)) ?_
    repeat (first | refine ev_gos 99 rfl ?_ | refine ev_gf2 rfl rfl rfl rfl ?_ | refine ev_gf2 rfl rfl HH_land rfl ?_ | refine ev_gf2 rfl rfl HH_draft rfl ?_ | refine ev_gf2 rfl rfl (by with_reducible assumption) rfl ?_)
    rw [if_neg h6, if_neg h6]
    exact ev_ri rfl rfl rfl
end INT
end
