section
-- ===== PART A: goes FIRST, ahead of the names: the tables' words, and 'selects' of the private methods out of them =====
/-- a private method of a class that the tables say can be made, by its rows of tables_1 -/
def lw_okq (q : MethodName × Nat) : Prop := (q.1.cls ≠ "java/lang/invoke/MethodHandle" ∧ q.1.cls ≠ "java/lang/invoke/VarHandle") ∧ Cond.instantiable q.1.cls q.2 ∈ tables_1 ∧ Cond.privateMethod q.1 ∈ tables_1 ∧ Cond.instanceMethod q.1 ∈ tables_1
theorem lw_p0 : lw_okq (⟨"EnvyRust", "told", "(I)I"⟩, 9) := ⟨⟨by decide +kernel, by decide +kernel⟩, List.mem_of_getElem? (i := 14) (by decide +kernel), List.mem_of_getElem? (i := 155) (by decide +kernel), List.mem_of_getElem? (i := 156) (by decide +kernel)⟩
theorem lw_p1 : lw_okq (⟨"EnvyRust$Town", "addThing", "(II)I"⟩, 8) := ⟨⟨by decide +kernel, by decide +kernel⟩, List.mem_of_getElem? (i := 22) (by decide +kernel), List.mem_of_getElem? (i := 160) (by decide +kernel), List.mem_of_getElem? (i := 161) (by decide +kernel)⟩
theorem lw_p2 : lw_okq (⟨"EnvyRust$Town", "isThing", "(I)Z"⟩, 8) := ⟨⟨by decide +kernel, by decide +kernel⟩, List.mem_of_getElem? (i := 22) (by decide +kernel), List.mem_of_getElem? (i := 168) (by decide +kernel), List.mem_of_getElem? (i := 169) (by decide +kernel)⟩
theorem lw_p3 : lw_okq (⟨"EnvyRust$Town", "wearOf", "(I)I"⟩, 8) := ⟨⟨by decide +kernel, by decide +kernel⟩, List.mem_of_getElem? (i := 22) (by decide +kernel), List.mem_of_getElem? (i := 173) (by decide +kernel), List.mem_of_getElem? (i := 174) (by decide +kernel)⟩
theorem lw_p4 : lw_okq (⟨"EnvyRust$Town", "envyOf", "(II)I"⟩, 8) := ⟨⟨by decide +kernel, by decide +kernel⟩, List.mem_of_getElem? (i := 22) (by decide +kernel), List.mem_of_getElem? (i := 177) (by decide +kernel), List.mem_of_getElem? (i := 178) (by decide +kernel)⟩
theorem lw_p5 : lw_okq (⟨"EnvyRust$Town", "envyIfOwnedBy", "(III)I"⟩, 8) := ⟨⟨by decide +kernel, by decide +kernel⟩, List.mem_of_getElem? (i := 22) (by decide +kernel), List.mem_of_getElem? (i := 181) (by decide +kernel), List.mem_of_getElem? (i := 182) (by decide +kernel)⟩
theorem lw_p6 : lw_okq (⟨"EnvyRust", "forgeable", "(III)Z"⟩, 9) := ⟨⟨by decide +kernel, by decide +kernel⟩, List.mem_of_getElem? (i := 14) (by decide +kernel), List.mem_of_getElem? (i := 200) (by decide +kernel), List.mem_of_getElem? (i := 201) (by decide +kernel)⟩
theorem lw_p7 : lw_okq (⟨"EnvyRust$Town", "isPerson", "(I)Z"⟩, 8) := ⟨⟨by decide +kernel, by decide +kernel⟩, List.mem_of_getElem? (i := 22) (by decide +kernel), List.mem_of_getElem? (i := 204) (by decide +kernel), List.mem_of_getElem? (i := 205) (by decide +kernel)⟩
theorem lw_p8 : lw_okq (⟨"EnvyRust$Town", "falling", "(I)I"⟩, 8) := ⟨⟨by decide +kernel, by decide +kernel⟩, List.mem_of_getElem? (i := 22) (by decide +kernel), List.mem_of_getElem? (i := 208) (by decide +kernel), List.mem_of_getElem? (i := 209) (by decide +kernel)⟩
theorem lw_p9 : lw_okq (⟨"EnvyRust$Town", "addPerson", "(II)I"⟩, 8) := ⟨⟨by decide +kernel, by decide +kernel⟩, List.mem_of_getElem? (i := 22) (by decide +kernel), List.mem_of_getElem? (i := 221) (by decide +kernel), List.mem_of_getElem? (i := 222) (by decide +kernel)⟩
theorem lw_p10 : lw_okq (⟨"EnvyRust$Town", "ownedBy", "(I)I"⟩, 8) := ⟨⟨by decide +kernel, by decide +kernel⟩, List.mem_of_getElem? (i := 22) (by decide +kernel), List.mem_of_getElem? (i := 229) (by decide +kernel), List.mem_of_getElem? (i := 230) (by decide +kernel)⟩
theorem lw_p11 : lw_okq (⟨"EnvyRust$Town", "passDays", "(I)V"⟩, 8) := ⟨⟨by decide +kernel, by decide +kernel⟩, List.mem_of_getElem? (i := 22) (by decide +kernel), List.mem_of_getElem? (i := 250) (by decide +kernel), List.mem_of_getElem? (i := 251) (by decide +kernel)⟩
theorem lw_p12 : lw_okq (⟨"EnvyRust$Town", "fallAll", "()V"⟩, 8) := ⟨⟨by decide +kernel, by decide +kernel⟩, List.mem_of_getElem? (i := 22) (by decide +kernel), List.mem_of_getElem? (i := 255) (by decide +kernel), List.mem_of_getElem? (i := 256) (by decide +kernel)⟩
theorem lw_p13 : lw_okq (⟨"EnvyRust$Town", "isGone", "(I)Z"⟩, 8) := ⟨⟨by decide +kernel, by decide +kernel⟩, List.mem_of_getElem? (i := 22) (by decide +kernel), List.mem_of_getElem? (i := 259) (by decide +kernel), List.mem_of_getElem? (i := 260) (by decide +kernel)⟩
theorem lw_p14 : lw_okq (⟨"EnvyRust$Town", "walkAll", "()V"⟩, 8) := ⟨⟨by decide +kernel, by decide +kernel⟩, List.mem_of_getElem? (i := 22) (by decide +kernel), List.mem_of_getElem? (i := 263) (by decide +kernel), List.mem_of_getElem? (i := 264) (by decide +kernel)⟩
theorem lw_p15 : lw_okq (⟨"EnvyRust$Town", "goneSet", "()I"⟩, 8) := ⟨⟨by decide +kernel, by decide +kernel⟩, List.mem_of_getElem? (i := 22) (by decide +kernel), List.mem_of_getElem? (i := 270) (by decide +kernel), List.mem_of_getElem? (i := 271) (by decide +kernel)⟩
def lw_privs_1 : List (MethodName × Nat) := [(⟨"EnvyRust", "told", "(I)I"⟩, 9), (⟨"EnvyRust$Town", "addThing", "(II)I"⟩, 8), (⟨"EnvyRust$Town", "isThing", "(I)Z"⟩, 8), (⟨"EnvyRust$Town", "wearOf", "(I)I"⟩, 8), (⟨"EnvyRust$Town", "envyOf", "(II)I"⟩, 8), (⟨"EnvyRust$Town", "envyIfOwnedBy", "(III)I"⟩, 8), (⟨"EnvyRust", "forgeable", "(III)Z"⟩, 9), (⟨"EnvyRust$Town", "isPerson", "(I)Z"⟩, 8), (⟨"EnvyRust$Town", "falling", "(I)I"⟩, 8), (⟨"EnvyRust$Town", "addPerson", "(II)I"⟩, 8), (⟨"EnvyRust$Town", "ownedBy", "(I)I"⟩, 8), (⟨"EnvyRust$Town", "passDays", "(I)V"⟩, 8), (⟨"EnvyRust$Town", "fallAll", "()V"⟩, 8), (⟨"EnvyRust$Town", "isGone", "(I)Z"⟩, 8), (⟨"EnvyRust$Town", "walkAll", "()V"⟩, 8), (⟨"EnvyRust$Town", "goneSet", "()I"⟩, 8)]
theorem lw_r1 : ∀ q ∈ lw_privs_1, lw_okq q := List.forall_mem_cons.mpr ⟨lw_p0, List.forall_mem_cons.mpr ⟨lw_p1, List.forall_mem_cons.mpr ⟨lw_p2, List.forall_mem_cons.mpr ⟨lw_p3, List.forall_mem_cons.mpr ⟨lw_p4, List.forall_mem_cons.mpr ⟨lw_p5, List.forall_mem_cons.mpr ⟨lw_p6, List.forall_mem_cons.mpr ⟨lw_p7, List.forall_mem_cons.mpr ⟨lw_p8, List.forall_mem_cons.mpr ⟨lw_p9, List.forall_mem_cons.mpr ⟨lw_p10, List.forall_mem_cons.mpr ⟨lw_p11, List.forall_mem_cons.mpr ⟨lw_p12, List.forall_mem_cons.mpr ⟨lw_p13, List.forall_mem_cons.mpr ⟨lw_p14, List.forall_mem_cons.mpr ⟨lw_p15, fun _ h => absurd h List.not_mem_nil⟩⟩⟩⟩⟩⟩⟩⟩⟩⟩⟩⟩⟩⟩⟩⟩
theorem lw_p16 : lw_okq (⟨"EnvyRust$Town", "allThick", "()I"⟩, 8) := ⟨⟨by decide +kernel, by decide +kernel⟩, List.mem_of_getElem? (i := 22) (by decide +kernel), List.mem_of_getElem? (i := 284) (by decide +kernel), List.mem_of_getElem? (i := 285) (by decide +kernel)⟩
theorem lw_p17 : lw_okq (⟨"EnvyRust$Town", "allWear", "()I"⟩, 8) := ⟨⟨by decide +kernel, by decide +kernel⟩, List.mem_of_getElem? (i := 22) (by decide +kernel), List.mem_of_getElem? (i := 288) (by decide +kernel), List.mem_of_getElem? (i := 289) (by decide +kernel)⟩
theorem lw_p18 : lw_okq (⟨"EnvyRust$Town", "visited", "()I"⟩, 8) := ⟨⟨by decide +kernel, by decide +kernel⟩, List.mem_of_getElem? (i := 22) (by decide +kernel), List.mem_of_getElem? (i := 292) (by decide +kernel), List.mem_of_getElem? (i := 293) (by decide +kernel)⟩
theorem lw_p19 : lw_okq (⟨"EnvyRust", "startTrial", "()V"⟩, 9) := ⟨⟨by decide +kernel, by decide +kernel⟩, List.mem_of_getElem? (i := 14) (by decide +kernel), List.mem_of_getElem? (i := 300) (by decide +kernel), List.mem_of_getElem? (i := 301) (by decide +kernel)⟩
theorem lw_p20 : lw_okq (⟨"EnvyRust$Town", "become", "(LEnvyRust$Town;)V"⟩, 8) := ⟨⟨by decide +kernel, by decide +kernel⟩, List.mem_of_getElem? (i := 22) (by decide +kernel), List.mem_of_getElem? (i := 304) (by decide +kernel), List.mem_of_getElem? (i := 305) (by decide +kernel)⟩
theorem lw_p21 : lw_okq (⟨"EnvyRust", "sparingFor", "(IIII)I"⟩, 9) := ⟨⟨by decide +kernel, by decide +kernel⟩, List.mem_of_getElem? (i := 14) (by decide +kernel), List.mem_of_getElem? (i := 334) (by decide +kernel), List.mem_of_getElem? (i := 335) (by decide +kernel)⟩
theorem lw_p22 : lw_okq (⟨"EnvyRust", "thickestFor", "(IIII)I"⟩, 9) := ⟨⟨by decide +kernel, by decide +kernel⟩, List.mem_of_getElem? (i := 14) (by decide +kernel), List.mem_of_getElem? (i := 346) (by decide +kernel), List.mem_of_getElem? (i := 347) (by decide +kernel)⟩
theorem lw_p23 : lw_okq (⟨"EnvyRust", "wearAlone", "(II[I)V"⟩, 9) := ⟨⟨by decide +kernel, by decide +kernel⟩, List.mem_of_getElem? (i := 14) (by decide +kernel), List.mem_of_getElem? (i := 363) (by decide +kernel), List.mem_of_getElem? (i := 364) (by decide +kernel)⟩
theorem lw_p24 : lw_okq (⟨"EnvyRust$Town", "allThings", "()I"⟩, 8) := ⟨⟨by decide +kernel, by decide +kernel⟩, List.mem_of_getElem? (i := 22) (by decide +kernel), List.mem_of_getElem? (i := 368) (by decide +kernel), List.mem_of_getElem? (i := 369) (by decide +kernel)⟩
theorem lw_p25 : lw_okq (⟨"EnvyRust", "leftPainted", "(I)I"⟩, 9) := ⟨⟨by decide +kernel, by decide +kernel⟩, List.mem_of_getElem? (i := 14) (by decide +kernel), List.mem_of_getElem? (i := 372) (by decide +kernel), List.mem_of_getElem? (i := 373) (by decide +kernel)⟩
theorem lw_p26 : lw_okq (⟨"EnvyRust$Town", "hangingDepth", "(I)I"⟩, 8) := ⟨⟨by decide +kernel, by decide +kernel⟩, List.mem_of_getElem? (i := 22) (by decide +kernel), List.mem_of_getElem? (i := 389) (by decide +kernel), List.mem_of_getElem? (i := 390) (by decide +kernel)⟩
theorem lw_p27 : lw_okq (⟨"EnvyRust$Town", "isSet", "(I)Z"⟩, 8) := ⟨⟨by decide +kernel, by decide +kernel⟩, List.mem_of_getElem? (i := 22) (by decide +kernel), List.mem_of_getElem? (i := 405) (by decide +kernel), List.mem_of_getElem? (i := 406) (by decide +kernel)⟩
theorem lw_p28 : lw_okq (⟨"EnvyRust$Town", "worthOf", "(II)I"⟩, 8) := ⟨⟨by decide +kernel, by decide +kernel⟩, List.mem_of_getElem? (i := 22) (by decide +kernel), List.mem_of_getElem? (i := 410) (by decide +kernel), List.mem_of_getElem? (i := 411) (by decide +kernel)⟩
theorem lw_p29 : lw_okq (⟨"EnvyRust", "canDeal", "(III)Z"⟩, 9) := ⟨⟨by decide +kernel, by decide +kernel⟩, List.mem_of_getElem? (i := 14) (by decide +kernel), List.mem_of_getElem? (i := 418) (by decide +kernel), List.mem_of_getElem? (i := 419) (by decide +kernel)⟩
theorem lw_p30 : lw_okq (⟨"EnvyRust", "leavesNoEnvy", "(IIII)Z"⟩, 9) := ⟨⟨by decide +kernel, by decide +kernel⟩, List.mem_of_getElem? (i := 14) (by decide +kernel), List.mem_of_getElem? (i := 425) (by decide +kernel), List.mem_of_getElem? (i := 426) (by decide +kernel)⟩
theorem lw_p31 : lw_okq (⟨"EnvyRust", "findingOfFit", "(III)I"⟩, 9) := ⟨⟨by decide +kernel, by decide +kernel⟩, List.mem_of_getElem? (i := 14) (by decide +kernel), List.mem_of_getElem? (i := 445) (by decide +kernel), List.mem_of_getElem? (i := 446) (by decide +kernel)⟩
def lw_privs_2 : List (MethodName × Nat) := [(⟨"EnvyRust$Town", "allThick", "()I"⟩, 8), (⟨"EnvyRust$Town", "allWear", "()I"⟩, 8), (⟨"EnvyRust$Town", "visited", "()I"⟩, 8), (⟨"EnvyRust", "startTrial", "()V"⟩, 9), (⟨"EnvyRust$Town", "become", "(LEnvyRust$Town;)V"⟩, 8), (⟨"EnvyRust", "sparingFor", "(IIII)I"⟩, 9), (⟨"EnvyRust", "thickestFor", "(IIII)I"⟩, 9), (⟨"EnvyRust", "wearAlone", "(II[I)V"⟩, 9), (⟨"EnvyRust$Town", "allThings", "()I"⟩, 8), (⟨"EnvyRust", "leftPainted", "(I)I"⟩, 9), (⟨"EnvyRust$Town", "hangingDepth", "(I)I"⟩, 8), (⟨"EnvyRust$Town", "isSet", "(I)Z"⟩, 8), (⟨"EnvyRust$Town", "worthOf", "(II)I"⟩, 8), (⟨"EnvyRust", "canDeal", "(III)Z"⟩, 9), (⟨"EnvyRust", "leavesNoEnvy", "(IIII)Z"⟩, 9), (⟨"EnvyRust", "findingOfFit", "(III)I"⟩, 9)]
theorem lw_r2 : ∀ q ∈ lw_privs_2, lw_okq q := List.forall_mem_cons.mpr ⟨lw_p16, List.forall_mem_cons.mpr ⟨lw_p17, List.forall_mem_cons.mpr ⟨lw_p18, List.forall_mem_cons.mpr ⟨lw_p19, List.forall_mem_cons.mpr ⟨lw_p20, List.forall_mem_cons.mpr ⟨lw_p21, List.forall_mem_cons.mpr ⟨lw_p22, List.forall_mem_cons.mpr ⟨lw_p23, List.forall_mem_cons.mpr ⟨lw_p24, List.forall_mem_cons.mpr ⟨lw_p25, List.forall_mem_cons.mpr ⟨lw_p26, List.forall_mem_cons.mpr ⟨lw_p27, List.forall_mem_cons.mpr ⟨lw_p28, List.forall_mem_cons.mpr ⟨lw_p29, List.forall_mem_cons.mpr ⟨lw_p30, List.forall_mem_cons.mpr ⟨lw_p31, fun _ h => absurd h List.not_mem_nil⟩⟩⟩⟩⟩⟩⟩⟩⟩⟩⟩⟩⟩⟩⟩⟩
theorem lw_p32 : lw_okq (⟨"EnvyRust", "findingOfSheet", "(I)I"⟩, 9) := ⟨⟨by decide +kernel, by decide +kernel⟩, List.mem_of_getElem? (i := 14) (by decide +kernel), List.mem_of_getElem? (i := 449) (by decide +kernel), List.mem_of_getElem? (i := 450) (by decide +kernel)⟩
theorem lw_p33 : lw_okq (⟨"EnvyRust$Sheet", "isMissing", "()Z"⟩, 3) := ⟨⟨by decide +kernel, by decide +kernel⟩, List.mem_of_getElem? (i := 100) (by decide +kernel), List.mem_of_getElem? (i := 456) (by decide +kernel), List.mem_of_getElem? (i := 457) (by decide +kernel)⟩
theorem lw_p34 : lw_okq (⟨"EnvyRust", "fitsWith", "(LEnvyRust$Sheet;III)Z"⟩, 9) := ⟨⟨by decide +kernel, by decide +kernel⟩, List.mem_of_getElem? (i := 14) (by decide +kernel), List.mem_of_getElem? (i := 461) (by decide +kernel), List.mem_of_getElem? (i := 462) (by decide +kernel)⟩
theorem lw_p35 : lw_okq (⟨"EnvyRust$Town", "scatter", "()V"⟩, 8) := ⟨⟨by decide +kernel, by decide +kernel⟩, List.mem_of_getElem? (i := 22) (by decide +kernel), List.mem_of_getElem? (i := 473) (by decide +kernel), List.mem_of_getElem? (i := 474) (by decide +kernel)⟩
theorem lw_p36 : lw_okq (⟨"EnvyRust$Town", "placesOfThings", "()I"⟩, 8) := ⟨⟨by decide +kernel, by decide +kernel⟩, List.mem_of_getElem? (i := 22) (by decide +kernel), List.mem_of_getElem? (i := 482) (by decide +kernel), List.mem_of_getElem? (i := 483) (by decide +kernel)⟩
theorem lw_p37 : lw_okq (⟨"EnvyRust$TextReader", "put", "(B)V"⟩, 7) := ⟨⟨by decide +kernel, by decide +kernel⟩, List.mem_of_getElem? (i := 68) (by decide +kernel), List.mem_of_getElem? (i := 494) (by decide +kernel), List.mem_of_getElem? (i := 495) (by decide +kernel)⟩
theorem lw_p38 : lw_okq (⟨"EnvyRust$TextReader", "readInto", "(LEnvyRust$Town;)I"⟩, 7) := ⟨⟨by decide +kernel, by decide +kernel⟩, List.mem_of_getElem? (i := 68) (by decide +kernel), List.mem_of_getElem? (i := 506) (by decide +kernel), List.mem_of_getElem? (i := 507) (by decide +kernel)⟩
theorem lw_p39 : lw_okq (⟨"EnvyRust$TextReader", "advance", "()V"⟩, 7) := ⟨⟨by decide +kernel, by decide +kernel⟩, List.mem_of_getElem? (i := 68) (by decide +kernel), List.mem_of_getElem? (i := 510) (by decide +kernel), List.mem_of_getElem? (i := 511) (by decide +kernel)⟩
theorem lw_p40 : lw_okq (⟨"EnvyRust$TextReader", "kindTold", "()I"⟩, 7) := ⟨⟨by decide +kernel, by decide +kernel⟩, List.mem_of_getElem? (i := 68) (by decide +kernel), List.mem_of_getElem? (i := 521) (by decide +kernel), List.mem_of_getElem? (i := 522) (by decide +kernel)⟩
theorem lw_p41 : lw_okq (⟨"EnvyRust$TextReader", "isWord", "(Ljava/lang/String;)Z"⟩, 7) := ⟨⟨by decide +kernel, by decide +kernel⟩, List.mem_of_getElem? (i := 68) (by decide +kernel), List.mem_of_getElem? (i := 535) (by decide +kernel), List.mem_of_getElem? (i := 536) (by decide +kernel)⟩
theorem lw_p42 : lw_okq (⟨"EnvyRust$TextReader", "readPerson", "(LEnvyRust$Town;I)V"⟩, 7) := ⟨⟨by decide +kernel, by decide +kernel⟩, List.mem_of_getElem? (i := 68) (by decide +kernel), List.mem_of_getElem? (i := 587) (by decide +kernel), List.mem_of_getElem? (i := 588) (by decide +kernel)⟩
theorem lw_p43 : lw_okq (⟨"EnvyRust$TextReader", "readPerhaps", "(Ljava/lang/String;II)I"⟩, 7) := ⟨⟨by decide +kernel, by decide +kernel⟩, List.mem_of_getElem? (i := 68) (by decide +kernel), List.mem_of_getElem? (i := 592) (by decide +kernel), List.mem_of_getElem? (i := 593) (by decide +kernel)⟩
theorem lw_p44 : lw_okq (⟨"EnvyRust$TextReader", "readNumber", "(I)I"⟩, 7) := ⟨⟨by decide +kernel, by decide +kernel⟩, List.mem_of_getElem? (i := 68) (by decide +kernel), List.mem_of_getElem? (i := 596) (by decide +kernel), List.mem_of_getElem? (i := 597) (by decide +kernel)⟩
theorem lw_p45 : lw_okq (⟨"EnvyRust$TextReader", "fail", "()V"⟩, 7) := ⟨⟨by decide +kernel, by decide +kernel⟩, List.mem_of_getElem? (i := 68) (by decide +kernel), List.mem_of_getElem? (i := 600) (by decide +kernel), List.mem_of_getElem? (i := 601) (by decide +kernel)⟩
theorem lw_p46 : lw_okq (⟨"EnvyRust$TextReader", "readThing", "(LEnvyRust$Town;)V"⟩, 7) := ⟨⟨by decide +kernel, by decide +kernel⟩, List.mem_of_getElem? (i := 68) (by decide +kernel), List.mem_of_getElem? (i := 608) (by decide +kernel), List.mem_of_getElem? (i := 609) (by decide +kernel)⟩
theorem lw_p47 : lw_okq (⟨"EnvyRust$Sheet", "lay", "(II)V"⟩, 3) := ⟨⟨by decide +kernel, by decide +kernel⟩, List.mem_of_getElem? (i := 100) (by decide +kernel), List.mem_of_getElem? (i := 632) (by decide +kernel), List.mem_of_getElem? (i := 633) (by decide +kernel)⟩
def lw_privs_3 : List (MethodName × Nat) := [(⟨"EnvyRust", "findingOfSheet", "(I)I"⟩, 9), (⟨"EnvyRust$Sheet", "isMissing", "()Z"⟩, 3), (⟨"EnvyRust", "fitsWith", "(LEnvyRust$Sheet;III)Z"⟩, 9), (⟨"EnvyRust$Town", "scatter", "()V"⟩, 8), (⟨"EnvyRust$Town", "placesOfThings", "()I"⟩, 8), (⟨"EnvyRust$TextReader", "put", "(B)V"⟩, 7), (⟨"EnvyRust$TextReader", "readInto", "(LEnvyRust$Town;)I"⟩, 7), (⟨"EnvyRust$TextReader", "advance", "()V"⟩, 7), (⟨"EnvyRust$TextReader", "kindTold", "()I"⟩, 7), (⟨"EnvyRust$TextReader", "isWord", "(Ljava/lang/String;)Z"⟩, 7), (⟨"EnvyRust$TextReader", "readPerson", "(LEnvyRust$Town;I)V"⟩, 7), (⟨"EnvyRust$TextReader", "readPerhaps", "(Ljava/lang/String;II)I"⟩, 7), (⟨"EnvyRust$TextReader", "readNumber", "(I)I"⟩, 7), (⟨"EnvyRust$TextReader", "fail", "()V"⟩, 7), (⟨"EnvyRust$TextReader", "readThing", "(LEnvyRust$Town;)V"⟩, 7), (⟨"EnvyRust$Sheet", "lay", "(II)V"⟩, 3)]
theorem lw_r3 : ∀ q ∈ lw_privs_3, lw_okq q := List.forall_mem_cons.mpr ⟨lw_p32, List.forall_mem_cons.mpr ⟨lw_p33, List.forall_mem_cons.mpr ⟨lw_p34, List.forall_mem_cons.mpr ⟨lw_p35, List.forall_mem_cons.mpr ⟨lw_p36, List.forall_mem_cons.mpr ⟨lw_p37, List.forall_mem_cons.mpr ⟨lw_p38, List.forall_mem_cons.mpr ⟨lw_p39, List.forall_mem_cons.mpr ⟨lw_p40, List.forall_mem_cons.mpr ⟨lw_p41, List.forall_mem_cons.mpr ⟨lw_p42, List.forall_mem_cons.mpr ⟨lw_p43, List.forall_mem_cons.mpr ⟨lw_p44, List.forall_mem_cons.mpr ⟨lw_p45, List.forall_mem_cons.mpr ⟨lw_p46, List.forall_mem_cons.mpr ⟨lw_p47, fun _ h => absurd h List.not_mem_nil⟩⟩⟩⟩⟩⟩⟩⟩⟩⟩⟩⟩⟩⟩⟩⟩
theorem lw_p48 : lw_okq (⟨"EnvyRust$Sheet", "put", "(II)V"⟩, 3) := ⟨⟨by decide +kernel, by decide +kernel⟩, List.mem_of_getElem? (i := 100) (by decide +kernel), List.mem_of_getElem? (i := 640) (by decide +kernel), List.mem_of_getElem? (i := 641) (by decide +kernel)⟩
theorem lw_p49 : lw_okq (⟨"EnvyRust$Sheet", "has", "(II)Z"⟩, 3) := ⟨⟨by decide +kernel, by decide +kernel⟩, List.mem_of_getElem? (i := 100) (by decide +kernel), List.mem_of_getElem? (i := 648) (by decide +kernel), List.mem_of_getElem? (i := 649) (by decide +kernel)⟩
theorem lw_p50 : lw_okq (⟨"EnvyRust", "isLink", "(LEnvyRust$Sheet;I)Z"⟩, 9) := ⟨⟨by decide +kernel, by decide +kernel⟩, List.mem_of_getElem? (i := 14) (by decide +kernel), List.mem_of_getElem? (i := 660) (by decide +kernel), List.mem_of_getElem? (i := 661) (by decide +kernel)⟩
theorem lw_p51 : lw_okq (⟨"EnvyRust$Town", "heldSpots", "()I"⟩, 8) := ⟨⟨by decide +kernel, by decide +kernel⟩, List.mem_of_getElem? (i := 22) (by decide +kernel), List.mem_of_getElem? (i := 680) (by decide +kernel), List.mem_of_getElem? (i := 681) (by decide +kernel)⟩
theorem lw_p52 : lw_okq (⟨"EnvyRustModel", "finding", "(I)I"⟩, 24) := ⟨⟨by decide +kernel, by decide +kernel⟩, List.mem_of_getElem? (i := 688) (by decide +kernel), List.mem_of_getElem? (i := 787) (by decide +kernel), List.mem_of_getElem? (i := 788) (by decide +kernel)⟩
theorem lw_p53 : lw_okq (⟨"EnvyRustModel", "comes", "(IIIIII)I"⟩, 24) := ⟨⟨by decide +kernel, by decide +kernel⟩, List.mem_of_getElem? (i := 688) (by decide +kernel), List.mem_of_getElem? (i := 792) (by decide +kernel), List.mem_of_getElem? (i := 793) (by decide +kernel)⟩
theorem lw_p54 : lw_okq (⟨"EnvyRustModel", "isThing", "(I)Z"⟩, 24) := ⟨⟨by decide +kernel, by decide +kernel⟩, List.mem_of_getElem? (i := 688) (by decide +kernel), List.mem_of_getElem? (i := 803) (by decide +kernel), List.mem_of_getElem? (i := 804) (by decide +kernel)⟩
theorem lw_p55 : lw_okq (⟨"EnvyRustModel", "wornNow", "(I)I"⟩, 24) := ⟨⟨by decide +kernel, by decide +kernel⟩, List.mem_of_getElem? (i := 688) (by decide +kernel), List.mem_of_getElem? (i := 807) (by decide +kernel), List.mem_of_getElem? (i := 808) (by decide +kernel)⟩
theorem lw_p56 : lw_okq (⟨"EnvyRustModel", "personIs", "(II)I"⟩, 24) := ⟨⟨by decide +kernel, by decide +kernel⟩, List.mem_of_getElem? (i := 688) (by decide +kernel), List.mem_of_getElem? (i := 811) (by decide +kernel), List.mem_of_getElem? (i := 812) (by decide +kernel)⟩
theorem lw_p57 : lw_okq (⟨"EnvyRustModel", "thingIs", "(II)I"⟩, 24) := ⟨⟨by decide +kernel, by decide +kernel⟩, List.mem_of_getElem? (i := 688) (by decide +kernel), List.mem_of_getElem? (i := 818) (by decide +kernel), List.mem_of_getElem? (i := 819) (by decide +kernel)⟩
theorem lw_p58 : lw_okq (⟨"EnvyRustModel", "envyOf", "(II)I"⟩, 24) := ⟨⟨by decide +kernel, by decide +kernel⟩, List.mem_of_getElem? (i := 688) (by decide +kernel), List.mem_of_getElem? (i := 822) (by decide +kernel), List.mem_of_getElem? (i := 823) (by decide +kernel)⟩
theorem lw_p59 : lw_okq (⟨"EnvyRustModel", "envyIf", "(III)I"⟩, 24) := ⟨⟨by decide +kernel, by decide +kernel⟩, List.mem_of_getElem? (i := 688) (by decide +kernel), List.mem_of_getElem? (i := 826) (by decide +kernel), List.mem_of_getElem? (i := 827) (by decide +kernel)⟩
theorem lw_p60 : lw_okq (⟨"EnvyRustModel", "isGone", "(I)Z"⟩, 24) := ⟨⟨by decide +kernel, by decide +kernel⟩, List.mem_of_getElem? (i := 688) (by decide +kernel), List.mem_of_getElem? (i := 830) (by decide +kernel), List.mem_of_getElem? (i := 831) (by decide +kernel)⟩
theorem lw_p61 : lw_okq (⟨"EnvyRustModel", "mayForge", "(III)Z"⟩, 24) := ⟨⟨by decide +kernel, by decide +kernel⟩, List.mem_of_getElem? (i := 688) (by decide +kernel), List.mem_of_getElem? (i := 846) (by decide +kernel), List.mem_of_getElem? (i := 847) (by decide +kernel)⟩
theorem lw_p62 : lw_okq (⟨"EnvyRustModel", "isPerson", "(I)Z"⟩, 24) := ⟨⟨by decide +kernel, by decide +kernel⟩, List.mem_of_getElem? (i := 688) (by decide +kernel), List.mem_of_getElem? (i := 856) (by decide +kernel), List.mem_of_getElem? (i := 857) (by decide +kernel)⟩
theorem lw_p63 : lw_okq (⟨"EnvyRustModel", "hangsOn", "(II)Z"⟩, 24) := ⟨⟨by decide +kernel, by decide +kernel⟩, List.mem_of_getElem? (i := 688) (by decide +kernel), List.mem_of_getElem? (i := 860) (by decide +kernel), List.mem_of_getElem? (i := 861) (by decide +kernel)⟩
def lw_privs_4 : List (MethodName × Nat) := [(⟨"EnvyRust$Sheet", "put", "(II)V"⟩, 3), (⟨"EnvyRust$Sheet", "has", "(II)Z"⟩, 3), (⟨"EnvyRust", "isLink", "(LEnvyRust$Sheet;I)Z"⟩, 9), (⟨"EnvyRust$Town", "heldSpots", "()I"⟩, 8), (⟨"EnvyRustModel", "finding", "(I)I"⟩, 24), (⟨"EnvyRustModel", "comes", "(IIIIII)I"⟩, 24), (⟨"EnvyRustModel", "isThing", "(I)Z"⟩, 24), (⟨"EnvyRustModel", "wornNow", "(I)I"⟩, 24), (⟨"EnvyRustModel", "personIs", "(II)I"⟩, 24), (⟨"EnvyRustModel", "thingIs", "(II)I"⟩, 24), (⟨"EnvyRustModel", "envyOf", "(II)I"⟩, 24), (⟨"EnvyRustModel", "envyIf", "(III)I"⟩, 24), (⟨"EnvyRustModel", "isGone", "(I)Z"⟩, 24), (⟨"EnvyRustModel", "mayForge", "(III)Z"⟩, 24), (⟨"EnvyRustModel", "isPerson", "(I)Z"⟩, 24), (⟨"EnvyRustModel", "hangsOn", "(II)Z"⟩, 24)]
theorem lw_r4 : ∀ q ∈ lw_privs_4, lw_okq q := List.forall_mem_cons.mpr ⟨lw_p48, List.forall_mem_cons.mpr ⟨lw_p49, List.forall_mem_cons.mpr ⟨lw_p50, List.forall_mem_cons.mpr ⟨lw_p51, List.forall_mem_cons.mpr ⟨lw_p52, List.forall_mem_cons.mpr ⟨lw_p53, List.forall_mem_cons.mpr ⟨lw_p54, List.forall_mem_cons.mpr ⟨lw_p55, List.forall_mem_cons.mpr ⟨lw_p56, List.forall_mem_cons.mpr ⟨lw_p57, List.forall_mem_cons.mpr ⟨lw_p58, List.forall_mem_cons.mpr ⟨lw_p59, List.forall_mem_cons.mpr ⟨lw_p60, List.forall_mem_cons.mpr ⟨lw_p61, List.forall_mem_cons.mpr ⟨lw_p62, List.forall_mem_cons.mpr ⟨lw_p63, fun _ h => absurd h List.not_mem_nil⟩⟩⟩⟩⟩⟩⟩⟩⟩⟩⟩⟩⟩⟩⟩⟩
theorem lw_p64 : lw_okq (⟨"EnvyRustModel", "become", "(II)I"⟩, 24) := ⟨⟨by decide +kernel, by decide +kernel⟩, List.mem_of_getElem? (i := 688) (by decide +kernel), List.mem_of_getElem? (i := 865) (by decide +kernel), List.mem_of_getElem? (i := 866) (by decide +kernel)⟩
theorem lw_p65 : lw_okq (⟨"EnvyRustModel", "joins", "(III)I"⟩, 24) := ⟨⟨by decide +kernel, by decide +kernel⟩, List.mem_of_getElem? (i := 688) (by decide +kernel), List.mem_of_getElem? (i := 876) (by decide +kernel), List.mem_of_getElem? (i := 877) (by decide +kernel)⟩
theorem lw_p66 : lw_okq (⟨"EnvyRustModel", "ownedBy", "(I)I"⟩, 24) := ⟨⟨by decide +kernel, by decide +kernel⟩, List.mem_of_getElem? (i := 688) (by decide +kernel), List.mem_of_getElem? (i := 884) (by decide +kernel), List.mem_of_getElem? (i := 885) (by decide +kernel)⟩
theorem lw_p67 : lw_okq (⟨"EnvyRustModel", "days", "(I)V"⟩, 24) := ⟨⟨by decide +kernel, by decide +kernel⟩, List.mem_of_getElem? (i := 688) (by decide +kernel), List.mem_of_getElem? (i := 901) (by decide +kernel), List.mem_of_getElem? (i := 902) (by decide +kernel)⟩
theorem lw_p68 : lw_okq (⟨"EnvyRustModel", "day", "()V"⟩, 24) := ⟨⟨by decide +kernel, by decide +kernel⟩, List.mem_of_getElem? (i := 688) (by decide +kernel), List.mem_of_getElem? (i := 905) (by decide +kernel), List.mem_of_getElem? (i := 906) (by decide +kernel)⟩
theorem lw_p69 : lw_okq (⟨"EnvyRustModel", "falls", "()Z"⟩, 24) := ⟨⟨by decide +kernel, by decide +kernel⟩, List.mem_of_getElem? (i := 688) (by decide +kernel), List.mem_of_getElem? (i := 909) (by decide +kernel), List.mem_of_getElem? (i := 910) (by decide +kernel)⟩
theorem lw_p70 : lw_okq (⟨"EnvyRustModel", "goneNow", "()I"⟩, 24) := ⟨⟨by decide +kernel, by decide +kernel⟩, List.mem_of_getElem? (i := 688) (by decide +kernel), List.mem_of_getElem? (i := 913) (by decide +kernel), List.mem_of_getElem? (i := 914) (by decide +kernel)⟩
theorem lw_p71 : lw_okq (⟨"EnvyRustModel", "thickNow", "()I"⟩, 24) := ⟨⟨by decide +kernel, by decide +kernel⟩, List.mem_of_getElem? (i := 688) (by decide +kernel), List.mem_of_getElem? (i := 924) (by decide +kernel), List.mem_of_getElem? (i := 925) (by decide +kernel)⟩
theorem lw_p72 : lw_okq (⟨"EnvyRustModel", "isSomebodyAt", "(I)Z"⟩, 24) := ⟨⟨by decide +kernel, by decide +kernel⟩, List.mem_of_getElem? (i := 688) (by decide +kernel), List.mem_of_getElem? (i := 928) (by decide +kernel), List.mem_of_getElem? (i := 929) (by decide +kernel)⟩
theorem lw_p73 : lw_okq (⟨"EnvyRustModel", "thickBehind", "(II)I"⟩, 24) := ⟨⟨by decide +kernel, by decide +kernel⟩, List.mem_of_getElem? (i := 688) (by decide +kernel), List.mem_of_getElem? (i := 936) (by decide +kernel), List.mem_of_getElem? (i := 937) (by decide +kernel)⟩
theorem lw_p74 : lw_okq (⟨"EnvyRustModel", "putBack", "(I)I"⟩, 24) := ⟨⟨by decide +kernel, by decide +kernel⟩, List.mem_of_getElem? (i := 688) (by decide +kernel), List.mem_of_getElem? (i := 943) (by decide +kernel), List.mem_of_getElem? (i := 944) (by decide +kernel)⟩
theorem lw_p75 : lw_okq (⟨"EnvyRustModel", "orNone", "(I)I"⟩, 24) := ⟨⟨by decide +kernel, by decide +kernel⟩, List.mem_of_getElem? (i := 688) (by decide +kernel), List.mem_of_getElem? (i := 951) (by decide +kernel), List.mem_of_getElem? (i := 952) (by decide +kernel)⟩
theorem lw_p76 : lw_okq (⟨"EnvyRustModel", "lostIn", "(I)I"⟩, 24) := ⟨⟨by decide +kernel, by decide +kernel⟩, List.mem_of_getElem? (i := 688) (by decide +kernel), List.mem_of_getElem? (i := 964) (by decide +kernel), List.mem_of_getElem? (i := 965) (by decide +kernel)⟩
theorem lw_p77 : lw_okq (⟨"EnvyRustModel", "leastLoss", "(III)I"⟩, 24) := ⟨⟨by decide +kernel, by decide +kernel⟩, List.mem_of_getElem? (i := 688) (by decide +kernel), List.mem_of_getElem? (i := 976) (by decide +kernel), List.mem_of_getElem? (i := 977) (by decide +kernel)⟩
theorem lw_p78 : lw_okq (⟨"EnvyRustModel", "thickest", "(IIII)I"⟩, 24) := ⟨⟨by decide +kernel, by decide +kernel⟩, List.mem_of_getElem? (i := 688) (by decide +kernel), List.mem_of_getElem? (i := 989) (by decide +kernel), List.mem_of_getElem? (i := 990) (by decide +kernel)⟩
theorem lw_p79 : lw_okq (⟨"EnvyRustModel", "lostPainted", "(II)I"⟩, 24) := ⟨⟨by decide +kernel, by decide +kernel⟩, List.mem_of_getElem? (i := 688) (by decide +kernel), List.mem_of_getElem? (i := 1005) (by decide +kernel), List.mem_of_getElem? (i := 1006) (by decide +kernel)⟩
def lw_privs_5 : List (MethodName × Nat) := [(⟨"EnvyRustModel", "become", "(II)I"⟩, 24), (⟨"EnvyRustModel", "joins", "(III)I"⟩, 24), (⟨"EnvyRustModel", "ownedBy", "(I)I"⟩, 24), (⟨"EnvyRustModel", "days", "(I)V"⟩, 24), (⟨"EnvyRustModel", "day", "()V"⟩, 24), (⟨"EnvyRustModel", "falls", "()Z"⟩, 24), (⟨"EnvyRustModel", "goneNow", "()I"⟩, 24), (⟨"EnvyRustModel", "thickNow", "()I"⟩, 24), (⟨"EnvyRustModel", "isSomebodyAt", "(I)Z"⟩, 24), (⟨"EnvyRustModel", "thickBehind", "(II)I"⟩, 24), (⟨"EnvyRustModel", "putBack", "(I)I"⟩, 24), (⟨"EnvyRustModel", "orNone", "(I)I"⟩, 24), (⟨"EnvyRustModel", "lostIn", "(I)I"⟩, 24), (⟨"EnvyRustModel", "leastLoss", "(III)I"⟩, 24), (⟨"EnvyRustModel", "thickest", "(IIII)I"⟩, 24), (⟨"EnvyRustModel", "lostPainted", "(II)I"⟩, 24)]
theorem lw_r5 : ∀ q ∈ lw_privs_5, lw_okq q := List.forall_mem_cons.mpr ⟨lw_p64, List.forall_mem_cons.mpr ⟨lw_p65, List.forall_mem_cons.mpr ⟨lw_p66, List.forall_mem_cons.mpr ⟨lw_p67, List.forall_mem_cons.mpr ⟨lw_p68, List.forall_mem_cons.mpr ⟨lw_p69, List.forall_mem_cons.mpr ⟨lw_p70, List.forall_mem_cons.mpr ⟨lw_p71, List.forall_mem_cons.mpr ⟨lw_p72, List.forall_mem_cons.mpr ⟨lw_p73, List.forall_mem_cons.mpr ⟨lw_p74, List.forall_mem_cons.mpr ⟨lw_p75, List.forall_mem_cons.mpr ⟨lw_p76, List.forall_mem_cons.mpr ⟨lw_p77, List.forall_mem_cons.mpr ⟨lw_p78, List.forall_mem_cons.mpr ⟨lw_p79, fun _ h => absurd h List.not_mem_nil⟩⟩⟩⟩⟩⟩⟩⟩⟩⟩⟩⟩⟩⟩⟩⟩
theorem lw_p80 : lw_okq (⟨"EnvyRustModel", "fallWith", "(I)I"⟩, 24) := ⟨⟨by decide +kernel, by decide +kernel⟩, List.mem_of_getElem? (i := 688) (by decide +kernel), List.mem_of_getElem? (i := 1020) (by decide +kernel), List.mem_of_getElem? (i := 1021) (by decide +kernel)⟩
theorem lw_p81 : lw_okq (⟨"EnvyRustModel", "areThings", "(I)Z"⟩, 24) := ⟨⟨by decide +kernel, by decide +kernel⟩, List.mem_of_getElem? (i := 688) (by decide +kernel), List.mem_of_getElem? (i := 1040) (by decide +kernel), List.mem_of_getElem? (i := 1041) (by decide +kernel)⟩
theorem lw_p82 : lw_okq (⟨"EnvyRustModel", "worthOf", "(II)I"⟩, 24) := ⟨⟨by decide +kernel, by decide +kernel⟩, List.mem_of_getElem? (i := 688) (by decide +kernel), List.mem_of_getElem? (i := 1044) (by decide +kernel), List.mem_of_getElem? (i := 1045) (by decide +kernel)⟩
theorem lw_p83 : lw_okq (⟨"EnvyRustModel", "isPair", "(III)Z"⟩, 24) := ⟨⟨by decide +kernel, by decide +kernel⟩, List.mem_of_getElem? (i := 688) (by decide +kernel), List.mem_of_getElem? (i := 1052) (by decide +kernel), List.mem_of_getElem? (i := 1053) (by decide +kernel)⟩
theorem lw_p84 : lw_okq (⟨"EnvyRustModel", "isDeal", "(IIII)Z"⟩, 24) := ⟨⟨by decide +kernel, by decide +kernel⟩, List.mem_of_getElem? (i := 688) (by decide +kernel), List.mem_of_getElem? (i := 1056) (by decide +kernel), List.mem_of_getElem? (i := 1057) (by decide +kernel)⟩
theorem lw_p85 : lw_okq (⟨"EnvyRustModel", "dealsOf", "(III)I"⟩, 24) := ⟨⟨by decide +kernel, by decide +kernel⟩, List.mem_of_getElem? (i := 688) (by decide +kernel), List.mem_of_getElem? (i := 1064) (by decide +kernel), List.mem_of_getElem? (i := 1065) (by decide +kernel)⟩
theorem lw_p86 : lw_okq (⟨"EnvyRustModel", "lacks", "(I)I"⟩, 24) := ⟨⟨by decide +kernel, by decide +kernel⟩, List.mem_of_getElem? (i := 688) (by decide +kernel), List.mem_of_getElem? (i := 1080) (by decide +kernel), List.mem_of_getElem? (i := 1081) (by decide +kernel)⟩
theorem lw_p87 : lw_okq (⟨"EnvyRustModel", "fitting", "(III)I"⟩, 24) := ⟨⟨by decide +kernel, by decide +kernel⟩, List.mem_of_getElem? (i := 688) (by decide +kernel), List.mem_of_getElem? (i := 1088) (by decide +kernel), List.mem_of_getElem? (i := 1089) (by decide +kernel)⟩
theorem lw_p88 : lw_okq (⟨"EnvyRustModel", "isWornSo", "(II)Z"⟩, 24) := ⟨⟨by decide +kernel, by decide +kernel⟩, List.mem_of_getElem? (i := 688) (by decide +kernel), List.mem_of_getElem? (i := 1092) (by decide +kernel), List.mem_of_getElem? (i := 1093) (by decide +kernel)⟩
theorem lw_p89 : lw_okq (⟨"EnvyRustModel", "drawn", "()I"⟩, 24) := ⟨⟨by decide +kernel, by decide +kernel⟩, List.mem_of_getElem? (i := 688) (by decide +kernel), List.mem_of_getElem? (i := 1104) (by decide +kernel), List.mem_of_getElem? (i := 1105) (by decide +kernel)⟩
theorem lw_p90 : lw_okq (⟨"EnvyRustModel", "next", "()V"⟩, 24) := ⟨⟨by decide +kernel, by decide +kernel⟩, List.mem_of_getElem? (i := 688) (by decide +kernel), List.mem_of_getElem? (i := 1129) (by decide +kernel), List.mem_of_getElem? (i := 1130) (by decide +kernel)⟩
theorem lw_p91 : lw_okq (⟨"EnvyRustModel", "byteAt", "(I)I"⟩, 24) := ⟨⟨by decide +kernel, by decide +kernel⟩, List.mem_of_getElem? (i := 688) (by decide +kernel), List.mem_of_getElem? (i := 1133) (by decide +kernel), List.mem_of_getElem? (i := 1134) (by decide +kernel)⟩
theorem lw_p92 : lw_okq (⟨"EnvyRustModel", "readItem", "()V"⟩, 24) := ⟨⟨by decide +kernel, by decide +kernel⟩, List.mem_of_getElem? (i := 688) (by decide +kernel), List.mem_of_getElem? (i := 1137) (by decide +kernel), List.mem_of_getElem? (i := 1138) (by decide +kernel)⟩
theorem lw_p93 : lw_okq (⟨"EnvyRustModel", "kindTold", "()I"⟩, 24) := ⟨⟨by decide +kernel, by decide +kernel⟩, List.mem_of_getElem? (i := 688) (by decide +kernel), List.mem_of_getElem? (i := 1141) (by decide +kernel), List.mem_of_getElem? (i := 1142) (by decide +kernel)⟩
theorem lw_p94 : lw_okq (⟨"EnvyRustModel", "isWord", "(Ljava/lang/String;)Z"⟩, 24) := ⟨⟨by decide +kernel, by decide +kernel⟩, List.mem_of_getElem? (i := 688) (by decide +kernel), List.mem_of_getElem? (i := 1145) (by decide +kernel), List.mem_of_getElem? (i := 1146) (by decide +kernel)⟩
theorem lw_p95 : lw_okq (⟨"EnvyRustModel", "must", "(Z)V"⟩, 24) := ⟨⟨by decide +kernel, by decide +kernel⟩, List.mem_of_getElem? (i := 688) (by decide +kernel), List.mem_of_getElem? (i := 1151) (by decide +kernel), List.mem_of_getElem? (i := 1152) (by decide +kernel)⟩
def lw_privs_6 : List (MethodName × Nat) := [(⟨"EnvyRustModel", "fallWith", "(I)I"⟩, 24), (⟨"EnvyRustModel", "areThings", "(I)Z"⟩, 24), (⟨"EnvyRustModel", "worthOf", "(II)I"⟩, 24), (⟨"EnvyRustModel", "isPair", "(III)Z"⟩, 24), (⟨"EnvyRustModel", "isDeal", "(IIII)Z"⟩, 24), (⟨"EnvyRustModel", "dealsOf", "(III)I"⟩, 24), (⟨"EnvyRustModel", "lacks", "(I)I"⟩, 24), (⟨"EnvyRustModel", "fitting", "(III)I"⟩, 24), (⟨"EnvyRustModel", "isWornSo", "(II)Z"⟩, 24), (⟨"EnvyRustModel", "drawn", "()I"⟩, 24), (⟨"EnvyRustModel", "next", "()V"⟩, 24), (⟨"EnvyRustModel", "byteAt", "(I)I"⟩, 24), (⟨"EnvyRustModel", "readItem", "()V"⟩, 24), (⟨"EnvyRustModel", "kindTold", "()I"⟩, 24), (⟨"EnvyRustModel", "isWord", "(Ljava/lang/String;)Z"⟩, 24), (⟨"EnvyRustModel", "must", "(Z)V"⟩, 24)]
theorem lw_r6 : ∀ q ∈ lw_privs_6, lw_okq q := List.forall_mem_cons.mpr ⟨lw_p80, List.forall_mem_cons.mpr ⟨lw_p81, List.forall_mem_cons.mpr ⟨lw_p82, List.forall_mem_cons.mpr ⟨lw_p83, List.forall_mem_cons.mpr ⟨lw_p84, List.forall_mem_cons.mpr ⟨lw_p85, List.forall_mem_cons.mpr ⟨lw_p86, List.forall_mem_cons.mpr ⟨lw_p87, List.forall_mem_cons.mpr ⟨lw_p88, List.forall_mem_cons.mpr ⟨lw_p89, List.forall_mem_cons.mpr ⟨lw_p90, List.forall_mem_cons.mpr ⟨lw_p91, List.forall_mem_cons.mpr ⟨lw_p92, List.forall_mem_cons.mpr ⟨lw_p93, List.forall_mem_cons.mpr ⟨lw_p94, List.forall_mem_cons.mpr ⟨lw_p95, fun _ h => absurd h List.not_mem_nil⟩⟩⟩⟩⟩⟩⟩⟩⟩⟩⟩⟩⟩⟩⟩⟩
theorem lw_p96 : lw_okq (⟨"EnvyRustModel", "afterWord", "(Ljava/lang/String;III)I"⟩, 24) := ⟨⟨by decide +kernel, by decide +kernel⟩, List.mem_of_getElem? (i := 688) (by decide +kernel), List.mem_of_getElem? (i := 1156) (by decide +kernel), List.mem_of_getElem? (i := 1157) (by decide +kernel)⟩
theorem lw_p97 : lw_okq (⟨"EnvyRustModel", "number", "(II)I"⟩, 24) := ⟨⟨by decide +kernel, by decide +kernel⟩, List.mem_of_getElem? (i := 688) (by decide +kernel), List.mem_of_getElem? (i := 1160) (by decide +kernel), List.mem_of_getElem? (i := 1161) (by decide +kernel)⟩
theorem lw_p98 : lw_okq (⟨"EnvyRustModel", "item", "(IIIIIII)V"⟩, 24) := ⟨⟨by decide +kernel, by decide +kernel⟩, List.mem_of_getElem? (i := 688) (by decide +kernel), List.mem_of_getElem? (i := 1166) (by decide +kernel), List.mem_of_getElem? (i := 1167) (by decide +kernel)⟩
theorem lw_p99 : lw_okq (⟨"EnvyRustModel", "isToldSo", "(I)I"⟩, 24) := ⟨⟨by decide +kernel, by decide +kernel⟩, List.mem_of_getElem? (i := 688) (by decide +kernel), List.mem_of_getElem? (i := 1175) (by decide +kernel), List.mem_of_getElem? (i := 1176) (by decide +kernel)⟩
def lw_privs_7 : List (MethodName × Nat) := [(⟨"EnvyRustModel", "afterWord", "(Ljava/lang/String;III)I"⟩, 24), (⟨"EnvyRustModel", "number", "(II)I"⟩, 24), (⟨"EnvyRustModel", "item", "(IIIIIII)V"⟩, 24), (⟨"EnvyRustModel", "isToldSo", "(I)I"⟩, 24)]
theorem lw_r7 : ∀ q ∈ lw_privs_7, lw_okq q := List.forall_mem_cons.mpr ⟨lw_p96, List.forall_mem_cons.mpr ⟨lw_p97, List.forall_mem_cons.mpr ⟨lw_p98, List.forall_mem_cons.mpr ⟨lw_p99, fun _ h => absurd h List.not_mem_nil⟩⟩⟩⟩
def lw_privs : List (MethodName × Nat) := lw_privs_1 ++ (lw_privs_2 ++ (lw_privs_3 ++ (lw_privs_4 ++ (lw_privs_5 ++ (lw_privs_6 ++ (lw_privs_7))))))
def lw_tbl : List Cond := k2_sels lw_privs ++ tables_1
theorem lw_privs_ok : ∀ q ∈ lw_privs, lw_okq q := by
  show ∀ q ∈ lw_privs_1 ++ (lw_privs_2 ++ (lw_privs_3 ++ (lw_privs_4 ++ (lw_privs_5 ++ (lw_privs_6 ++ (lw_privs_7)))))), lw_okq q
  exact List.forall_mem_append.mpr ⟨lw_r1, List.forall_mem_append.mpr ⟨lw_r2, List.forall_mem_append.mpr ⟨lw_r3, List.forall_mem_append.mpr ⟨lw_r4, List.forall_mem_append.mpr ⟨lw_r5, List.forall_mem_append.mpr ⟨lw_r6, lw_r7⟩⟩⟩⟩⟩⟩
def RX0 : String := "EnvyRust$Sheet"
def TX0 : u_T := fun k => match k with
  | 0 => ("EnvyRust$Sheet", "row", "[I", true)
  | 1 => ("EnvyRust$Sheet", "bits", "I", false)
  | _ => ("EnvyRust$Sheet", "length", "I", false)
def tyX0 : Nat → FieldType := fun k => match k with
  | 0 => .array .int
  | 1 => .int
  | _ => .int
theorem nmX0 : ∀ a, a < 3 → ∀ b, b < 3 → a ≠ b → (TX0 a).2.1 ≠ (TX0 b).2.1 := by decide +kernel
theorem tyX0_ok : ∀ k, k < 3 → parseFieldDescriptor (TX0 k).2.2.1 = some (tyX0 k) := by decide +kernel
def RX1 : String := "EnvyRust$TextReader"
def TX1 : u_T := fun k => match k with
  | 0 => ("EnvyRust$TextReader", "tape", "[B", true)
  | 1 => ("EnvyRust$TextReader", "size", "I", false)
  | 2 => ("EnvyRust$TextReader", "token", "I", false)
  | 3 => ("EnvyRust$TextReader", "start", "I", false)
  | 4 => ("EnvyRust$TextReader", "end", "I", false)
  | 5 => ("EnvyRust$TextReader", "value", "I", false)
  | _ => ("EnvyRust$TextReader", "fault", "I", false)
def tyX1 : Nat → FieldType := fun k => match k with
  | 0 => .array .byte
  | 1 => .int
  | 2 => .int
  | 3 => .int
  | 4 => .int
  | 5 => .int
  | _ => .int
theorem nmX1 : ∀ a, a < 7 → ∀ b, b < 7 → a ≠ b → (TX1 a).2.1 ≠ (TX1 b).2.1 := by decide +kernel
theorem tyX1_ok : ∀ k, k < 7 → parseFieldDescriptor (TX1 k).2.2.1 = some (tyX1 k) := by decide +kernel
def RX2 : String := "EnvyRust$Town"
def TX2 : u_T := fun k => match k with
  | 0 => ("EnvyRust$Town", "iron", "[[I", true)
  | 1 => ("EnvyRust$Town", "folk", "[[I", true)
  | 2 => ("EnvyRust$Town", "spots", "[I", true)
  | 3 => ("EnvyRust$Town", "things", "I", false)
  | 4 => ("EnvyRust$Town", "people", "I", false)
  | 5 => ("EnvyRust$Town", "day", "I", false)
  | 6 => ("EnvyRust$Town", "z", "I", false)
  | _ => ("EnvyRust$Town", "calm", "I", false)
def tyX2 : Nat → FieldType := fun k => match k with
  | 0 => .array (.array .int)
  | 1 => .array (.array .int)
  | 2 => .array .int
  | 3 => .int
  | 4 => .int
  | 5 => .int
  | 6 => .int
  | _ => .int
theorem nmX2 : ∀ a, a < 8 → ∀ b, b < 8 → a ≠ b → (TX2 a).2.1 ≠ (TX2 b).2.1 := by decide +kernel
theorem tyX2_ok : ∀ k, k < 8 → parseFieldDescriptor (TX2 k).2.2.1 = some (tyX2 k) := by decide +kernel
def RX3 : String := "EnvyRust"
def TX3 : u_T := fun k => match k with
  | 0 => ("EnvyRust", "town", "LEnvyRust$Town;", true)
  | 1 => ("EnvyRust", "kept", "LEnvyRust$Town;", true)
  | 2 => ("EnvyRust", "trial", "LEnvyRust$Town;", true)
  | 3 => ("EnvyRust", "reader", "LEnvyRust$TextReader;", true)
  | 4 => ("EnvyRust", "sheets", "[LEnvyRust$Sheet;", true)
  | 5 => ("EnvyRust", "findings", "[I", true)
  | 6 => ("EnvyRust", "imaged", "Z", false)
  | 7 => ("EnvyRust", "bare", "[I", true)
  | _ => ("EnvyRust", "dull", "[I", true)
def tyX3 : Nat → FieldType := fun k => match k with
  | 0 => .object "EnvyRust$Town"
  | 1 => .object "EnvyRust$Town"
  | 2 => .object "EnvyRust$Town"
  | 3 => .object "EnvyRust$TextReader"
  | 4 => .array (.object "EnvyRust$Sheet")
  | 5 => .array .int
  | 6 => .boolean
  | 7 => .array .int
  | _ => .array .int
theorem nmX3 : ∀ a, a < 9 → ∀ b, b < 9 → a ≠ b → (TX3 a).2.1 ≠ (TX3 b).2.1 := by decide +kernel
theorem tyX3_ok : ∀ k, k < 9 → parseFieldDescriptor (TX3 k).2.2.1 = some (tyX3 k) := by decide +kernel
def RX4 : String := "EnvyRustModel"
def TX4 : u_T := fun k => match k with
  | 0 => ("EnvyRustModel", "now", "[I", true)
  | 1 => ("EnvyRustModel", "kept", "[I", true)
  | 2 => ("EnvyRustModel", "aside", "[I", true)
  | 3 => ("EnvyRustModel", "isKept", "Z", false)
  | 4 => ("EnvyRustModel", "found", "[I", true)
  | 5 => ("EnvyRustModel", "worn", "[I", true)
  | 6 => ("EnvyRustModel", "without", "I", false)
  | 7 => ("EnvyRustModel", "paints", "[I", true)
  | 8 => ("EnvyRustModel", "tape", "[I", true)
  | 9 => ("EnvyRustModel", "taped", "I", false)
  | 10 => ("EnvyRustModel", "begins", "I", false)
  | 11 => ("EnvyRustModel", "ends", "I", false)
  | 12 => ("EnvyRustModel", "sort", "I", false)
  | 13 => ("EnvyRustModel", "value", "I", false)
  | 14 => ("EnvyRustModel", "isWrong", "Z", false)
  | 15 => ("EnvyRustModel", "kindNames", "[Ljava/lang/String;", true)
  | 16 => ("EnvyRustModel", "items", "[I", true)
  | 17 => ("EnvyRustModel", "itemMany", "I", false)
  | 18 => ("EnvyRustModel", "thingThen", "I", false)
  | 19 => ("EnvyRustModel", "personThen", "I", false)
  | 20 => ("EnvyRustModel", "widths", "[I", true)
  | 21 => ("EnvyRustModel", "sizes", "[I", true)
  | 22 => ("EnvyRustModel", "numbers", "[I", true)
  | _ => ("EnvyRustModel", "moved", "[I", true)
def tyX4 : Nat → FieldType := fun k => match k with
  | 0 => .array .int
  | 1 => .array .int
  | 2 => .array .int
  | 3 => .boolean
  | 4 => .array .int
  | 5 => .array .int
  | 6 => .int
  | 7 => .array .int
  | 8 => .array .int
  | 9 => .int
  | 10 => .int
  | 11 => .int
  | 12 => .int
  | 13 => .int
  | 14 => .boolean
  | 15 => .array (.object "java/lang/String")
  | 16 => .array .int
  | 17 => .int
  | 18 => .int
  | 19 => .int
  | 20 => .array .int
  | 21 => .array .int
  | 22 => .array .int
  | _ => .array .int
theorem nmX4 : ∀ a, a < 24 → ∀ b, b < 24 → a ≠ b → (TX4 a).2.1 ≠ (TX4 b).2.1 := by decide +kernel
theorem tyX4_ok : ∀ k, k < 24 → parseFieldDescriptor (TX4 k).2.2.1 = some (tyX4 k) := by decide +kernel
abbrev vwCl : List vw_C := [(RX0, TX0, 3), (RX1, TX1, 7), (RX2, TX2, 8), (RX3, TX3, 9), (RX4, TX4, 24)]
end
section
/-! the tables of the small machine: printed by a program out of the claim's own listing -/
abbrev mEnt : Type := Instr × Nat × Nat × Nat × Nat × Nat × Int
abbrev mRow : Type := Nat × MethodName × ByteArray × Nat × Option FieldType × Nat × Nat
abbrev mLnk : Type := Nat × Nat × Nat × Nat × Nat × Int
abbrev a0 (i : Instr) (n j k a b : Nat) (z : Int) : Option mEnt := some (i, n, j, k, a, b, z)
abbrev a1 (i : Instr) : Option mEnt := some (i, 1, 0, 0, 0, 0, 0)
abbrev a2 (i : Instr) : Option mEnt := some (i, 2, 0, 0, 0, 0, 0)
abbrev a3 (i : Instr) : Option mEnt := some (i, 3, 0, 0, 0, 0, 0)
noncomputable def mNmL : List String := ["EnvyRust$Sheet", "EnvyRust$TextReader", "EnvyRust$Town", "EnvyRust", "EnvyRustModel", "EnvyRustLaw", "java/lang/Integer", "java/lang/Math", "java/lang/String", "java/lang/StringLatin1", "java/lang/StringUTF16", "jdk/internal/util/Preconditions", "java/lang/Object", "java/lang/System"]
noncomputable def mNm (k : Nat) : String := mNmL.getD k ""
/-- 0: EnvyRust.new -/
noncomputable def mk_0 : List (List (Option mEnt)) := [[a1 (.aload_n 0), a0 (.invokespecial 1) 3 2 20 0 0 0, none, none, a1 (.aload_n 0), a0 (.new 7) 3 3 4 2 0 0, none, none, a1 (.dup), a0 (.invokespecial 9) 3 4 15 2 1 0, none, none, a0 (.putfield 10) 3 49 0 3 0 0, none, none, a1 (.aload_n 0), a0 (.new 7) 3 3 4 2 0 0, none, none, a1 (.dup), a0 (.invokespecial 9) 3 4 15 2 1 0, none, none, a0 (.putfield 16) 3 50 0 3 1 0, none, none, a1 (.aload_n 0), a0 (.new 7) 3 3 4 2 0 0, none, none, a1 (.dup), a0 (.invokespecial 9) 3 4 15 2 1 0],
  [none, none, a0 (.putfield 19) 3 51 0 3 2 0, none, none, a1 (.aload_n 0), a0 (.new 22) 3 27 4 1 0 0, none, none, a1 (.dup), a0 (.invokespecial 24) 3 28 15 3 1 0, none, none, a0 (.putfield 25) 3 52 0 3 3 0, none, none, a1 (.aload_n 0), a1 (.iconst 4), a0 (.anewarray 29) 3 39 5 2 0 0, none, none, a0 (.putfield 31) 3 53 0 3 4 0, none, none, a1 (.aload_n 0), a2 (.bipush 7), none, a2 (.newarray .int), none, a0 (.putfield 35) 3 54 0 3 5 0, none, none],
  [a1 (.aload_n 0), a1 (.iconst 0), a0 (.putfield 39) 3 55 0 3 6 0, none, none, a1 (.aload_n 0), a2 (.bipush 8), none, a2 (.newarray .int), none, a0 (.putfield 43) 3 56 0 3 7 0, none, none, a1 (.aload_n 0), a2 (.bipush 8), none, a2 (.newarray .int), none, a0 (.putfield 46) 3 57 0 3 8 0, none, none, a1 (.iconst 0), a1 (.istore_n 1), a1 (.iload_n 1), a1 (.iconst 4), a3 (.if_icmp .ge 22), none, none, a1 (.aload_n 0), a0 (.getfield 31) 3 53 0 3 4 0, none, none],
  [a1 (.iload_n 1), a0 (.new 29) 3 40 4 0 0 0, none, none, a1 (.dup), a0 (.invokespecial 49) 3 41 15 4 1 0, none, none, a1 (.aastore), a3 (.iinc 1 1), none, none, a3 (.goto (-21)), none, none, a1 (.return_)]]
/-- 1: java/lang/Object.new -/
noncomputable def mk_1 : List (List (Option mEnt)) := []
/-- 2: EnvyRust$Town.new -/
noncomputable def mk_2 : List (List (Option mEnt)) := [[a1 (.aload_n 0), a0 (.invokespecial 3) 3 5 20 0 0 0, none, none, a1 (.aload_n 0), a2 (.bipush 6), none, a2 (.bipush 8), none, a0 (.multianewarray 11 2) 4 6 6 3 0 0, none, none, none, a0 (.putfield 13) 3 7 0 2 0 0, none, none, a1 (.aload_n 0), a2 (.bipush 7), none, a2 (.bipush 8), none, a0 (.multianewarray 11 2) 4 6 6 3 0 0, none, none, none, a0 (.putfield 16) 3 10 0 2 1 0, none, none, a1 (.aload_n 0), a2 (.bipush 10), none, a2 (.newarray .int)],
  [none, a0 (.putfield 19) 3 13 0 2 2 0, none, none, a1 (.aload_n 0), a1 (.iconst 0), a0 (.putfield 23) 3 15 0 2 3 0, none, none, a1 (.aload_n 0), a1 (.iconst 0), a0 (.putfield 27) 3 18 0 2 4 0, none, none, a1 (.aload_n 0), a1 (.iconst 0), a0 (.putfield 30) 3 21 0 2 5 0, none, none, a1 (.aload_n 0), a1 (.iconst 1), a0 (.putfield 33) 3 23 0 2 6 0, none, none, a1 (.aload_n 0), a1 (.iconst (-1)), a0 (.putfield 36) 3 25 0 2 7 0, none, none, a1 (.iconst 0), a1 (.istore_n 1), a1 (.iload_n 1)],
  [a2 (.bipush 10), none, a3 (.if_icmp .ge 16), none, none, a1 (.aload_n 0), a0 (.getfield 19) 3 13 0 2 2 0, none, none, a1 (.iload_n 1), a1 (.iconst (-1)), a1 (.iastore), a3 (.iinc 1 1), none, none, a3 (.goto (-16)), none, none, a1 (.return_)]]
/-- 3: EnvyRust$TextReader.new -/
noncomputable def mk_3 : List (List (Option mEnt)) := [[a1 (.aload_n 0), a0 (.invokespecial 3) 3 29 20 0 0 0, none, none, a1 (.aload_n 0), a2 (.bipush 120), none, a2 (.newarray .byte), none, a0 (.putfield 9) 3 30 0 1 0 0, none, none, a1 (.aload_n 0), a1 (.iconst 0), a0 (.putfield 15) 3 31 0 1 1 0, none, none, a1 (.aload_n 0), a1 (.iconst 0), a0 (.putfield 19) 3 33 0 1 2 0, none, none, a1 (.aload_n 0), a1 (.iconst 0), a0 (.putfield 22) 3 34 0 1 3 0, none, none, a1 (.aload_n 0), a1 (.iconst 0), a0 (.putfield 25) 3 35 0 1 4 0, none, none],
  [a1 (.aload_n 0), a1 (.iconst 0), a0 (.putfield 28) 3 36 0 1 5 0, none, none, a1 (.aload_n 0), a1 (.iconst (-1)), a0 (.putfield 31) 3 37 0 1 6 0, none, none, a1 (.return_)]]
/-- 4: EnvyRust$Sheet.new -/
noncomputable def mk_4 : List (List (Option mEnt)) := [[a1 (.aload_n 0), a0 (.invokespecial 3) 3 42 20 0 0 0, none, none, a1 (.aload_n 0), a2 (.bipush 40), none, a2 (.newarray .int), none, a0 (.putfield 9) 3 43 0 0 0 0, none, none, a1 (.aload_n 0), a1 (.iconst 0), a0 (.putfield 15) 3 45 0 0 1 0, none, none, a1 (.aload_n 0), a1 (.iconst 0), a0 (.putfield 19) 3 47 0 0 2 0, none, none, a1 (.return_)]]
/-- 5: EnvyRust.thing -/
noncomputable def mk_5 : List (List (Option mEnt)) := [[a1 (.iload_n 1), a1 (.iconst 0), a1 (.iconst 3), a0 (.invokestatic 50) 3 59 12 6 3 0, none, none, a3 (.ifCond .eq 13), none, none, a1 (.iload_n 2), a1 (.iconst 0), a2 (.bipush 15), none, a0 (.invokestatic 50) 3 59 12 6 3 0, none, none, a3 (.ifCond .ne 10), none, none, a1 (.aload_n 0), a0 (.ldc 54) 2 60 2 0 0 (-1000001), none, a0 (.invokevirtual 55) 3 61 10 7 2 0, none, none, a1 (.ireturn), a1 (.aload_n 0), a0 (.getfield 10) 3 49 0 3 0 0, none, none, a0 (.getfield 59) 3 16 1 2 3 0, none],
  [none, a2 (.bipush 8), none, a3 (.if_icmp .lt 10), none, none, a1 (.aload_n 0), a0 (.ldc 63) 2 62 2 0 0 (-1000002), none, a0 (.invokevirtual 55) 3 61 10 7 2 0, none, none, a1 (.ireturn), a1 (.aload_n 0), a0 (.getfield 10) 3 49 0 3 0 0, none, none, a1 (.iload_n 1), a1 (.iload_n 2), a0 (.invokevirtual 64) 3 63 11 8 3 0, none, none, a1 (.ireturn)]]
/-- 6: EnvyRust.between -/
noncomputable def mk_6 : List (List (Option mEnt)) := [[a1 (.iload_n 0), a1 (.iload_n 1), a3 (.if_icmp .lt 12), none, none, a1 (.iload_n 0), a1 (.iload_n 2), a3 (.if_icmp .gt 7), none, none, a1 (.iconst 1), a3 (.goto 4), none, none, a1 (.iconst 0), a1 (.ireturn)]]
/-- 7: EnvyRust.told -/
noncomputable def mk_7 : List (List (Option mEnt)) := [[a0 (.ldc 54) 2 60 2 0 0 (-1000001), none, a1 (.iload_n 1), a1 (.isub), a1 (.istore_n 2), a1 (.iload_n 2), a1 (.iconst 0), a2 (.bipush 6), none, a0 (.invokestatic 50) 3 59 12 6 3 0, none, none, a3 (.ifCond .eq 13), none, none, a1 (.aload_n 0), a0 (.getfield 35) 3 54 0 3 5 0, none, none, a1 (.iload_n 2), a1 (.dup2), a1 (.iaload), a1 (.iconst 1), a1 (.iadd), a1 (.iastore), a1 (.iload_n 1), a1 (.ireturn)]]
/-- 8: EnvyRust$Town.addThing -/
noncomputable def mk_8 : List (List (Option mEnt)) := [[a1 (.aload_n 0), a0 (.getfield 23) 3 15 0 2 3 0, none, none, a1 (.istore_n 3), a1 (.aload_n 0), a1 (.dup), a0 (.getfield 23) 3 15 0 2 3 0, none, none, a1 (.iconst 1), a1 (.iadd), a0 (.putfield 23) 3 15 0 2 3 0, none, none, a1 (.aload_n 0), a0 (.getfield 13) 3 7 0 2 0 0, none, none, a1 (.iconst 0), a1 (.aaload), a1 (.iload_n 3), a1 (.iload_n 1), a1 (.iastore), a1 (.aload_n 0), a0 (.getfield 13) 3 7 0 2 0 0, none, none, a1 (.iconst 1), a1 (.aaload), a1 (.iload_n 3), a1 (.iload_n 2)],
  [a1 (.iastore), a1 (.aload_n 0), a0 (.getfield 13) 3 7 0 2 0 0, none, none, a1 (.iconst 2), a1 (.aaload), a1 (.iload_n 3), a2 (.bipush 100), none, a1 (.iastore), a1 (.aload_n 0), a0 (.getfield 13) 3 7 0 2 0 0, none, none, a1 (.iconst 3), a1 (.aaload), a1 (.iload_n 3), a1 (.iconst 0), a1 (.iastore), a1 (.aload_n 0), a0 (.getfield 13) 3 7 0 2 0 0, none, none, a1 (.iconst 4), a1 (.aaload), a1 (.iload_n 3), a1 (.iconst (-1)), a1 (.iastore), a1 (.aload_n 0), a0 (.getfield 13) 3 7 0 2 0 0, none],
  [none, a1 (.iconst 5), a1 (.aaload), a1 (.iload_n 3), a1 (.iconst (-1)), a1 (.iastore), a1 (.iload_n 3), a1 (.ireturn)]]
/-- 9: EnvyRust.thingOf -/
noncomputable def mk_9 : List (List (Option mEnt)) := [[a1 (.aload_n 0), a0 (.getfield 10) 3 49 0 3 0 0, none, none, a1 (.iload_n 1), a0 (.invokevirtual 68) 3 65 11 10 2 0, none, none, a3 (.ifCond .eq 13), none, none, a1 (.iload_n 2), a1 (.iconst 0), a2 (.bipush 6), none, a0 (.invokestatic 50) 3 59 12 6 3 0, none, none, a3 (.ifCond .ne 10), none, none, a1 (.aload_n 0), a0 (.ldc 54) 2 60 2 0 0 (-1000001), none, a0 (.invokevirtual 55) 3 61 10 7 2 0, none, none, a1 (.ireturn), a1 (.iload_n 2), a2 (.bipush 6), none, a3 (.if_icmp .ne 14)],
  [none, none, a1 (.aload_n 0), a0 (.getfield 10) 3 49 0 3 0 0, none, none, a1 (.iload_n 1), a0 (.invokevirtual 72) 3 67 11 11 2 0, none, none, a3 (.goto 14), none, none, a1 (.aload_n 0), a0 (.getfield 10) 3 49 0 3 0 0, none, none, a0 (.getfield 75) 3 8 1 2 0 0, none, none, a1 (.iload_n 2), a1 (.aaload), a1 (.iload_n 1), a1 (.iaload), a1 (.ireturn)]]
/-- 10: EnvyRust$Town.isThing -/
noncomputable def mk_10 : List (List (Option mEnt)) := [[a1 (.iload_n 1), a1 (.iconst 0), a1 (.aload_n 0), a0 (.getfield 23) 3 15 0 2 3 0, none, none, a1 (.iconst 1), a1 (.isub), a0 (.invokestatic 45) 3 66 13 6 3 0, none, none, a1 (.ireturn)]]
/-- 11: EnvyRust$Town.wearOf -/
noncomputable def mk_11 : List (List (Option mEnt)) := [[a1 (.iconst 0), a1 (.istore_n 2), a1 (.aload_n 0), a0 (.getfield 13) 3 7 0 2 0 0, none, none, a1 (.iconst 1), a1 (.aaload), a1 (.iload_n 1), a1 (.iaload), a1 (.istore_n 3), a1 (.iconst 0), a2 (.istore 4), none, a2 (.iload 4), none, a1 (.aload_n 0), a0 (.getfield 27) 3 18 0 2 4 0, none, none, a3 (.if_icmp .ge 32), none, none, a1 (.aload_n 0), a0 (.getfield 16) 3 10 0 2 1 0, none, none, a1 (.iconst 1), a1 (.aaload), a2 (.iload 4), none, a1 (.iaload)],
  [a1 (.iload_n 3), a3 (.if_icmp .ne 13), none, none, a1 (.iload_n 2), a1 (.aload_n 0), a2 (.iload 4), none, a1 (.iload_n 1), a0 (.invokevirtual 70) 3 68 10 12 3 0, none, none, a1 (.iadd), a1 (.istore_n 2), a3 (.iinc 4 1), none, none, a3 (.goto (-35)), none, none, a1 (.iload_n 2), a1 (.aload_n 0), a0 (.getfield 13) 3 7 0 2 0 0, none, none, a1 (.iconst 2), a1 (.aaload), a1 (.iload_n 1), a1 (.iaload), a0 (.invokestatic 73) 3 73 25 0 0 0, none, none],
  [a1 (.ireturn)]]
/-- 12: EnvyRust$Town.envyOf -/
noncomputable def mk_12 : List (List (Option mEnt)) := [[a1 (.aload_n 0), a0 (.getfield 13) 3 7 0 2 0 0, none, none, a1 (.iconst 4), a1 (.aaload), a1 (.iload_n 2), a1 (.iaload), a1 (.istore_n 3), a1 (.iload_n 3), a1 (.iload_n 1), a3 (.if_icmp .eq 11), none, none, a1 (.iload_n 1), a1 (.aload_n 0), a0 (.getfield 36) 3 25 0 2 7 0, none, none, a3 (.if_icmp .ne 7), none, none, a1 (.iconst 0), a3 (.goto 10), none, none, a1 (.aload_n 0), a1 (.iload_n 3), a1 (.iload_n 1), a1 (.iload_n 2), a0 (.invokevirtual 53) 3 69 10 13 4 0, none],
  [none, a1 (.ireturn)]]
/-- 13: EnvyRust$Town.envyIfOwnedBy -/
noncomputable def mk_13 : List (List (Option mEnt)) := [[a1 (.aload_n 0), a0 (.getfield 13) 3 7 0 2 0 0, none, none, a1 (.iconst 2), a1 (.aaload), a1 (.iload_n 3), a1 (.iaload), a2 (.istore 4), none, a2 (.iload 4), none, a3 (.ifCond .ne 5), none, none, a1 (.iconst 0), a1 (.ireturn), a1 (.aload_n 0), a0 (.getfield 16) 3 10 0 2 1 0, none, none, a1 (.iconst 3), a1 (.aload_n 0), a0 (.getfield 13) 3 7 0 2 0 0, none, none, a1 (.iconst 0), a1 (.aaload), a1 (.iload_n 3), a1 (.iaload), a1 (.iadd), a1 (.aaload)],
  [a1 (.iload_n 2), a1 (.iaload), a1 (.aload_n 0), a0 (.getfield 13) 3 7 0 2 0 0, none, none, a1 (.iconst 3), a1 (.aaload), a1 (.iload_n 3), a1 (.iaload), a1 (.isub), a2 (.istore 5), none, a1 (.iload_n 1), a1 (.iconst (-1)), a3 (.if_icmp .eq 22), none, none, a1 (.aload_n 0), a0 (.getfield 16) 3 10 0 2 1 0, none, none, a1 (.iconst 0), a1 (.aaload), a1 (.iload_n 1), a1 (.iaload), a1 (.iconst 2), a0 (.invokestatic 57) 3 70 13 14 2 0, none, none, a3 (.ifCond .eq 7), none],
  [none, a1 (.iconst 1), a3 (.goto 4), none, none, a1 (.iconst 0), a2 (.istore 6), none, a2 (.iload 5), none, a2 (.iload 6), none, a3 (.ifCond .eq 7), none, none, a1 (.iconst 2), a3 (.goto 4), none, none, a1 (.iconst 0), a1 (.iadd), a2 (.istore 7), none, a1 (.aload_n 0), a0 (.getfield 16) 3 10 0 2 1 0, none, none, a1 (.iconst 0), a1 (.aaload), a1 (.iload_n 2), a1 (.iaload), a0 (.tableswitch 104 1 6 #[37, 46, 53, 62, 77, 86]) 37 0 0 0 0 0],
  [none, none, none, none, none, none, none, none, none, none, none, none, none, none, none, none, none, none, none, none, none, none, none, none, none, none, none, none, none, none, none, none],
  [none, none, none, none, a1 (.iconst 0), a2 (.iload 5), none, a1 (.iconst 2), a1 (.idiv), a0 (.invokestatic 61) 3 72 24 0 0 0, none, none, a1 (.ireturn), a1 (.iconst 0), a2 (.iload 7), none, a0 (.invokestatic 61) 3 72 24 0 0 0, none, none, a1 (.ireturn), a1 (.iconst 0), a2 (.iload 7), none, a1 (.iconst 3), a1 (.isub), a0 (.invokestatic 61) 3 72 24 0 0 0, none, none, a1 (.ireturn), a1 (.iconst 0), a2 (.iload 7), none],
  [a1 (.iconst 3), a1 (.isub), a2 (.iload 4), none, a2 (.bipush 100), none, a1 (.idiv), a1 (.iadd), a0 (.invokestatic 61) 3 72 24 0 0 0, none, none, a1 (.ireturn), a1 (.iconst 0), a2 (.iload 5), none, a1 (.iconst 2), a1 (.imul), a0 (.invokestatic 61) 3 72 24 0 0 0, none, none, a1 (.ireturn), a1 (.iload_n 1), a1 (.iconst (-1)), a3 (.if_icmp .ne 7), none, none, a1 (.iconst 0), a3 (.goto 11), none, none, a1 (.iconst 0), a2 (.iload 5)],
  [none, a1 (.iconst 2), a1 (.idiv), a0 (.invokestatic 61) 3 72 24 0 0 0, none, none, a1 (.ireturn), a1 (.iconst 0), a2 (.iload 5), none, a0 (.invokestatic 61) 3 72 24 0 0 0, none, none, a1 (.ireturn)]]
/-- 14: EnvyRust.isOrUnder -/
noncomputable def mk_14 : List (List (Option mEnt)) := [[a1 (.iload_n 0), a1 (.istore_n 2), a1 (.iconst 0), a1 (.istore_n 3), a1 (.iload_n 3), a2 (.bipush 7), none, a3 (.if_icmp .ge 32), none, none, a1 (.iload_n 2), a3 (.ifCond .lt 28), none, none, a1 (.iload_n 2), a2 (.bipush 7), none, a3 (.if_icmp .ge 22), none, none, a1 (.iload_n 2), a1 (.iload_n 1), a3 (.if_icmp .ne 5), none, none, a1 (.iconst 1), a1 (.ireturn), a0 (.getstatic 279) 3 71 7 0 0 0, none, none, a1 (.iload_n 2), a1 (.iaload)],
  [a1 (.istore_n 2), a3 (.iinc 3 1), none, none, a3 (.goto (-32)), none, none, a1 (.iconst 0), a1 (.ireturn)]]
/-- 15: java/lang/Math.max -/
noncomputable def mk_15 : List (List (Option mEnt)) := []
/-- 16: java/lang/Math.min -/
noncomputable def mk_16 : List (List (Option mEnt)) := []
/-- 17: EnvyRust.forge -/
noncomputable def mk_17 : List (List (Option mEnt)) := [[a1 (.aload_n 0), a0 (.getfield 10) 3 49 0 3 0 0, none, none, a1 (.iload_n 1), a0 (.invokevirtual 68) 3 65 11 10 2 0, none, none, a3 (.ifCond .eq 13), none, none, a1 (.aload_n 0), a1 (.iload_n 1), a1 (.iload_n 2), a1 (.iload_n 3), a0 (.invokevirtual 79) 3 75 10 18 4 0, none, none, a3 (.ifCond .ne 10), none, none, a1 (.aload_n 0), a0 (.ldc 54) 2 60 2 0 0 (-1000001), none, a0 (.invokevirtual 55) 3 61 10 7 2 0, none, none, a1 (.ireturn), a1 (.iload_n 2), a1 (.iconst 5), a3 (.if_icmp .ne 30), none],
  [none, a1 (.iload_n 3), a1 (.iconst (-1)), a3 (.if_icmp .eq 25), none, none, a1 (.aload_n 0), a0 (.getfield 10) 3 49 0 3 0 0, none, none, a1 (.iload_n 1), a0 (.invokevirtual 82) 3 77 11 20 2 0, none, none, a1 (.iload_n 3), a0 (.invokestatic 85) 3 79 12 21 2 0, none, none, a3 (.ifCond .eq 10), none, none, a1 (.aload_n 0), a0 (.ldc 89) 2 80 2 0 0 (-1000005), none, a0 (.invokevirtual 55) 3 61 10 7 2 0, none, none, a1 (.ireturn), a1 (.aload_n 0), a0 (.getfield 10) 3 49 0 3 0 0, none, none],
  [a0 (.getfield 75) 3 8 1 2 0 0, none, none, a1 (.iload_n 2), a1 (.aaload), a1 (.iload_n 1), a1 (.iaload), a2 (.istore 4), none, a1 (.aload_n 0), a0 (.getfield 10) 3 49 0 3 0 0, none, none, a0 (.getfield 75) 3 8 1 2 0 0, none, none, a1 (.iload_n 2), a1 (.aaload), a1 (.iload_n 1), a1 (.iload_n 3), a1 (.iastore), a2 (.iload 4), none, a1 (.ireturn)]]
/-- 18: EnvyRust.forgeable -/
noncomputable def mk_18 : List (List (Option mEnt)) := [[a1 (.iload_n 2), a0 (.tableswitch 120 0 5 #[39, 46, 54, 63, 71, 93]) 39 0 0 0 0 0, none, none, none, none, none, none, none, none, none, none, none, none, none, none, none, none, none, none, none, none, none, none, none, none, none, none, none, none, none, none],
  [none, none, none, none, none, none, none, none, a1 (.iload_n 3), a1 (.iconst 0), a1 (.iconst 3), a0 (.invokestatic 50) 3 59 12 6 3 0, none, none, a1 (.ireturn), a1 (.iload_n 3), a1 (.iconst 0), a2 (.bipush 15), none, a0 (.invokestatic 50) 3 59 12 6 3 0, none, none, a1 (.ireturn), a1 (.iload_n 3), a1 (.iconst 0), a3 (.sipush 999), none, none, a0 (.invokestatic 50) 3 59 12 6 3 0, none, none, a1 (.ireturn)],
  [a1 (.iload_n 3), a1 (.iconst 0), a2 (.bipush 9), none, a0 (.invokestatic 50) 3 59 12 6 3 0, none, none, a1 (.ireturn), a1 (.iload_n 3), a1 (.iconst (-1)), a3 (.if_icmp .eq 14), none, none, a1 (.aload_n 0), a0 (.getfield 10) 3 49 0 3 0 0, none, none, a1 (.iload_n 3), a0 (.invokevirtual 90) 3 76 11 19 2 0, none, none, a3 (.ifCond .eq 7), none, none, a1 (.iconst 1), a3 (.goto 4), none, none, a1 (.iconst 0), a1 (.ireturn), a1 (.iload_n 3), a1 (.iconst (-1))],
  [a3 (.if_icmp .eq 19), none, none, a1 (.aload_n 0), a0 (.getfield 10) 3 49 0 3 0 0, none, none, a1 (.iload_n 3), a0 (.invokevirtual 68) 3 65 11 10 2 0, none, none, a3 (.ifCond .eq 12), none, none, a1 (.iload_n 3), a1 (.iload_n 1), a3 (.if_icmp .eq 7), none, none, a1 (.iconst 1), a3 (.goto 4), none, none, a1 (.iconst 0), a1 (.ireturn), a1 (.iconst 0), a1 (.ireturn)]]
/-- 19: EnvyRust$Town.isPerson -/
noncomputable def mk_19 : List (List (Option mEnt)) := [[a1 (.iload_n 1), a1 (.iconst 0), a1 (.aload_n 0), a0 (.getfield 27) 3 18 0 2 4 0, none, none, a1 (.iconst 1), a1 (.isub), a0 (.invokestatic 45) 3 66 13 6 3 0, none, none, a1 (.ireturn)]]
/-- 20: EnvyRust$Town.falling -/
noncomputable def mk_20 : List (List (Option mEnt)) := [[a1 (.iconst 1), a1 (.iload_n 1), a1 (.ishl), a1 (.istore_n 2), a1 (.iconst 1), a1 (.istore_n 3), a1 (.iconst 0), a2 (.istore 4), none, a2 (.iload 4), none, a2 (.bipush 8), none, a3 (.if_icmp .ge 77), none, none, a1 (.iload_n 3), a3 (.ifCond .eq 73), none, none, a1 (.iconst 0), a1 (.istore_n 3), a1 (.iconst 0), a2 (.istore 5), none, a2 (.iload 5), none, a1 (.aload_n 0), a0 (.getfield 23) 3 15 0 2 3 0, none, none, a3 (.if_icmp .ge 53)],
  [none, none, a1 (.aload_n 0), a0 (.getfield 13) 3 7 0 2 0 0, none, none, a1 (.iconst 5), a1 (.aaload), a2 (.iload 5), none, a1 (.iaload), a2 (.istore 6), none, a2 (.iload 6), none, a1 (.iconst (-1)), a3 (.if_icmp .eq 30), none, none, a1 (.iload_n 2), a2 (.iload 6), none, a0 (.invokestatic 67) 3 78 13 21 2 0, none, none, a3 (.ifCond .eq 21), none, none, a1 (.iload_n 2), a2 (.iload 5), none, a0 (.invokestatic 67) 3 78 13 21 2 0],
  [none, none, a3 (.ifCond .ne 12), none, none, a1 (.iload_n 2), a1 (.iconst 1), a2 (.iload 5), none, a1 (.ishl), a1 (.ior), a1 (.istore_n 2), a1 (.iconst 1), a1 (.istore_n 3), a3 (.iinc 5 1), none, none, a3 (.goto (-56)), none, none, a3 (.iinc 4 1), none, none, a3 (.goto (-78)), none, none, a1 (.iload_n 2), a1 (.ireturn)]]
/-- 21: EnvyRust.contains -/
noncomputable def mk_21 : List (List (Option mEnt)) := [[a1 (.iload_n 0), a1 (.iload_n 1), a1 (.ishr), a1 (.iconst 1), a1 (.iand), a1 (.iconst 1), a3 (.if_icmp .ne 7), none, none, a1 (.iconst 1), a3 (.goto 4), none, none, a1 (.iconst 0), a1 (.ireturn)]]
/-- 22: EnvyRust.person -/
noncomputable def mk_22 : List (List (Option mEnt)) := [[a1 (.iload_n 1), a1 (.iconst 0), a2 (.bipush 6), none, a0 (.invokestatic 50) 3 59 12 6 3 0, none, none, a3 (.ifCond .eq 13), none, none, a1 (.iload_n 2), a1 (.iconst 0), a2 (.bipush 15), none, a0 (.invokestatic 50) 3 59 12 6 3 0, none, none, a3 (.ifCond .ne 10), none, none, a1 (.aload_n 0), a0 (.ldc 54) 2 60 2 0 0 (-1000001), none, a0 (.invokevirtual 55) 3 61 10 7 2 0, none, none, a1 (.ireturn), a1 (.aload_n 0), a0 (.getfield 10) 3 49 0 3 0 0, none, none, a0 (.getfield 93) 3 20 1 2 4 0],
  [none, none, a2 (.bipush 8), none, a3 (.if_icmp .lt 10), none, none, a1 (.aload_n 0), a0 (.ldc 63) 2 62 2 0 0 (-1000002), none, a0 (.invokevirtual 55) 3 61 10 7 2 0, none, none, a1 (.ireturn), a1 (.aload_n 0), a0 (.getfield 10) 3 49 0 3 0 0, none, none, a1 (.iload_n 1), a1 (.iload_n 2), a0 (.invokevirtual 96) 3 82 11 23 3 0, none, none, a1 (.ireturn)]]
/-- 23: EnvyRust$Town.addPerson -/
noncomputable def mk_23 : List (List (Option mEnt)) := [[a1 (.aload_n 0), a0 (.getfield 27) 3 18 0 2 4 0, none, none, a1 (.istore_n 3), a1 (.aload_n 0), a1 (.dup), a0 (.getfield 27) 3 18 0 2 4 0, none, none, a1 (.iconst 1), a1 (.iadd), a0 (.putfield 27) 3 18 0 2 4 0, none, none, a1 (.aload_n 0), a0 (.getfield 16) 3 10 0 2 1 0, none, none, a1 (.iconst 0), a1 (.aaload), a1 (.iload_n 3), a1 (.iload_n 1), a1 (.iastore), a1 (.aload_n 0), a0 (.getfield 16) 3 10 0 2 1 0, none, none, a1 (.iconst 1), a1 (.aaload), a1 (.iload_n 3), a1 (.iload_n 2)],
  [a1 (.iastore), a1 (.aload_n 0), a0 (.getfield 16) 3 10 0 2 1 0, none, none, a1 (.iconst 2), a1 (.aaload), a1 (.iload_n 3), a1 (.iconst 1), a1 (.iastore), a1 (.iconst 0), a2 (.istore 4), none, a2 (.iload 4), none, a1 (.iconst 4), a3 (.if_icmp .ge 21), none, none, a1 (.aload_n 0), a0 (.getfield 16) 3 10 0 2 1 0, none, none, a1 (.iconst 3), a2 (.iload 4), none, a1 (.iadd), a1 (.aaload), a1 (.iload_n 3), a1 (.iconst 1), a1 (.iastore), a3 (.iinc 4 1)],
  [none, none, a3 (.goto (-21)), none, none, a1 (.iload_n 3), a1 (.ireturn)]]
/-- 24: EnvyRust.of -/
noncomputable def mk_24 : List (List (Option mEnt)) := [[a1 (.aload_n 0), a0 (.getfield 10) 3 49 0 3 0 0, none, none, a1 (.iload_n 1), a0 (.invokevirtual 90) 3 76 11 19 2 0, none, none, a3 (.ifCond .eq 13), none, none, a1 (.iload_n 2), a1 (.iconst 0), a2 (.bipush 7), none, a0 (.invokestatic 50) 3 59 12 6 3 0, none, none, a3 (.ifCond .ne 10), none, none, a1 (.aload_n 0), a0 (.ldc 54) 2 60 2 0 0 (-1000001), none, a0 (.invokevirtual 55) 3 61 10 7 2 0, none, none, a1 (.ireturn), a1 (.iload_n 2), a2 (.bipush 7), none, a3 (.if_icmp .ne 14)],
  [none, none, a1 (.aload_n 0), a0 (.getfield 10) 3 49 0 3 0 0, none, none, a1 (.iload_n 1), a0 (.invokevirtual 99) 3 84 11 25 2 0, none, none, a3 (.goto 14), none, none, a1 (.aload_n 0), a0 (.getfield 10) 3 49 0 3 0 0, none, none, a0 (.getfield 102) 3 12 1 2 1 0, none, none, a1 (.iload_n 2), a1 (.aaload), a1 (.iload_n 1), a1 (.iaload), a1 (.ireturn)]]
/-- 25: EnvyRust$Town.ownedBy -/
noncomputable def mk_25 : List (List (Option mEnt)) := [[a1 (.iconst 0), a1 (.istore_n 2), a1 (.iconst 0), a1 (.istore_n 3), a1 (.iload_n 3), a1 (.aload_n 0), a0 (.getfield 23) 3 15 0 2 3 0, none, none, a3 (.if_icmp .ge 27), none, none, a1 (.aload_n 0), a0 (.getfield 13) 3 7 0 2 0 0, none, none, a1 (.iconst 4), a1 (.aaload), a1 (.iload_n 3), a1 (.iaload), a1 (.iload_n 1), a3 (.if_icmp .ne 9), none, none, a1 (.iload_n 2), a1 (.iconst 1), a1 (.iload_n 3), a1 (.ishl), a1 (.ior), a1 (.istore_n 2), a3 (.iinc 3 1), none],
  [none, a3 (.goto (-29)), none, none, a1 (.iload_n 2), a1 (.ireturn)]]
/-- 26: EnvyRust.change -/
noncomputable def mk_26 : List (List (Option mEnt)) := [[a1 (.aload_n 0), a0 (.getfield 10) 3 49 0 3 0 0, none, none, a1 (.iload_n 1), a0 (.invokevirtual 90) 3 76 11 19 2 0, none, none, a3 (.ifCond .eq 11), none, none, a1 (.iload_n 2), a1 (.iload_n 3), a0 (.invokestatic 105) 3 86 12 27 2 0, none, none, a3 (.ifCond .ne 10), none, none, a1 (.aload_n 0), a0 (.ldc 54) 2 60 2 0 0 (-1000001), none, a0 (.invokevirtual 55) 3 61 10 7 2 0, none, none, a1 (.ireturn), a1 (.aload_n 0), a0 (.getfield 10) 3 49 0 3 0 0, none, none, a0 (.getfield 102) 3 12 1 2 1 0, none],
  [none, a1 (.iload_n 2), a1 (.aaload), a1 (.iload_n 1), a1 (.iaload), a2 (.istore 4), none, a1 (.aload_n 0), a0 (.getfield 10) 3 49 0 3 0 0, none, none, a0 (.getfield 102) 3 12 1 2 1 0, none, none, a1 (.iload_n 2), a1 (.aaload), a1 (.iload_n 1), a1 (.iload_n 3), a1 (.iastore), a2 (.iload 4), none, a1 (.ireturn)]]
/-- 27: EnvyRust.changeable -/
noncomputable def mk_27 : List (List (Option mEnt)) := [[a1 (.iload_n 0), a0 (.tableswitch 43 0 2 #[27, 35, 35]) 27 0 0 0 0 0, none, none, none, none, none, none, none, none, none, none, none, none, none, none, none, none, none, none, none, none, none, none, none, none, none, none, a1 (.iload_n 1), a1 (.iconst 0), a2 (.bipush 6), none],
  [a0 (.invokestatic 50) 3 59 12 6 3 0, none, none, a1 (.ireturn), a1 (.iload_n 1), a1 (.iconst 0), a2 (.bipush 15), none, a0 (.invokestatic 50) 3 59 12 6 3 0, none, none, a1 (.ireturn), a1 (.iload_n 0), a1 (.iconst 3), a2 (.bipush 6), none, a0 (.invokestatic 50) 3 59 12 6 3 0, none, none, a3 (.ifCond .eq 17), none, none, a1 (.iload_n 1), a1 (.iconst 0), a2 (.bipush 9), none, a0 (.invokestatic 50) 3 59 12 6 3 0, none, none, a3 (.ifCond .eq 7), none, none],
  [a1 (.iconst 1), a3 (.goto 4), none, none, a1 (.iconst 0), a1 (.ireturn)]]
/-- 28: EnvyRust.envy -/
noncomputable def mk_28 : List (List (Option mEnt)) := [[a1 (.aload_n 0), a0 (.getfield 10) 3 49 0 3 0 0, none, none, a1 (.iload_n 1), a0 (.invokevirtual 90) 3 76 11 19 2 0, none, none, a3 (.ifCond .eq 14), none, none, a1 (.aload_n 0), a0 (.getfield 10) 3 49 0 3 0 0, none, none, a1 (.iload_n 2), a0 (.invokevirtual 68) 3 65 11 10 2 0, none, none, a3 (.ifCond .ne 10), none, none, a1 (.aload_n 0), a0 (.ldc 54) 2 60 2 0 0 (-1000001), none, a0 (.invokevirtual 55) 3 61 10 7 2 0, none, none, a1 (.ireturn), a1 (.aload_n 0), a0 (.getfield 10) 3 49 0 3 0 0, none],
  [none, a1 (.iload_n 1), a1 (.iload_n 2), a0 (.invokevirtual 108) 3 88 11 12 3 0, none, none, a1 (.ireturn)]]
/-- 29: EnvyRust.go -/
noncomputable def mk_29 : List (List (Option mEnt)) := [[a1 (.iload_n 1), a1 (.iconst 1), a2 (.bipush 60), none, a0 (.invokestatic 50) 3 59 12 6 3 0, none, none, a3 (.ifCond .ne 10), none, none, a1 (.aload_n 0), a0 (.ldc 54) 2 60 2 0 0 (-1000001), none, a0 (.invokevirtual 55) 3 61 10 7 2 0, none, none, a1 (.ireturn), a1 (.aload_n 0), a0 (.getfield 10) 3 49 0 3 0 0, none, none, a0 (.getfield 111) 3 22 1 2 5 0, none, none, a1 (.iload_n 1), a1 (.iadd), a0 (.ldc 114) 2 90 2 0 0 99999, none, a3 (.if_icmp .le 10), none, none, a1 (.aload_n 0)],
  [a0 (.ldc 89) 2 80 2 0 0 (-1000005), none, a0 (.invokevirtual 55) 3 61 10 7 2 0, none, none, a1 (.ireturn), a1 (.aload_n 0), a0 (.getfield 10) 3 49 0 3 0 0, none, none, a1 (.iload_n 1), a0 (.invokevirtual 115) 3 91 11 30 2 0, none, none, a1 (.aload_n 0), a0 (.getfield 10) 3 49 0 3 0 0, none, none, a0 (.invokevirtual 119) 3 97 11 35 1 0, none, none, a0 (.invokestatic 123) 3 98 12 36 1 0, none, none, a1 (.ireturn)]]
/-- 30: EnvyRust$Town.passDays -/
noncomputable def mk_30 : List (List (Option mEnt)) := [[a1 (.iconst 0), a1 (.istore_n 2), a1 (.iload_n 2), a1 (.iload_n 1), a3 (.if_icmp .ge 59), none, none, a1 (.iconst 0), a1 (.istore_n 3), a1 (.iload_n 3), a1 (.aload_n 0), a0 (.getfield 23) 3 15 0 2 3 0, none, none, a3 (.if_icmp .ge 25), none, none, a1 (.aload_n 0), a0 (.getfield 13) 3 7 0 2 0 0, none, none, a1 (.iconst 2), a1 (.aaload), a1 (.iload_n 3), a1 (.dup2), a1 (.iaload), a1 (.aload_n 0), a1 (.iload_n 3), a0 (.invokevirtual 76) 3 92 10 11 2 0, none, none, a1 (.isub)],
  [a1 (.iastore), a3 (.iinc 3 1), none, none, a3 (.goto (-27)), none, none, a1 (.aload_n 0), a0 (.invokevirtual 80) 3 93 10 31 1 0, none, none, a1 (.aload_n 0), a0 (.invokevirtual 83) 3 95 10 33 1 0, none, none, a1 (.aload_n 0), a1 (.dup), a0 (.getfield 30) 3 21 0 2 5 0, none, none, a1 (.iconst 1), a1 (.iadd), a0 (.putfield 30) 3 21 0 2 5 0, none, none, a3 (.iinc 2 1), none, none, a3 (.goto (-58)), none, none, a1 (.return_)]]
/-- 31: EnvyRust$Town.fallAll -/
noncomputable def mk_31 : List (List (Option mEnt)) := [[a1 (.iconst 1), a1 (.istore_n 1), a1 (.iconst 0), a1 (.istore_n 2), a1 (.iload_n 2), a2 (.bipush 8), none, a3 (.if_icmp .ge 75), none, none, a1 (.iload_n 1), a3 (.ifCond .eq 71), none, none, a1 (.iconst 0), a1 (.istore_n 1), a1 (.iconst 0), a1 (.istore_n 3), a1 (.iload_n 3), a1 (.aload_n 0), a0 (.getfield 23) 3 15 0 2 3 0, none, none, a3 (.if_icmp .ge 53), none, none, a1 (.aload_n 0), a0 (.getfield 13) 3 7 0 2 0 0, none, none, a1 (.iconst 5), a1 (.aaload)],
  [a1 (.iload_n 3), a1 (.iaload), a2 (.istore 4), none, a2 (.iload 4), none, a1 (.iconst (-1)), a3 (.if_icmp .eq 31), none, none, a1 (.aload_n 0), a2 (.iload 4), none, a0 (.invokevirtual 86) 3 94 10 32 2 0, none, none, a3 (.ifCond .eq 22), none, none, a1 (.aload_n 0), a1 (.iload_n 3), a0 (.invokevirtual 86) 3 94 10 32 2 0, none, none, a3 (.ifCond .ne 14), none, none, a1 (.aload_n 0), a0 (.getfield 13) 3 7 0 2 0 0, none, none, a1 (.iconst 2)],
  [a1 (.aaload), a1 (.iload_n 3), a1 (.iconst 0), a1 (.iastore), a1 (.iconst 1), a1 (.istore_n 1), a3 (.iinc 3 1), none, none, a3 (.goto (-55)), none, none, a3 (.iinc 2 1), none, none, a3 (.goto (-75)), none, none, a1 (.return_)]]
/-- 32: EnvyRust$Town.isGone -/
noncomputable def mk_32 : List (List (Option mEnt)) := [[a1 (.aload_n 0), a0 (.getfield 13) 3 7 0 2 0 0, none, none, a1 (.iconst 2), a1 (.aaload), a1 (.iload_n 1), a1 (.iaload), a3 (.ifCond .ne 7), none, none, a1 (.iconst 1), a3 (.goto 4), none, none, a1 (.iconst 0), a1 (.ireturn)]]
/-- 33: EnvyRust$Town.walkAll -/
noncomputable def mk_33 : List (List (Option mEnt)) := [[a1 (.iconst 0), a1 (.istore_n 1), a1 (.iload_n 1), a1 (.aload_n 0), a0 (.getfield 27) 3 18 0 2 4 0, none, none, a3 (.if_icmp .ge 36), none, none, a1 (.aload_n 0), a0 (.getfield 16) 3 10 0 2 1 0, none, none, a1 (.iconst 1), a1 (.aaload), a1 (.iload_n 1), a1 (.aload_n 0), a0 (.getfield 16) 3 10 0 2 1 0, none, none, a1 (.iconst 1), a1 (.aaload), a1 (.iload_n 1), a1 (.iaload), a1 (.aload_n 0), a0 (.getfield 16) 3 10 0 2 1 0, none, none, a1 (.iconst 2), a1 (.aaload), a1 (.iload_n 1)],
  [a1 (.iaload), a0 (.invokestatic 90) 3 96 13 34 2 0, none, none, a1 (.iastore), a3 (.iinc 1 1), none, none, a3 (.goto (-38)), none, none, a1 (.return_)]]
/-- 34: EnvyRust.onward -/
noncomputable def mk_34 : List (List (Option mEnt)) := [[a1 (.iload_n 0), a1 (.iload_n 1), a1 (.iadd), a2 (.bipush 16), none, a1 (.irem), a1 (.ireturn)]]
/-- 35: EnvyRust$Town.goneSet -/
noncomputable def mk_35 : List (List (Option mEnt)) := [[a1 (.iconst 0), a1 (.istore_n 1), a1 (.iconst 0), a1 (.istore_n 2), a1 (.iload_n 2), a1 (.aload_n 0), a0 (.getfield 23) 3 15 0 2 3 0, none, none, a3 (.if_icmp .ge 23), none, none, a1 (.aload_n 0), a1 (.iload_n 2), a0 (.invokevirtual 86) 3 94 10 32 2 0, none, none, a3 (.ifCond .eq 9), none, none, a1 (.iload_n 1), a1 (.iconst 1), a1 (.iload_n 2), a1 (.ishl), a1 (.ior), a1 (.istore_n 1), a3 (.iinc 2 1), none, none, a3 (.goto (-25)), none, none],
  [a1 (.iload_n 1), a1 (.ireturn)]]
/-- 36: java/lang/Integer.bitCount -/
noncomputable def mk_36 : List (List (Option mEnt)) := [[a1 (.iload_n 0), a1 (.iload_n 0), a1 (.iconst 1), a1 (.iushr), a0 (.ldc_w 265) 3 99 2 0 0 1431655765, none, none, a1 (.iand), a1 (.isub), a1 (.istore_n 0), a1 (.iload_n 0), a0 (.ldc_w 266) 3 100 2 0 0 858993459, none, none, a1 (.iand), a1 (.iload_n 0), a1 (.iconst 2), a1 (.iushr), a0 (.ldc_w 266) 3 100 2 0 0 858993459, none, none, a1 (.iand), a1 (.iadd), a1 (.istore_n 0), a1 (.iload_n 0), a1 (.iload_n 0), a1 (.iconst 4), a1 (.iushr), a1 (.iadd), a0 (.ldc_w 267) 3 101 2 0 0 252645135, none, none],
  [a1 (.iand), a1 (.istore_n 0), a1 (.iload_n 0), a1 (.iload_n 0), a2 (.bipush 8), none, a1 (.iushr), a1 (.iadd), a1 (.istore_n 0), a1 (.iload_n 0), a1 (.iload_n 0), a2 (.bipush 16), none, a1 (.iushr), a1 (.iadd), a1 (.istore_n 0), a1 (.iload_n 0), a2 (.bipush 63), none, a1 (.iand), a1 (.ireturn)]]
/-- 37: EnvyRust.now -/
noncomputable def mk_37 : List (List (Option mEnt)) := [[a1 (.iload_n 1), a0 (.tableswitch 75 0 4 #[35, 43, 51, 59, 67]) 35 0 0 0 0 0, none, none, none, none, none, none, none, none, none, none, none, none, none, none, none, none, none, none, none, none, none, none, none, none, none, none, none, none, none, none],
  [none, none, none, none, a1 (.aload_n 0), a0 (.getfield 10) 3 49 0 3 0 0, none, none, a0 (.getfield 111) 3 22 1 2 5 0, none, none, a1 (.ireturn), a1 (.aload_n 0), a0 (.getfield 10) 3 49 0 3 0 0, none, none, a0 (.invokevirtual 119) 3 97 11 35 1 0, none, none, a1 (.ireturn), a1 (.aload_n 0), a0 (.getfield 10) 3 49 0 3 0 0, none, none, a0 (.invokevirtual 128) 3 103 11 38 1 0, none, none, a1 (.ireturn), a1 (.aload_n 0), a0 (.getfield 10) 3 49 0 3 0 0, none, none],
  [a0 (.invokevirtual 131) 3 104 11 39 1 0, none, none, a1 (.ireturn), a1 (.aload_n 0), a0 (.getfield 10) 3 49 0 3 0 0, none, none, a0 (.invokevirtual 134) 3 105 11 40 1 0, none, none, a1 (.ireturn), a1 (.aload_n 0), a0 (.ldc 54) 2 60 2 0 0 (-1000001), none, a0 (.invokevirtual 55) 3 61 10 7 2 0, none, none, a1 (.ireturn)]]
/-- 38: EnvyRust$Town.allThick -/
noncomputable def mk_38 : List (List (Option mEnt)) := [[a1 (.iconst 0), a1 (.istore_n 1), a1 (.iconst 0), a1 (.istore_n 2), a1 (.iload_n 2), a1 (.aload_n 0), a0 (.getfield 23) 3 15 0 2 3 0, none, none, a3 (.if_icmp .ge 20), none, none, a1 (.iload_n 1), a1 (.aload_n 0), a0 (.getfield 13) 3 7 0 2 0 0, none, none, a1 (.iconst 2), a1 (.aaload), a1 (.iload_n 2), a1 (.iaload), a1 (.iadd), a1 (.istore_n 1), a3 (.iinc 2 1), none, none, a3 (.goto (-22)), none, none, a1 (.iload_n 1), a1 (.ireturn)]]
/-- 39: EnvyRust$Town.allWear -/
noncomputable def mk_39 : List (List (Option mEnt)) := [[a1 (.iconst 0), a1 (.istore_n 1), a1 (.iconst 0), a1 (.istore_n 2), a1 (.iload_n 2), a1 (.aload_n 0), a0 (.getfield 23) 3 15 0 2 3 0, none, none, a3 (.if_icmp .ge 17), none, none, a1 (.iload_n 1), a1 (.aload_n 0), a1 (.iload_n 2), a0 (.invokevirtual 76) 3 92 10 11 2 0, none, none, a1 (.iadd), a1 (.istore_n 1), a3 (.iinc 2 1), none, none, a3 (.goto (-19)), none, none, a1 (.iload_n 1), a1 (.ireturn)]]
/-- 40: EnvyRust$Town.visited -/
noncomputable def mk_40 : List (List (Option mEnt)) := [[a1 (.iconst 0), a1 (.istore_n 1), a1 (.iconst 0), a1 (.istore_n 2), a1 (.iload_n 2), a1 (.aload_n 0), a0 (.getfield 27) 3 18 0 2 4 0, none, none, a3 (.if_icmp .ge 22), none, none, a1 (.iload_n 1), a1 (.iconst 1), a1 (.aload_n 0), a0 (.getfield 16) 3 10 0 2 1 0, none, none, a1 (.iconst 1), a1 (.aaload), a1 (.iload_n 2), a1 (.iaload), a1 (.ishl), a1 (.ior), a1 (.istore_n 1), a3 (.iinc 2 1), none, none, a3 (.goto (-24)), none, none, a1 (.iconst 0)],
  [a1 (.istore_n 2), a1 (.iconst 0), a1 (.istore_n 3), a1 (.iload_n 3), a1 (.aload_n 0), a0 (.getfield 23) 3 15 0 2 3 0, none, none, a3 (.if_icmp .ge 30), none, none, a1 (.iload_n 1), a1 (.aload_n 0), a0 (.getfield 13) 3 7 0 2 0 0, none, none, a1 (.iconst 1), a1 (.aaload), a1 (.iload_n 3), a1 (.iaload), a0 (.invokestatic 67) 3 78 13 21 2 0, none, none, a3 (.ifCond .eq 9), none, none, a1 (.iload_n 2), a1 (.iconst 1), a1 (.iload_n 3), a1 (.ishl), a1 (.ior), a1 (.istore_n 2)],
  [a3 (.iinc 3 1), none, none, a3 (.goto (-32)), none, none, a1 (.iload_n 2), a1 (.ireturn)]]
/-- 41: EnvyRust.ahead -/
noncomputable def mk_41 : List (List (Option mEnt)) := [[a1 (.aload_n 0), a0 (.getfield 10) 3 49 0 3 0 0, none, none, a1 (.iload_n 1), a0 (.invokevirtual 68) 3 65 11 10 2 0, none, none, a3 (.ifCond .eq 13), none, none, a1 (.iload_n 2), a1 (.iconst 0), a2 (.bipush 100), none, a0 (.invokestatic 50) 3 59 12 6 3 0, none, none, a3 (.ifCond .ne 10), none, none, a1 (.aload_n 0), a0 (.ldc 54) 2 60 2 0 0 (-1000001), none, a0 (.invokevirtual 55) 3 61 10 7 2 0, none, none, a1 (.ireturn), a1 (.aload_n 0), a0 (.invokevirtual 137) 3 107 10 42 1 0, none, none],
  [a1 (.aload_n 0), a0 (.getfield 19) 3 51 0 3 2 0, none, none, a1 (.iload_n 2), a0 (.invokevirtual 115) 3 91 11 30 2 0, none, none, a1 (.aload_n 0), a0 (.getfield 19) 3 51 0 3 2 0, none, none, a0 (.getfield 75) 3 8 1 2 0 0, none, none, a1 (.iconst 2), a1 (.aaload), a1 (.iload_n 1), a1 (.iaload), a1 (.ireturn)]]
/-- 42: EnvyRust.startTrial -/
noncomputable def mk_42 : List (List (Option mEnt)) := [[a1 (.aload_n 0), a0 (.getfield 19) 3 51 0 3 2 0, none, none, a1 (.aload_n 0), a0 (.getfield 10) 3 49 0 3 0 0, none, none, a0 (.invokevirtual 181) 3 108 11 43 2 0, none, none, a1 (.return_)]]
/-- 43: EnvyRust$Town.become -/
noncomputable def mk_43 : List (List (Option mEnt)) := [[a1 (.iconst 0), a1 (.istore_n 2), a1 (.iload_n 2), a2 (.bipush 6), none, a3 (.if_icmp .ge 28), none, none, a1 (.aload_n 1), a0 (.getfield 13) 3 7 0 2 0 0, none, none, a1 (.iload_n 2), a1 (.aaload), a1 (.iconst 0), a1 (.aload_n 0), a0 (.getfield 13) 3 7 0 2 0 0, none, none, a1 (.iload_n 2), a1 (.aaload), a1 (.iconst 0), a2 (.bipush 8), none, a0 (.invokestatic 39) 3 109 21 0 0 0, none, none, a3 (.iinc 2 1), none, none, a3 (.goto (-28)), none],
  [none, a1 (.iconst 0), a1 (.istore_n 2), a1 (.iload_n 2), a2 (.bipush 7), none, a3 (.if_icmp .ge 28), none, none, a1 (.aload_n 1), a0 (.getfield 16) 3 10 0 2 1 0, none, none, a1 (.iload_n 2), a1 (.aaload), a1 (.iconst 0), a1 (.aload_n 0), a0 (.getfield 16) 3 10 0 2 1 0, none, none, a1 (.iload_n 2), a1 (.aaload), a1 (.iconst 0), a2 (.bipush 8), none, a0 (.invokestatic 39) 3 109 21 0 0 0, none, none, a3 (.iinc 2 1), none, none, a3 (.goto (-28))],
  [none, none, a1 (.aload_n 1), a0 (.getfield 19) 3 13 0 2 2 0, none, none, a1 (.iconst 0), a1 (.aload_n 0), a0 (.getfield 19) 3 13 0 2 2 0, none, none, a1 (.iconst 0), a2 (.bipush 10), none, a0 (.invokestatic 39) 3 109 21 0 0 0, none, none, a1 (.aload_n 0), a1 (.aload_n 1), a0 (.getfield 23) 3 15 0 2 3 0, none, none, a0 (.putfield 23) 3 15 0 2 3 0, none, none, a1 (.aload_n 0), a1 (.aload_n 1), a0 (.getfield 27) 3 18 0 2 4 0, none, none, a0 (.putfield 27) 3 18 0 2 4 0, none],
  [none, a1 (.aload_n 0), a1 (.aload_n 1), a0 (.getfield 30) 3 21 0 2 5 0, none, none, a0 (.putfield 30) 3 21 0 2 5 0, none, none, a1 (.aload_n 0), a1 (.aload_n 1), a0 (.getfield 33) 3 23 0 2 6 0, none, none, a0 (.putfield 33) 3 23 0 2 6 0, none, none, a1 (.aload_n 0), a1 (.aload_n 1), a0 (.getfield 36) 3 25 0 2 7 0, none, none, a0 (.putfield 36) 3 25 0 2 7 0, none, none, a1 (.return_)]]
/-- 44: EnvyRust.lasts -/
noncomputable def mk_44 : List (List (Option mEnt)) := [[a1 (.aload_n 0), a0 (.getfield 10) 3 49 0 3 0 0, none, none, a1 (.iload_n 1), a0 (.invokevirtual 68) 3 65 11 10 2 0, none, none, a3 (.ifCond .ne 10), none, none, a1 (.aload_n 0), a0 (.ldc 54) 2 60 2 0 0 (-1000001), none, a0 (.invokevirtual 55) 3 61 10 7 2 0, none, none, a1 (.ireturn), a1 (.aload_n 0), a0 (.invokevirtual 137) 3 107 10 42 1 0, none, none, a1 (.iconst 0), a1 (.istore_n 2), a1 (.iload_n 2), a2 (.bipush 100), none, a3 (.if_icmp .gt 30), none, none, a1 (.aload_n 0), a0 (.getfield 19) 3 51 0 3 2 0],
  [none, none, a1 (.iload_n 1), a0 (.invokevirtual 140) 3 111 11 32 2 0, none, none, a3 (.ifCond .eq 5), none, none, a1 (.iload_n 2), a1 (.ireturn), a1 (.aload_n 0), a0 (.getfield 19) 3 51 0 3 2 0, none, none, a1 (.iconst 1), a0 (.invokevirtual 115) 3 91 11 30 2 0, none, none, a3 (.iinc 2 1), none, none, a3 (.goto (-30)), none, none, a1 (.aload_n 0), a0 (.ldc 143) 2 112 2 0 0 (-1000004), none, a0 (.invokevirtual 55) 3 61 10 7 2 0, none, none, a1 (.ireturn)]]
/-- 45: EnvyRust.gone -/
noncomputable def mk_45 : List (List (Option mEnt)) := [[a1 (.iload_n 1), a1 (.iconst 0), a2 (.bipush 100), none, a0 (.invokestatic 50) 3 59 12 6 3 0, none, none, a3 (.ifCond .ne 10), none, none, a1 (.aload_n 0), a0 (.ldc 54) 2 60 2 0 0 (-1000001), none, a0 (.invokevirtual 55) 3 61 10 7 2 0, none, none, a1 (.ireturn), a1 (.aload_n 0), a0 (.invokevirtual 137) 3 107 10 42 1 0, none, none, a1 (.aload_n 0), a0 (.getfield 19) 3 51 0 3 2 0, none, none, a1 (.iload_n 1), a0 (.invokevirtual 115) 3 91 11 30 2 0, none, none, a1 (.aload_n 0), a0 (.getfield 19) 3 51 0 3 2 0, none],
  [none, a0 (.invokevirtual 119) 3 97 11 35 1 0, none, none, a1 (.ireturn)]]
/-- 46: EnvyRust.worn -/
noncomputable def mk_46 : List (List (Option mEnt)) := [[a1 (.iload_n 1), a1 (.iconst 0), a2 (.bipush 100), none, a0 (.invokestatic 50) 3 59 12 6 3 0, none, none, a3 (.ifCond .ne 10), none, none, a1 (.aload_n 0), a0 (.ldc 54) 2 60 2 0 0 (-1000001), none, a0 (.invokevirtual 55) 3 61 10 7 2 0, none, none, a1 (.ireturn), a1 (.aload_n 0), a0 (.invokevirtual 137) 3 107 10 42 1 0, none, none, a1 (.aload_n 0), a0 (.getfield 19) 3 51 0 3 2 0, none, none, a1 (.iload_n 1), a0 (.invokevirtual 115) 3 91 11 30 2 0, none, none, a1 (.aload_n 0), a0 (.getfield 10) 3 49 0 3 0 0, none],
  [none, a0 (.invokevirtual 128) 3 103 11 38 1 0, none, none, a1 (.aload_n 0), a0 (.getfield 19) 3 51 0 3 2 0, none, none, a0 (.invokevirtual 128) 3 103 11 38 1 0, none, none, a1 (.isub), a1 (.ireturn)]]
/-- 47: EnvyRust.sees -/
noncomputable def mk_47 : List (List (Option mEnt)) := [[a1 (.aload_n 0), a0 (.getfield 10) 3 49 0 3 0 0, none, none, a1 (.iload_n 1), a0 (.invokevirtual 90) 3 76 11 19 2 0, none, none, a3 (.ifCond .eq 14), none, none, a1 (.aload_n 0), a0 (.getfield 10) 3 49 0 3 0 0, none, none, a1 (.iload_n 2), a0 (.invokevirtual 68) 3 65 11 10 2 0, none, none, a3 (.ifCond .ne 10), none, none, a1 (.aload_n 0), a0 (.ldc 54) 2 60 2 0 0 (-1000001), none, a0 (.invokevirtual 55) 3 61 10 7 2 0, none, none, a1 (.ireturn), a1 (.aload_n 0), a0 (.getfield 10) 3 49 0 3 0 0, none],
  [none, a0 (.getfield 75) 3 8 1 2 0 0, none, none, a1 (.iconst 1), a1 (.aaload), a1 (.iload_n 2), a1 (.iaload), a1 (.istore_n 3), a1 (.aload_n 0), a0 (.getfield 10) 3 49 0 3 0 0, none, none, a0 (.getfield 102) 3 12 1 2 1 0, none, none, a1 (.iconst 2), a1 (.aaload), a1 (.iload_n 1), a1 (.iaload), a2 (.istore 4), none, a1 (.aload_n 0), a0 (.getfield 10) 3 49 0 3 0 0, none, none, a0 (.getfield 102) 3 12 1 2 1 0, none, none, a1 (.iconst 1), a1 (.aaload), a1 (.iload_n 1)],
  [a1 (.iaload), a2 (.istore 5), none, a1 (.iconst 0), a2 (.istore 6), none, a2 (.iload 6), none, a2 (.bipush 100), none, a3 (.if_icmp .gt 27), none, none, a2 (.iload 5), none, a1 (.iload_n 3), a3 (.if_icmp .ne 6), none, none, a2 (.iload 6), none, a1 (.ireturn), a2 (.iload 5), none, a2 (.iload 4), none, a0 (.invokestatic 144) 3 116 12 34 2 0, none, none, a2 (.istore 5), none, a3 (.iinc 6 1)],
  [none, none, a3 (.goto (-28)), none, none, a1 (.aload_n 0), a0 (.ldc 143) 2 112 2 0 0 (-1000004), none, a0 (.invokevirtual 55) 3 61 10 7 2 0, none, none, a1 (.ireturn)]]
/-- 48: EnvyRust.kindFor -/
noncomputable def mk_48 : List (List (Option mEnt)) := [[a1 (.aload_n 0), a0 (.getfield 10) 3 49 0 3 0 0, none, none, a1 (.iload_n 1), a0 (.invokevirtual 90) 3 76 11 19 2 0, none, none, a3 (.ifCond .eq 13), none, none, a1 (.iload_n 2), a1 (.iconst 0), a2 (.bipush 60), none, a0 (.invokestatic 50) 3 59 12 6 3 0, none, none, a3 (.ifCond .ne 10), none, none, a1 (.aload_n 0), a0 (.ldc 54) 2 60 2 0 0 (-1000001), none, a0 (.invokevirtual 55) 3 61 10 7 2 0, none, none, a1 (.ireturn), a1 (.aload_n 0), a1 (.iload_n 1), a1 (.iconst 0), a2 (.bipush 7)],
  [none, a1 (.iload_n 2), a0 (.invokevirtual 147) 3 118 10 49 5 0, none, none, a1 (.ireturn)]]
/-- 49: EnvyRust.sparingFor -/
noncomputable def mk_49 : List (List (Option mEnt)) := [[a1 (.iconst 0), a2 (.istore 5), none, a1 (.iconst (-1)), a2 (.istore 6), none, a1 (.iconst 0), a2 (.istore 7), none, a2 (.iload 7), none, a1 (.iload_n 3), a3 (.if_icmp .ge 59), none, none, a1 (.aload_n 0), a0 (.invokevirtual 137) 3 107 10 42 1 0, none, none, a1 (.aload_n 0), a0 (.getfield 19) 3 51 0 3 2 0, none, none, a0 (.getfield 102) 3 12 1 2 1 0, none, none, a1 (.iload_n 2), a1 (.aaload), a1 (.iload_n 1), a2 (.iload 7), none, a1 (.iastore)],
  [a1 (.aload_n 0), a0 (.getfield 19) 3 51 0 3 2 0, none, none, a2 (.iload 4), none, a0 (.invokevirtual 115) 3 91 11 30 2 0, none, none, a1 (.aload_n 0), a0 (.getfield 19) 3 51 0 3 2 0, none, none, a0 (.invokevirtual 128) 3 103 11 38 1 0, none, none, a2 (.istore 8), none, a2 (.iload 8), none, a2 (.iload 6), none, a3 (.if_icmp .le 11), none, none, a2 (.iload 8), none, a2 (.istore 6), none, a2 (.iload 7), none, a2 (.istore 5)],
  [none, a3 (.iinc 7 1), none, none, a3 (.goto (-59)), none, none, a2 (.iload 5), none, a1 (.ireturn)]]
/-- 50: EnvyRust.walkFor -/
noncomputable def mk_50 : List (List (Option mEnt)) := [[a1 (.aload_n 0), a0 (.getfield 10) 3 49 0 3 0 0, none, none, a1 (.iload_n 1), a0 (.invokevirtual 90) 3 76 11 19 2 0, none, none, a3 (.ifCond .eq 13), none, none, a1 (.iload_n 2), a1 (.iconst 0), a2 (.bipush 60), none, a0 (.invokestatic 50) 3 59 12 6 3 0, none, none, a3 (.ifCond .ne 10), none, none, a1 (.aload_n 0), a0 (.ldc 54) 2 60 2 0 0 (-1000001), none, a0 (.invokevirtual 55) 3 61 10 7 2 0, none, none, a1 (.ireturn), a1 (.aload_n 0), a1 (.iload_n 1), a1 (.iconst 2), a2 (.bipush 16)],
  [none, a1 (.iload_n 2), a0 (.invokevirtual 147) 3 118 10 49 5 0, none, none, a1 (.ireturn)]]
/-- 51: EnvyRust.placeFor -/
noncomputable def mk_51 : List (List (Option mEnt)) := [[a1 (.aload_n 0), a0 (.getfield 10) 3 49 0 3 0 0, none, none, a1 (.iload_n 1), a0 (.invokevirtual 68) 3 65 11 10 2 0, none, none, a3 (.ifCond .eq 13), none, none, a1 (.iload_n 2), a1 (.iconst 0), a2 (.bipush 60), none, a0 (.invokestatic 50) 3 59 12 6 3 0, none, none, a3 (.ifCond .ne 10), none, none, a1 (.aload_n 0), a0 (.ldc 54) 2 60 2 0 0 (-1000001), none, a0 (.invokevirtual 55) 3 61 10 7 2 0, none, none, a1 (.ireturn), a1 (.aload_n 0), a1 (.iload_n 1), a1 (.iconst 1), a2 (.bipush 16)],
  [none, a1 (.iload_n 2), a0 (.invokevirtual 151) 3 121 10 52 5 0, none, none, a1 (.ireturn)]]
/-- 52: EnvyRust.thickestFor -/
noncomputable def mk_52 : List (List (Option mEnt)) := [[a1 (.iconst 0), a2 (.istore 5), none, a1 (.iconst (-1)), a2 (.istore 6), none, a1 (.iconst 0), a2 (.istore 7), none, a2 (.iload 7), none, a1 (.iload_n 3), a3 (.if_icmp .ge 63), none, none, a1 (.aload_n 0), a0 (.invokevirtual 137) 3 107 10 42 1 0, none, none, a1 (.aload_n 0), a0 (.getfield 19) 3 51 0 3 2 0, none, none, a0 (.getfield 75) 3 8 1 2 0 0, none, none, a1 (.iload_n 2), a1 (.aaload), a1 (.iload_n 1), a2 (.iload 7), none, a1 (.iastore)],
  [a1 (.aload_n 0), a0 (.getfield 19) 3 51 0 3 2 0, none, none, a2 (.iload 4), none, a0 (.invokevirtual 115) 3 91 11 30 2 0, none, none, a1 (.aload_n 0), a0 (.getfield 19) 3 51 0 3 2 0, none, none, a0 (.getfield 75) 3 8 1 2 0 0, none, none, a1 (.iconst 2), a1 (.aaload), a1 (.iload_n 1), a1 (.iaload), a2 (.istore 8), none, a2 (.iload 8), none, a2 (.iload 6), none, a3 (.if_icmp .le 11), none, none, a2 (.iload 8), none, a2 (.istore 6)],
  [none, a2 (.iload 7), none, a2 (.istore 5), none, a3 (.iinc 7 1), none, none, a3 (.goto (-63)), none, none, a2 (.iload 5), none, a1 (.ireturn)]]
/-- 53: EnvyRust.ownerFor -/
noncomputable def mk_53 : List (List (Option mEnt)) := [[a1 (.aload_n 0), a0 (.getfield 10) 3 49 0 3 0 0, none, none, a1 (.iload_n 1), a0 (.invokevirtual 68) 3 65 11 10 2 0, none, none, a3 (.ifCond .eq 13), none, none, a1 (.iload_n 2), a1 (.iconst 0), a2 (.bipush 60), none, a0 (.invokestatic 50) 3 59 12 6 3 0, none, none, a3 (.ifCond .ne 10), none, none, a1 (.aload_n 0), a0 (.ldc 54) 2 60 2 0 0 (-1000001), none, a0 (.invokevirtual 55) 3 61 10 7 2 0, none, none, a1 (.ireturn), a1 (.aload_n 0), a0 (.getfield 10) 3 49 0 3 0 0, none, none],
  [a0 (.getfield 93) 3 20 1 2 4 0, none, none, a3 (.ifCond .ne 10), none, none, a1 (.aload_n 0), a0 (.ldc 143) 2 112 2 0 0 (-1000004), none, a0 (.invokevirtual 55) 3 61 10 7 2 0, none, none, a1 (.ireturn), a1 (.aload_n 0), a1 (.iload_n 1), a1 (.iconst 4), a1 (.aload_n 0), a0 (.getfield 10) 3 49 0 3 0 0, none, none, a0 (.getfield 93) 3 20 1 2 4 0, none, none, a1 (.iload_n 2), a0 (.invokevirtual 151) 3 121 10 52 5 0, none, none, a1 (.ireturn)]]
/-- 54: EnvyRust.worst -/
noncomputable def mk_54 : List (List (Option mEnt)) := [[a1 (.iload_n 1), a1 (.iconst 0), a2 (.bipush 60), none, a0 (.invokestatic 50) 3 59 12 6 3 0, none, none, a3 (.ifCond .ne 10), none, none, a1 (.aload_n 0), a0 (.ldc 54) 2 60 2 0 0 (-1000001), none, a0 (.invokevirtual 55) 3 61 10 7 2 0, none, none, a1 (.ireturn), a1 (.aload_n 0), a0 (.getfield 10) 3 49 0 3 0 0, none, none, a0 (.getfield 93) 3 20 1 2 4 0, none, none, a3 (.ifCond .ne 10), none, none, a1 (.aload_n 0), a0 (.ldc 143) 2 112 2 0 0 (-1000004), none, a0 (.invokevirtual 55) 3 61 10 7 2 0, none],
  [none, a1 (.ireturn), a1 (.iconst 0), a1 (.istore_n 2), a1 (.iconst (-1)), a1 (.istore_n 3), a1 (.iconst 0), a2 (.istore 4), none, a2 (.iload 4), none, a1 (.aload_n 0), a0 (.getfield 10) 3 49 0 3 0 0, none, none, a0 (.getfield 93) 3 20 1 2 4 0, none, none, a3 (.if_icmp .ge 51), none, none, a1 (.aload_n 0), a0 (.invokevirtual 137) 3 107 10 42 1 0, none, none, a1 (.aload_n 0), a0 (.getfield 19) 3 51 0 3 2 0, none, none, a2 (.iload 4), none, a0 (.putfield 154) 3 26 1 2 7 0],
  [none, none, a1 (.aload_n 0), a0 (.getfield 19) 3 51 0 3 2 0, none, none, a1 (.iload_n 1), a0 (.invokevirtual 115) 3 91 11 30 2 0, none, none, a1 (.aload_n 0), a0 (.getfield 19) 3 51 0 3 2 0, none, none, a0 (.invokevirtual 128) 3 103 11 38 1 0, none, none, a2 (.istore 5), none, a2 (.iload 5), none, a1 (.iload_n 3), a3 (.if_icmp .le 9), none, none, a2 (.iload 5), none, a1 (.istore_n 3), a2 (.iload 4), none, a1 (.istore_n 2), a3 (.iinc 4 1)],
  [none, none, a3 (.goto (-57)), none, none, a1 (.iload_n 2), a1 (.ireturn)]]
/-- 55: EnvyRust.paint -/
noncomputable def mk_55 : List (List (Option mEnt)) := [[a1 (.iload_n 1), a1 (.iconst 0), a2 (.bipush 8), none, a0 (.invokestatic 50) 3 59 12 6 3 0, none, none, a3 (.ifCond .eq 13), none, none, a1 (.iload_n 2), a1 (.iconst 0), a2 (.bipush 60), none, a0 (.invokestatic 50) 3 59 12 6 3 0, none, none, a3 (.ifCond .ne 10), none, none, a1 (.aload_n 0), a0 (.ldc 54) 2 60 2 0 0 (-1000001), none, a0 (.invokevirtual 55) 3 61 10 7 2 0, none, none, a1 (.ireturn), a1 (.iload_n 1), a1 (.aload_n 0), a0 (.getfield 10) 3 49 0 3 0 0, none, none],
  [a0 (.getfield 59) 3 16 1 2 3 0, none, none, a0 (.invokestatic 157) 3 125 25 0 0 0, none, none, a1 (.istore_n 3), a1 (.aload_n 0), a1 (.iconst 0), a1 (.iload_n 2), a1 (.aload_n 0), a0 (.getfield 43) 3 56 0 3 7 0, none, none, a0 (.invokevirtual 162) 3 126 10 56 4 0, none, none, a1 (.aload_n 0), a1 (.aload_n 0), a0 (.getfield 10) 3 49 0 3 0 0, none, none, a0 (.invokevirtual 166) 3 128 11 57 1 0, none, none, a1 (.iload_n 2), a1 (.aload_n 0), a0 (.getfield 46) 3 57 0 3 8 0, none, none, a0 (.invokevirtual 162) 3 126 10 56 4 0, none],
  [none, a1 (.aload_n 0), a0 (.invokevirtual 137) 3 107 10 42 1 0, none, none, a1 (.iconst 0), a2 (.istore 4), none, a1 (.iconst (-1)), a2 (.istore 5), none, a1 (.iconst 0), a2 (.istore 6), none, a2 (.iload 6), none, a1 (.aload_n 0), a0 (.getfield 10) 3 49 0 3 0 0, none, none, a0 (.invokevirtual 166) 3 128 11 57 1 0, none, none, a3 (.if_icmp .gt 41), none, none, a2 (.iload 6), none, a0 (.invokestatic 123) 3 98 12 36 1 0, none, none, a1 (.iload_n 3)],
  [a3 (.if_icmp .ne 26), none, none, a1 (.aload_n 0), a2 (.iload 6), none, a0 (.invokevirtual 169) 3 129 10 58 2 0, none, none, a2 (.istore 7), none, a2 (.iload 7), none, a2 (.iload 5), none, a3 (.if_icmp .le 11), none, none, a2 (.iload 7), none, a2 (.istore 5), none, a2 (.iload 6), none, a2 (.istore 4), none, a3 (.iinc 6 1), none, none, a3 (.goto (-47)), none, none],
  [a2 (.iload 4), none, a1 (.ireturn)]]
/-- 56: EnvyRust.wearAlone -/
noncomputable def mk_56 : List (List (Option mEnt)) := [[a1 (.aload_n 0), a0 (.invokevirtual 137) 3 107 10 42 1 0, none, none, a1 (.iconst 0), a2 (.istore 4), none, a2 (.iload 4), none, a1 (.aload_n 0), a0 (.getfield 19) 3 51 0 3 2 0, none, none, a0 (.getfield 59) 3 16 1 2 3 0, none, none, a3 (.if_icmp .ge 45), none, none, a1 (.aload_n 0), a0 (.getfield 19) 3 51 0 3 2 0, none, none, a0 (.getfield 75) 3 8 1 2 0 0, none, none, a1 (.iconst 5), a1 (.aaload), a2 (.iload 4), none, a1 (.iconst (-1)), a1 (.iastore)],
  [a1 (.iload_n 1), a2 (.iload 4), none, a0 (.invokestatic 85) 3 79 12 21 2 0, none, none, a3 (.ifCond .eq 17), none, none, a1 (.aload_n 0), a0 (.getfield 19) 3 51 0 3 2 0, none, none, a0 (.getfield 75) 3 8 1 2 0 0, none, none, a1 (.iconst 3), a1 (.aaload), a2 (.iload 4), none, a2 (.bipush 9), none, a1 (.iastore), a3 (.iinc 4 1), none, none, a3 (.goto (-51)), none, none, a1 (.aload_n 0), a0 (.getfield 19) 3 51 0 3 2 0, none],
  [none, a1 (.iload_n 2), a0 (.invokevirtual 115) 3 91 11 30 2 0, none, none, a1 (.aload_n 0), a0 (.getfield 19) 3 51 0 3 2 0, none, none, a0 (.getfield 75) 3 8 1 2 0 0, none, none, a1 (.iconst 2), a1 (.aaload), a1 (.iconst 0), a1 (.aload_n 3), a1 (.iconst 0), a2 (.bipush 8), none, a0 (.invokestatic 172) 3 127 21 0 0 0, none, none, a1 (.return_)]]
/-- 57: EnvyRust$Town.allThings -/
noncomputable def mk_57 : List (List (Option mEnt)) := [[a1 (.iconst 1), a1 (.aload_n 0), a0 (.getfield 23) 3 15 0 2 3 0, none, none, a1 (.ishl), a1 (.iconst 1), a1 (.isub), a1 (.ireturn)]]
/-- 58: EnvyRust.leftPainted -/
noncomputable def mk_58 : List (List (Option mEnt)) := [[a1 (.iconst 0), a1 (.istore_n 2), a1 (.iload_n 2), a1 (.aload_n 0), a0 (.getfield 19) 3 51 0 3 2 0, none, none, a0 (.getfield 59) 3 16 1 2 3 0, none, none, a3 (.if_icmp .ge 43), none, none, a1 (.aload_n 0), a0 (.getfield 19) 3 51 0 3 2 0, none, none, a0 (.getfield 75) 3 8 1 2 0 0, none, none, a1 (.iconst 2), a1 (.aaload), a1 (.iload_n 2), a1 (.iload_n 1), a1 (.iload_n 2), a0 (.invokestatic 85) 3 79 12 21 2 0, none, none, a3 (.ifCond .eq 12), none, none, a1 (.aload_n 0)],
  [a0 (.getfield 46) 3 57 0 3 8 0, none, none, a1 (.iload_n 2), a1 (.iaload), a3 (.goto 9), none, none, a1 (.aload_n 0), a0 (.getfield 43) 3 56 0 3 7 0, none, none, a1 (.iload_n 2), a1 (.iaload), a1 (.iastore), a3 (.iinc 2 1), none, none, a3 (.goto (-48)), none, none, a1 (.aload_n 0), a0 (.getfield 19) 3 51 0 3 2 0, none, none, a0 (.invokevirtual 178) 3 130 11 31 1 0, none, none, a1 (.aload_n 0), a0 (.getfield 19) 3 51 0 3 2 0, none, none],
  [a0 (.invokevirtual 128) 3 103 11 38 1 0, none, none, a1 (.ireturn)]]
/-- 59: EnvyRust.needs -/
noncomputable def mk_59 : List (List (Option mEnt)) := [[a1 (.aload_n 0), a0 (.getfield 10) 3 49 0 3 0 0, none, none, a1 (.iload_n 1), a0 (.invokevirtual 68) 3 65 11 10 2 0, none, none, a3 (.ifCond .eq 13), none, none, a1 (.iload_n 2), a1 (.iconst 0), a2 (.bipush 60), none, a0 (.invokestatic 50) 3 59 12 6 3 0, none, none, a3 (.ifCond .ne 10), none, none, a1 (.aload_n 0), a0 (.ldc 54) 2 60 2 0 0 (-1000001), none, a0 (.invokevirtual 55) 3 61 10 7 2 0, none, none, a1 (.ireturn), a1 (.iconst 0), a1 (.istore_n 3), a1 (.iload_n 3), a2 (.bipush 9)],
  [none, a3 (.if_icmp .gt 46), none, none, a1 (.aload_n 0), a0 (.invokevirtual 137) 3 107 10 42 1 0, none, none, a1 (.aload_n 0), a0 (.getfield 19) 3 51 0 3 2 0, none, none, a0 (.getfield 75) 3 8 1 2 0 0, none, none, a1 (.iconst 3), a1 (.aaload), a1 (.iload_n 1), a1 (.iload_n 3), a1 (.iastore), a1 (.aload_n 0), a0 (.getfield 19) 3 51 0 3 2 0, none, none, a1 (.iload_n 2), a0 (.invokevirtual 115) 3 91 11 30 2 0, none, none, a1 (.aload_n 0), a0 (.getfield 19) 3 51 0 3 2 0, none, none],
  [a1 (.iload_n 1), a0 (.invokevirtual 140) 3 111 11 32 2 0, none, none, a3 (.ifCond .ne 5), none, none, a1 (.iload_n 3), a1 (.ireturn), a3 (.iinc 3 1), none, none, a3 (.goto (-46)), none, none, a1 (.aload_n 0), a0 (.ldc 143) 2 112 2 0 0 (-1000004), none, a0 (.invokevirtual 55) 3 61 10 7 2 0, none, none, a1 (.ireturn)]]
/-- 60: EnvyRust.fallsWith -/
noncomputable def mk_60 : List (List (Option mEnt)) := [[a1 (.aload_n 0), a0 (.getfield 10) 3 49 0 3 0 0, none, none, a1 (.iload_n 1), a0 (.invokevirtual 68) 3 65 11 10 2 0, none, none, a3 (.ifCond .eq 14), none, none, a1 (.aload_n 0), a0 (.getfield 10) 3 49 0 3 0 0, none, none, a1 (.iload_n 1), a0 (.invokevirtual 82) 3 77 11 20 2 0, none, none, a3 (.goto 9), none, none, a1 (.aload_n 0), a0 (.ldc 54) 2 60 2 0 0 (-1000001), none, a0 (.invokevirtual 55) 3 61 10 7 2 0, none, none, a1 (.ireturn)]]
/-- 61: EnvyRust.depth -/
noncomputable def mk_61 : List (List (Option mEnt)) := [[a1 (.aload_n 0), a0 (.getfield 10) 3 49 0 3 0 0, none, none, a1 (.iload_n 1), a0 (.invokevirtual 68) 3 65 11 10 2 0, none, none, a3 (.ifCond .eq 14), none, none, a1 (.aload_n 0), a0 (.getfield 10) 3 49 0 3 0 0, none, none, a1 (.iload_n 1), a0 (.invokevirtual 185) 3 134 11 62 2 0, none, none, a3 (.goto 9), none, none, a1 (.aload_n 0), a0 (.ldc 54) 2 60 2 0 0 (-1000001), none, a0 (.invokevirtual 55) 3 61 10 7 2 0, none, none, a1 (.ireturn)]]
/-- 62: EnvyRust$Town.hangingDepth -/
noncomputable def mk_62 : List (List (Option mEnt)) := [[a1 (.iconst 0), a1 (.istore_n 2), a1 (.aload_n 0), a0 (.getfield 13) 3 7 0 2 0 0, none, none, a1 (.iconst 5), a1 (.aaload), a1 (.iload_n 1), a1 (.iaload), a1 (.istore_n 3), a1 (.iload_n 2), a2 (.bipush 8), none, a3 (.if_icmp .ge 23), none, none, a1 (.iload_n 3), a1 (.iconst (-1)), a3 (.if_icmp .eq 18), none, none, a3 (.iinc 2 1), none, none, a1 (.aload_n 0), a0 (.getfield 13) 3 7 0 2 0 0, none, none, a1 (.iconst 5), a1 (.aaload), a1 (.iload_n 3)],
  [a1 (.iaload), a1 (.istore_n 3), a3 (.goto (-23)), none, none, a1 (.iload_n 2), a1 (.ireturn)]]
/-- 63: EnvyRust.keystone -/
noncomputable def mk_63 : List (List (Option mEnt)) := [[a1 (.aload_n 0), a0 (.getfield 10) 3 49 0 3 0 0, none, none, a0 (.getfield 59) 3 16 1 2 3 0, none, none, a3 (.ifCond .ne 10), none, none, a1 (.aload_n 0), a0 (.ldc 143) 2 112 2 0 0 (-1000004), none, a0 (.invokevirtual 55) 3 61 10 7 2 0, none, none, a1 (.ireturn), a1 (.iconst 0), a1 (.istore_n 1), a1 (.iconst 0), a1 (.istore_n 2), a1 (.iconst 0), a1 (.istore_n 3), a1 (.iload_n 3), a1 (.aload_n 0), a0 (.getfield 10) 3 49 0 3 0 0, none, none, a0 (.getfield 59) 3 16 1 2 3 0, none, none, a3 (.if_icmp .ge 33)],
  [none, none, a1 (.aload_n 0), a0 (.getfield 10) 3 49 0 3 0 0, none, none, a1 (.iload_n 3), a0 (.invokevirtual 82) 3 77 11 20 2 0, none, none, a0 (.invokestatic 123) 3 98 12 36 1 0, none, none, a2 (.istore 4), none, a2 (.iload 4), none, a1 (.iload_n 2), a3 (.if_icmp .le 8), none, none, a2 (.iload 4), none, a1 (.istore_n 2), a1 (.iload_n 3), a1 (.istore_n 1), a3 (.iinc 3 1), none, none, a3 (.goto (-38)), none, none],
  [a1 (.iload_n 1), a1 (.ireturn)]]
/-- 64: EnvyRust.fells -/
noncomputable def mk_64 : List (List (Option mEnt)) := [[a1 (.iconst 0), a1 (.istore_n 1), a1 (.iconst 0), a1 (.istore_n 2), a1 (.iload_n 2), a1 (.aload_n 0), a0 (.getfield 10) 3 49 0 3 0 0, none, none, a0 (.getfield 59) 3 16 1 2 3 0, none, none, a3 (.if_icmp .ge 30), none, none, a1 (.aload_n 0), a0 (.getfield 10) 3 49 0 3 0 0, none, none, a0 (.getfield 75) 3 8 1 2 0 0, none, none, a1 (.iconst 5), a1 (.aaload), a1 (.iload_n 2), a1 (.iaload), a1 (.iconst (-1)), a3 (.if_icmp .ne 9), none, none, a1 (.iload_n 1), a1 (.iconst 1)],
  [a1 (.iload_n 2), a1 (.ishl), a1 (.ior), a1 (.istore_n 1), a3 (.iinc 2 1), none, none, a3 (.goto (-35)), none, none, a1 (.iload_n 1), a1 (.ireturn)]]
/-- 65: EnvyRust.worth -/
noncomputable def mk_65 : List (List (Option mEnt)) := [[a1 (.aload_n 0), a0 (.getfield 10) 3 49 0 3 0 0, none, none, a1 (.iload_n 1), a0 (.invokevirtual 90) 3 76 11 19 2 0, none, none, a3 (.ifCond .eq 14), none, none, a1 (.aload_n 0), a0 (.getfield 10) 3 49 0 3 0 0, none, none, a1 (.iload_n 2), a0 (.invokevirtual 188) 3 138 11 66 2 0, none, none, a3 (.ifCond .ne 10), none, none, a1 (.aload_n 0), a0 (.ldc 54) 2 60 2 0 0 (-1000001), none, a0 (.invokevirtual 55) 3 61 10 7 2 0, none, none, a1 (.ireturn), a1 (.aload_n 0), a0 (.getfield 10) 3 49 0 3 0 0, none],
  [none, a1 (.iload_n 1), a1 (.iload_n 2), a0 (.invokevirtual 191) 3 140 11 67 3 0, none, none, a1 (.ireturn)]]
/-- 66: EnvyRust$Town.isSet -/
noncomputable def mk_66 : List (List (Option mEnt)) := [[a1 (.iload_n 1), a1 (.iconst 0), a1 (.aload_n 0), a0 (.invokevirtual 49) 3 139 10 57 1 0, none, none, a0 (.invokestatic 45) 3 66 13 6 3 0, none, none, a1 (.ireturn)]]
/-- 67: EnvyRust$Town.worthOf -/
noncomputable def mk_67 : List (List (Option mEnt)) := [[a1 (.iconst 0), a1 (.istore_n 3), a1 (.iconst 0), a2 (.istore 4), none, a2 (.iload 4), none, a1 (.aload_n 0), a0 (.getfield 23) 3 15 0 2 3 0, none, none, a3 (.if_icmp .ge 29), none, none, a1 (.iload_n 2), a2 (.iload 4), none, a0 (.invokestatic 67) 3 78 13 21 2 0, none, none, a3 (.ifCond .eq 14), none, none, a1 (.iload_n 3), a1 (.aload_n 0), a1 (.iconst (-1)), a1 (.iload_n 1), a2 (.iload 4), none, a0 (.invokevirtual 53) 3 69 10 13 4 0, none, none],
  [a1 (.iadd), a1 (.istore_n 3), a3 (.iinc 4 1), none, none, a3 (.goto (-32)), none, none, a1 (.iload_n 3), a1 (.ireturn)]]
/-- 68: EnvyRust.deal -/
noncomputable def mk_68 : List (List (Option mEnt)) := [[a1 (.aload_n 0), a1 (.iload_n 1), a1 (.iload_n 2), a1 (.iload_n 3), a0 (.invokevirtual 194) 3 142 10 69 4 0, none, none, a3 (.ifCond .ne 10), none, none, a1 (.aload_n 0), a0 (.ldc 54) 2 60 2 0 0 (-1000001), none, a0 (.invokevirtual 55) 3 61 10 7 2 0, none, none, a1 (.ireturn), a1 (.iconst 0), a2 (.istore 4), none, a2 (.iload 4), none, a1 (.iload_n 3), a3 (.if_icmp .gt 36), none, none, a2 (.iload 4), none, a1 (.iload_n 3), a0 (.invokestatic 197) 3 143 12 70 2 0, none, none],
  [a3 (.ifCond .eq 21), none, none, a1 (.aload_n 0), a1 (.iload_n 1), a1 (.iload_n 2), a2 (.iload 4), none, a1 (.iload_n 3), a2 (.iload 4), none, a1 (.isub), a0 (.invokevirtual 200) 3 144 10 71 5 0, none, none, a3 (.ifCond .eq 6), none, none, a2 (.iload 4), none, a1 (.ireturn), a3 (.iinc 4 1), none, none, a3 (.goto (-36)), none, none, a1 (.aload_n 0), a0 (.ldc 143) 2 112 2 0 0 (-1000004), none, a0 (.invokevirtual 55) 3 61 10 7 2 0, none],
  [none, a1 (.ireturn)]]
/-- 69: EnvyRust.canDeal -/
noncomputable def mk_69 : List (List (Option mEnt)) := [[a1 (.aload_n 0), a0 (.getfield 10) 3 49 0 3 0 0, none, none, a1 (.iload_n 1), a0 (.invokevirtual 90) 3 76 11 19 2 0, none, none, a3 (.ifCond .eq 34), none, none, a1 (.aload_n 0), a0 (.getfield 10) 3 49 0 3 0 0, none, none, a1 (.iload_n 2), a0 (.invokevirtual 90) 3 76 11 19 2 0, none, none, a3 (.ifCond .eq 23), none, none, a1 (.iload_n 1), a1 (.iload_n 2), a3 (.if_icmp .eq 18), none, none, a1 (.aload_n 0), a0 (.getfield 10) 3 49 0 3 0 0, none, none, a1 (.iload_n 3)],
  [a0 (.invokevirtual 188) 3 138 11 66 2 0, none, none, a3 (.ifCond .eq 7), none, none, a1 (.iconst 1), a3 (.goto 4), none, none, a1 (.iconst 0), a1 (.ireturn)]]
/-- 70: EnvyRust.isPart -/
noncomputable def mk_70 : List (List (Option mEnt)) := [[a1 (.iload_n 0), a1 (.iload_n 1), a1 (.iconst (-1)), a1 (.ixor), a1 (.iand), a3 (.ifCond .ne 7), none, none, a1 (.iconst 1), a3 (.goto 4), none, none, a1 (.iconst 0), a1 (.ireturn)]]
/-- 71: EnvyRust.leavesNoEnvy -/
noncomputable def mk_71 : List (List (Option mEnt)) := [[a1 (.aload_n 0), a0 (.getfield 10) 3 49 0 3 0 0, none, none, a1 (.iload_n 1), a1 (.iload_n 3), a0 (.invokevirtual 191) 3 140 11 67 3 0, none, none, a1 (.aload_n 0), a0 (.getfield 10) 3 49 0 3 0 0, none, none, a1 (.iload_n 1), a2 (.iload 4), none, a0 (.invokevirtual 191) 3 140 11 67 3 0, none, none, a3 (.if_icmp .lt 29), none, none, a1 (.aload_n 0), a0 (.getfield 10) 3 49 0 3 0 0, none, none, a1 (.iload_n 2), a2 (.iload 4), none, a0 (.invokevirtual 191) 3 140 11 67 3 0, none, none],
  [a1 (.aload_n 0), a0 (.getfield 10) 3 49 0 3 0 0, none, none, a1 (.iload_n 2), a1 (.iload_n 3), a0 (.invokevirtual 191) 3 140 11 67 3 0, none, none, a3 (.if_icmp .lt 7), none, none, a1 (.iconst 1), a3 (.goto 4), none, none, a1 (.iconst 0), a1 (.ireturn)]]
/-- 72: EnvyRust.deals -/
noncomputable def mk_72 : List (List (Option mEnt)) := [[a1 (.aload_n 0), a1 (.iload_n 1), a1 (.iload_n 2), a1 (.iload_n 3), a0 (.invokevirtual 194) 3 142 10 69 4 0, none, none, a3 (.ifCond .ne 10), none, none, a1 (.aload_n 0), a0 (.ldc 54) 2 60 2 0 0 (-1000001), none, a0 (.invokevirtual 55) 3 61 10 7 2 0, none, none, a1 (.ireturn), a1 (.iconst 0), a2 (.istore 4), none, a1 (.iconst 0), a2 (.istore 5), none, a2 (.iload 5), none, a1 (.iload_n 3), a3 (.if_icmp .gt 36), none, none, a2 (.iload 5), none, a1 (.iload_n 3)],
  [a0 (.invokestatic 197) 3 143 12 70 2 0, none, none, a3 (.ifCond .eq 21), none, none, a1 (.aload_n 0), a1 (.iload_n 1), a1 (.iload_n 2), a2 (.iload 5), none, a1 (.iload_n 3), a2 (.iload 5), none, a1 (.isub), a0 (.invokevirtual 200) 3 144 10 71 5 0, none, none, a3 (.ifCond .eq 6), none, none, a3 (.iinc 4 1), none, none, a3 (.iinc 5 1), none, none, a3 (.goto (-36)), none, none, a2 (.iload 4), none],
  [a1 (.ireturn)]]
/-- 73: EnvyRust.lesser -/
noncomputable def mk_73 : List (List (Option mEnt)) := [[a1 (.aload_n 0), a1 (.iload_n 1), a1 (.iload_n 2), a1 (.iload_n 3), a0 (.invokevirtual 194) 3 142 10 69 4 0, none, none, a3 (.ifCond .ne 10), none, none, a1 (.aload_n 0), a0 (.ldc 54) 2 60 2 0 0 (-1000001), none, a0 (.invokevirtual 55) 3 61 10 7 2 0, none, none, a1 (.ireturn), a1 (.iconst 0), a2 (.istore 4), none, a1 (.iconst (-1)), a2 (.istore 5), none, a1 (.iconst 0), a2 (.istore 6), none, a2 (.iload 6), none, a1 (.iload_n 3), a3 (.if_icmp .gt 60), none, none],
  [a2 (.iload 6), none, a1 (.iload_n 3), a0 (.invokestatic 197) 3 143 12 70 2 0, none, none, a3 (.ifCond .eq 45), none, none, a1 (.aload_n 0), a0 (.getfield 10) 3 49 0 3 0 0, none, none, a1 (.iload_n 1), a2 (.iload 6), none, a0 (.invokevirtual 191) 3 140 11 67 3 0, none, none, a1 (.aload_n 0), a0 (.getfield 10) 3 49 0 3 0 0, none, none, a1 (.iload_n 2), a1 (.iload_n 3), a2 (.iload 6), none, a1 (.isub), a0 (.invokevirtual 191) 3 140 11 67 3 0, none, none, a0 (.invokestatic 157) 3 125 25 0 0 0],
  [none, none, a2 (.istore 7), none, a2 (.iload 7), none, a2 (.iload 5), none, a3 (.if_icmp .le 11), none, none, a2 (.iload 7), none, a2 (.istore 5), none, a2 (.iload 6), none, a2 (.istore 4), none, a3 (.iinc 6 1), none, none, a3 (.goto (-60)), none, none, a2 (.iload 4), none, a1 (.ireturn)]]
/-- 74: EnvyRust.envious -/
noncomputable def mk_74 : List (List (Option mEnt)) := [[a1 (.iconst 0), a1 (.istore_n 1), a1 (.iconst 0), a1 (.istore_n 2), a1 (.iload_n 2), a1 (.aload_n 0), a0 (.getfield 10) 3 49 0 3 0 0, none, none, a0 (.getfield 93) 3 20 1 2 4 0, none, none, a3 (.if_icmp .ge 77), none, none, a1 (.aload_n 0), a0 (.getfield 10) 3 49 0 3 0 0, none, none, a1 (.iload_n 2), a1 (.aload_n 0), a0 (.getfield 10) 3 49 0 3 0 0, none, none, a1 (.iload_n 2), a0 (.invokevirtual 99) 3 84 11 25 2 0, none, none, a0 (.invokevirtual 191) 3 140 11 67 3 0, none, none, a1 (.istore_n 3)],
  [a1 (.iconst 0), a2 (.istore 4), none, a2 (.iload 4), none, a1 (.aload_n 0), a0 (.getfield 10) 3 49 0 3 0 0, none, none, a0 (.getfield 93) 3 20 1 2 4 0, none, none, a3 (.if_icmp .ge 39), none, none, a2 (.iload 4), none, a1 (.iload_n 2), a3 (.if_icmp .eq 27), none, none, a1 (.aload_n 0), a0 (.getfield 10) 3 49 0 3 0 0, none, none, a1 (.iload_n 2), a1 (.aload_n 0), a0 (.getfield 10) 3 49 0 3 0 0, none, none, a2 (.iload 4), none],
  [a0 (.invokevirtual 99) 3 84 11 25 2 0, none, none, a0 (.invokevirtual 191) 3 140 11 67 3 0, none, none, a1 (.iload_n 3), a3 (.if_icmp .le 6), none, none, a3 (.iinc 1 1), none, none, a3 (.iinc 4 1), none, none, a3 (.goto (-45)), none, none, a3 (.iinc 2 1), none, none, a3 (.goto (-82)), none, none, a1 (.iload_n 1), a1 (.ireturn)]]
/-- 75: EnvyRust.fits -/
noncomputable def mk_75 : List (List (Option mEnt)) := [[a1 (.aload_n 0), a1 (.iload_n 1), a1 (.iload_n 2), a1 (.iload_n 3), a0 (.invokevirtual 204) 3 149 10 76 4 0, none, none, a2 (.istore 4), none, a2 (.iload 4), none, a3 (.ifCond .eq 10), none, none, a1 (.aload_n 0), a2 (.iload 4), none, a0 (.invokevirtual 55) 3 61 10 7 2 0, none, none, a1 (.ireturn), a1 (.iconst 0), a2 (.istore 5), none, a1 (.iconst 0), a2 (.istore 6), none, a2 (.iload 6), none, a2 (.bipush 9), none, a3 (.if_icmp .gt 29)],
  [none, none, a1 (.aload_n 0), a1 (.aload_n 0), a0 (.getfield 31) 3 53 0 3 4 0, none, none, a1 (.iload_n 1), a1 (.aaload), a1 (.iload_n 2), a1 (.iload_n 3), a2 (.iload 6), none, a0 (.invokevirtual 208) 3 154 10 80 5 0, none, none, a3 (.ifCond .eq 6), none, none, a3 (.iinc 5 1), none, none, a3 (.iinc 6 1), none, none, a3 (.goto (-30)), none, none, a2 (.iload 5), none, a1 (.ireturn)]]
/-- 76: EnvyRust.findingOfFit -/
noncomputable def mk_76 : List (List (Option mEnt)) := [[a1 (.aload_n 0), a1 (.iload_n 1), a0 (.invokevirtual 212) 3 150 10 77 2 0, none, none, a2 (.istore 4), none, a2 (.iload 4), none, a3 (.ifCond .eq 6), none, none, a2 (.iload 4), none, a1 (.ireturn), a1 (.aload_n 0), a0 (.getfield 10) 3 49 0 3 0 0, none, none, a1 (.iload_n 2), a0 (.invokevirtual 90) 3 76 11 19 2 0, none, none, a3 (.ifCond .eq 18), none, none, a1 (.aload_n 0), a0 (.getfield 10) 3 49 0 3 0 0, none, none, a1 (.iload_n 3), a0 (.invokevirtual 68) 3 65 11 10 2 0],
  [none, none, a3 (.ifCond .eq 7), none, none, a1 (.iconst 0), a3 (.goto 5), none, none, a0 (.ldc 54) 2 60 2 0 0 (-1000001), none, a1 (.ireturn)]]
/-- 77: EnvyRust.findingOfSheet -/
noncomputable def mk_77 : List (List (Option mEnt)) := [[a1 (.iload_n 1), a0 (.invokestatic 252) 3 151 12 78 1 0, none, none, a3 (.ifCond .ne 6), none, none, a0 (.ldc 54) 2 60 2 0 0 (-1000001), none, a1 (.ireturn), a1 (.aload_n 0), a0 (.getfield 31) 3 53 0 3 4 0, none, none, a1 (.iload_n 1), a1 (.aaload), a0 (.invokevirtual 262) 3 152 11 79 1 0, none, none, a3 (.ifCond .eq 8), none, none, a0 (.ldc 247) 2 153 2 0 0 (-1000006), none, a3 (.goto 4), none, none, a1 (.iconst 0), a1 (.ireturn)]]
/-- 78: EnvyRust.isSheet -/
noncomputable def mk_78 : List (List (Option mEnt)) := [[a1 (.iload_n 0), a1 (.iconst 0), a1 (.iconst 3), a0 (.invokestatic 50) 3 59 12 6 3 0, none, none, a1 (.ireturn)]]
/-- 79: EnvyRust$Sheet.isMissing -/
noncomputable def mk_79 : List (List (Option mEnt)) := [[a1 (.aload_n 0), a0 (.getfield 15) 3 45 0 0 1 0, none, none, a3 (.ifCond .ne 7), none, none, a1 (.iconst 1), a3 (.goto 4), none, none, a1 (.iconst 0), a1 (.ireturn)]]
/-- 80: EnvyRust.fitsWith -/
noncomputable def mk_80 : List (List (Option mEnt)) := [[a1 (.aload_n 0), a0 (.invokevirtual 137) 3 107 10 42 1 0, none, none, a1 (.aload_n 0), a0 (.getfield 19) 3 51 0 3 2 0, none, none, a0 (.getfield 102) 3 12 1 2 1 0, none, none, a1 (.iconst 3), a1 (.aload_n 0), a0 (.getfield 19) 3 51 0 3 2 0, none, none, a0 (.getfield 75) 3 8 1 2 0 0, none, none, a1 (.iconst 0), a1 (.aaload), a1 (.iload_n 3), a1 (.iaload), a1 (.iadd), a1 (.aaload), a1 (.iload_n 2), a2 (.iload 4), none, a1 (.iastore), a1 (.iconst 0), a2 (.istore 5), none],
  [a2 (.iload 5), none, a1 (.aload_n 1), a0 (.getfield 215) 3 48 1 0 2 0, none, none, a3 (.if_icmp .ge 51), none, none, a1 (.aload_n 1), a0 (.getfield 218) 3 44 1 0 0 0, none, none, a2 (.iload 5), none, a1 (.iaload), a1 (.iconst (-1)), a3 (.if_icmp .eq 26), none, none, a1 (.aload_n 1), a0 (.getfield 218) 3 44 1 0 0 0, none, none, a2 (.iload 5), none, a1 (.iaload), a1 (.aload_n 0), a0 (.getfield 19) 3 51 0 3 2 0, none, none, a0 (.getfield 75) 3 8 1 2 0 0],
  [none, none, a1 (.iconst 2), a1 (.aaload), a1 (.iload_n 3), a1 (.iaload), a3 (.if_icmp .eq 5), none, none, a1 (.iconst 0), a1 (.ireturn), a1 (.aload_n 0), a0 (.getfield 19) 3 51 0 3 2 0, none, none, a1 (.iconst 1), a0 (.invokevirtual 115) 3 91 11 30 2 0, none, none, a3 (.iinc 5 1), none, none, a3 (.goto (-54)), none, none, a1 (.iconst 1), a1 (.ireturn)]]
/-- 81: EnvyRust.likes -/
noncomputable def mk_81 : List (List (Option mEnt)) := [[a1 (.aload_n 0), a1 (.iload_n 1), a1 (.iload_n 2), a1 (.iload_n 3), a0 (.invokevirtual 204) 3 149 10 76 4 0, none, none, a2 (.istore 4), none, a2 (.iload 4), none, a3 (.ifCond .eq 10), none, none, a1 (.aload_n 0), a2 (.iload 4), none, a0 (.invokevirtual 55) 3 61 10 7 2 0, none, none, a1 (.ireturn), a1 (.iconst 0), a2 (.istore 5), none, a2 (.iload 5), none, a2 (.bipush 9), none, a3 (.if_icmp .gt 29), none, none, a1 (.aload_n 0)],
  [a1 (.aload_n 0), a0 (.getfield 31) 3 53 0 3 4 0, none, none, a1 (.iload_n 1), a1 (.aaload), a1 (.iload_n 2), a1 (.iload_n 3), a2 (.iload 5), none, a0 (.invokevirtual 208) 3 154 10 80 5 0, none, none, a3 (.ifCond .eq 6), none, none, a2 (.iload 5), none, a1 (.ireturn), a3 (.iinc 5 1), none, none, a3 (.goto (-30)), none, none, a1 (.aload_n 0), a0 (.ldc 143) 2 112 2 0 0 (-1000004), none, a0 (.invokevirtual 55) 3 61 10 7 2 0, none, none, a1 (.ireturn)]]
/-- 82: EnvyRust.strolls -/
noncomputable def mk_82 : List (List (Option mEnt)) := [[a1 (.iload_n 1), a1 (.iconst 1), a2 (.bipush 20), none, a0 (.invokestatic 50) 3 59 12 6 3 0, none, none, a3 (.ifCond .ne 10), none, none, a1 (.aload_n 0), a0 (.ldc 54) 2 60 2 0 0 (-1000001), none, a0 (.invokevirtual 55) 3 61 10 7 2 0, none, none, a1 (.ireturn), a1 (.aload_n 0), a0 (.getfield 10) 3 49 0 3 0 0, none, none, a0 (.getfield 111) 3 22 1 2 5 0, none, none, a1 (.iload_n 1), a1 (.iadd), a0 (.ldc 114) 2 90 2 0 0 99999, none, a3 (.if_icmp .le 10), none, none, a1 (.aload_n 0)],
  [a0 (.ldc 89) 2 80 2 0 0 (-1000005), none, a0 (.invokevirtual 55) 3 61 10 7 2 0, none, none, a1 (.ireturn), a1 (.aload_n 0), a0 (.getfield 10) 3 49 0 3 0 0, none, none, a0 (.invokevirtual 128) 3 103 11 38 1 0, none, none, a1 (.istore_n 2), a1 (.iconst 0), a1 (.istore_n 3), a1 (.iload_n 3), a1 (.iload_n 1), a3 (.if_icmp .ge 24), none, none, a1 (.aload_n 0), a0 (.getfield 10) 3 49 0 3 0 0, none, none, a0 (.invokevirtual 221) 3 157 11 83 1 0, none, none, a1 (.aload_n 0), a0 (.getfield 10) 3 49 0 3 0 0, none, none],
  [a1 (.iconst 1), a0 (.invokevirtual 115) 3 91 11 30 2 0, none, none, a3 (.iinc 3 1), none, none, a3 (.goto (-23)), none, none, a1 (.iload_n 2), a1 (.aload_n 0), a0 (.getfield 10) 3 49 0 3 0 0, none, none, a0 (.invokevirtual 128) 3 103 11 38 1 0, none, none, a1 (.isub), a1 (.ireturn)]]
/-- 83: EnvyRust$Town.scatter -/
noncomputable def mk_83 : List (List (Option mEnt)) := [[a1 (.iconst 0), a1 (.istore_n 1), a1 (.iload_n 1), a1 (.aload_n 0), a0 (.getfield 27) 3 18 0 2 4 0, none, none, a3 (.if_icmp .ge 42), none, none, a1 (.aload_n 0), a1 (.aload_n 0), a0 (.getfield 33) 3 23 0 2 6 0, none, none, a0 (.ldc 93) 2 158 2 0 0 1103515245, none, a1 (.imul), a3 (.sipush 12345), none, none, a1 (.iadd), a0 (.putfield 33) 3 23 0 2 6 0, none, none, a1 (.aload_n 0), a0 (.getfield 16) 3 10 0 2 1 0, none, none, a1 (.iconst 1), a1 (.aaload), a1 (.iload_n 1)],
  [a1 (.aload_n 0), a0 (.getfield 33) 3 23 0 2 6 0, none, none, a2 (.bipush 8), none, a1 (.iushr), a2 (.bipush 16), none, a1 (.irem), a1 (.iastore), a3 (.iinc 1 1), none, none, a3 (.goto (-44)), none, none, a1 (.return_)]]
/-- 84: EnvyRust.odds -/
noncomputable def mk_84 : List (List (Option mEnt)) := [[a1 (.iload_n 1), a1 (.iconst 0), a2 (.bipush 14), none, a0 (.invokestatic 50) 3 59 12 6 3 0, none, none, a3 (.ifCond .eq 12), none, none, a1 (.iload_n 2), a1 (.iconst 0), a1 (.iconst 1), a0 (.invokestatic 50) 3 59 12 6 3 0, none, none, a3 (.ifCond .ne 11), none, none, a1 (.aload_n 0), a0 (.ldc 54) 2 60 2 0 0 (-1000001), none, a0 (.invokevirtual 55) 3 61 10 7 2 0, none, none, a1 (.i2l), a1 (.lreturn), a2 (.bipush 16), none, a1 (.aload_n 0), a0 (.getfield 10) 3 49 0 3 0 0, none],
  [none, a0 (.invokevirtual 224) 3 160 11 85 1 0, none, none, a0 (.invokestatic 123) 3 98 12 36 1 0, none, none, a1 (.isub), a1 (.istore_n 3), a2 (.bipush 16), none, a2 (.istore 4), none, a2 (.iload 4), none, a1 (.iconst 1), a3 (.if_icmp .le 22), none, none, a1 (.iload_n 3), a1 (.iconst 2), a1 (.irem), a3 (.ifCond .ne 16), none, none, a1 (.iload_n 3), a1 (.iconst 2), a1 (.idiv), a1 (.istore_n 3), a2 (.iload 4), none, a1 (.iconst 2)],
  [a1 (.idiv), a2 (.istore 4), none, a3 (.goto (-22)), none, none, a1 (.lconst 1), a2 (.lstore 5), none, a1 (.iconst 0), a2 (.istore 7), none, a2 (.iload 7), none, a1 (.iload_n 1), a3 (.if_icmp .ge 26), none, none, a2 (.lload 5), none, a1 (.iload_n 2), a3 (.ifCond .ne 8), none, none, a1 (.iload_n 3), a1 (.i2l), a3 (.goto 6), none, none, a2 (.iload 4), none, a1 (.i2l)],
  [a1 (.lmul), a2 (.lstore 5), none, a3 (.iinc 7 1), none, none, a3 (.goto (-26)), none, none, a2 (.lload 5), none, a1 (.lreturn)]]
/-- 85: EnvyRust$Town.placesOfThings -/
noncomputable def mk_85 : List (List (Option mEnt)) := [[a1 (.iconst 0), a1 (.istore_n 1), a1 (.iconst 0), a1 (.istore_n 2), a1 (.iload_n 2), a1 (.aload_n 0), a0 (.getfield 23) 3 15 0 2 3 0, none, none, a3 (.if_icmp .ge 22), none, none, a1 (.iload_n 1), a1 (.iconst 1), a1 (.aload_n 0), a0 (.getfield 13) 3 7 0 2 0 0, none, none, a1 (.iconst 1), a1 (.aaload), a1 (.iload_n 2), a1 (.iaload), a1 (.ishl), a1 (.ior), a1 (.istore_n 1), a3 (.iinc 2 1), none, none, a3 (.goto (-24)), none, none, a1 (.iload_n 1)],
  [a1 (.ireturn)]]
/-- 86: EnvyRust.seed -/
noncomputable def mk_86 : List (List (Option mEnt)) := [[a1 (.aload_n 0), a0 (.getfield 10) 3 49 0 3 0 0, none, none, a0 (.getfield 227) 3 24 1 2 6 0, none, none, a1 (.istore_n 2), a1 (.aload_n 0), a0 (.getfield 10) 3 49 0 3 0 0, none, none, a1 (.iload_n 1), a0 (.putfield 227) 3 24 1 2 6 0, none, none, a1 (.iload_n 2), a1 (.ireturn)]]
/-- 87: EnvyRust.feed -/
noncomputable def mk_87 : List (List (Option mEnt)) := [[a1 (.iload_n 2), a1 (.iconst 1), a1 (.iconst 4), a0 (.invokestatic 50) 3 59 12 6 3 0, none, none, a3 (.ifCond .ne 10), none, none, a1 (.aload_n 0), a0 (.ldc 54) 2 60 2 0 0 (-1000001), none, a0 (.invokevirtual 55) 3 61 10 7 2 0, none, none, a1 (.ireturn), a1 (.aload_n 0), a0 (.getfield 25) 3 52 0 3 3 0, none, none, a0 (.getfield 230) 3 32 1 1 1 0, none, none, a1 (.iload_n 2), a1 (.iadd), a2 (.bipush 120), none, a3 (.if_icmp .le 10), none, none, a1 (.aload_n 0), a0 (.ldc 63) 2 62 2 0 0 (-1000002)],
  [none, a0 (.invokevirtual 55) 3 61 10 7 2 0, none, none, a1 (.ireturn), a1 (.iload_n 2), a1 (.iconst 1), a1 (.isub), a1 (.istore_n 3), a1 (.iload_n 3), a3 (.ifCond .lt 23), none, none, a1 (.aload_n 0), a0 (.getfield 25) 3 52 0 3 3 0, none, none, a1 (.iload_n 1), a2 (.bipush 8), none, a1 (.iload_n 3), a1 (.imul), a1 (.ishr), a1 (.i2b), a0 (.invokevirtual 233) 3 163 11 88 2 0, none, none, a3 (.iinc 3 (-1)), none, none, a3 (.goto (-21)), none],
  [none, a1 (.aload_n 0), a0 (.getfield 25) 3 52 0 3 3 0, none, none, a0 (.getfield 230) 3 32 1 1 1 0, none, none, a1 (.ireturn)]]
/-- 88: EnvyRust$TextReader.put -/
noncomputable def mk_88 : List (List (Option mEnt)) := [[a1 (.aload_n 0), a0 (.getfield 9) 3 30 0 1 0 0, none, none, a1 (.aload_n 0), a0 (.getfield 15) 3 31 0 1 1 0, none, none, a1 (.iload_n 1), a1 (.bastore), a1 (.aload_n 0), a1 (.dup), a0 (.getfield 15) 3 31 0 1 1 0, none, none, a1 (.iconst 1), a1 (.iadd), a0 (.putfield 15) 3 31 0 1 1 0, none, none, a1 (.return_)]]
/-- 89: EnvyRust.wipe -/
noncomputable def mk_89 : List (List (Option mEnt)) := [[a1 (.aload_n 0), a0 (.getfield 25) 3 52 0 3 3 0, none, none, a0 (.getfield 230) 3 32 1 1 1 0, none, none, a1 (.istore_n 1), a1 (.aload_n 0), a0 (.getfield 25) 3 52 0 3 3 0, none, none, a1 (.iconst 0), a0 (.putfield 230) 3 32 1 1 1 0, none, none, a1 (.iload_n 1), a1 (.ireturn)]]
/-- 90: EnvyRust.text -/
noncomputable def mk_90 : List (List (Option mEnt)) := [[a1 (.aload_n 0), a0 (.getfield 10) 3 49 0 3 0 0, none, none, a0 (.getfield 59) 3 16 1 2 3 0, none, none, a1 (.istore_n 1), a1 (.aload_n 0), a0 (.getfield 10) 3 49 0 3 0 0, none, none, a0 (.getfield 93) 3 20 1 2 4 0, none, none, a1 (.istore_n 2), a1 (.aload_n 0), a0 (.getfield 25) 3 52 0 3 3 0, none, none, a1 (.aload_n 0), a0 (.getfield 10) 3 49 0 3 0 0, none, none, a0 (.invokevirtual 237) 3 166 11 91 2 0, none, none, a1 (.istore_n 3), a1 (.aload_n 0), a0 (.getfield 25) 3 52 0 3 3 0, none, none],
  [a0 (.getfield 241) 3 38 1 1 6 0, none, none, a1 (.iconst (-1)), a3 (.if_icmp .eq 19), none, none, a1 (.aload_n 0), a0 (.getfield 10) 3 49 0 3 0 0, none, none, a1 (.iload_n 1), a0 (.putfield 59) 3 16 1 2 3 0, none, none, a1 (.aload_n 0), a0 (.getfield 10) 3 49 0 3 0 0, none, none, a1 (.iload_n 2), a0 (.putfield 93) 3 20 1 2 4 0, none, none, a1 (.aload_n 0), a0 (.getfield 25) 3 52 0 3 3 0, none, none, a1 (.iconst 0), a0 (.putfield 230) 3 32 1 1 1 0, none, none, a1 (.aload_n 0)],
  [a0 (.getfield 25) 3 52 0 3 3 0, none, none, a0 (.getfield 241) 3 38 1 1 6 0, none, none, a1 (.iconst (-1)), a3 (.if_icmp .ne 7), none, none, a1 (.iload_n 3), a3 (.goto 12), none, none, a1 (.iconst (-1)), a1 (.aload_n 0), a0 (.getfield 25) 3 52 0 3 3 0, none, none, a0 (.getfield 241) 3 38 1 1 6 0, none, none, a1 (.isub), a1 (.ireturn)]]
/-- 91: EnvyRust$TextReader.readInto -/
noncomputable def mk_91 : List (List (Option mEnt)) := [[a1 (.aload_n 0), a1 (.iconst (-1)), a0 (.putfield 31) 3 37 0 1 6 0, none, none, a1 (.aload_n 0), a1 (.iconst 0), a0 (.putfield 25) 3 35 0 1 4 0, none, none, a1 (.aload_n 0), a0 (.invokevirtual 34) 3 167 10 92 1 0, none, none, a1 (.iconst 0), a1 (.istore_n 2), a1 (.iconst 1), a1 (.istore_n 3), a1 (.iload_n 3), a3 (.ifCond .eq 106), none, none, a1 (.iload_n 2), a2 (.bipush 120), none, a3 (.if_icmp .gt 100), none, none, a1 (.aload_n 0), a0 (.invokevirtual 37) 3 171 10 95 1 0, none, none],
  [a2 (.istore 4), none, a2 (.iload 4), none, a1 (.iconst (-1)), a3 (.if_icmp .eq 22), none, none, a1 (.aload_n 1), a0 (.getfield 41) 3 19 1 2 4 0, none, none, a2 (.bipush 8), none, a3 (.if_icmp .ge 13), none, none, a1 (.aload_n 0), a1 (.aload_n 1), a2 (.iload 4), none, a0 (.invokevirtual 46) 3 183 10 109 3 0, none, none, a3 (.goto 33), none, none, a1 (.aload_n 0), a0 (.ldc 50) 2 191 3 0 0 0, none, a0 (.invokevirtual 52) 3 180 10 97 2 0, none],
  [none, a3 (.ifCond .eq 20), none, none, a1 (.aload_n 1), a0 (.getfield 56) 3 17 1 2 3 0, none, none, a2 (.bipush 8), none, a3 (.if_icmp .ge 11), none, none, a1 (.aload_n 0), a1 (.aload_n 1), a0 (.invokevirtual 59) 3 192 10 113 2 0, none, none, a3 (.goto 7), none, none, a1 (.aload_n 0), a0 (.invokevirtual 63) 3 187 10 112 1 0, none, none, a3 (.iinc 2 1), none, none, a1 (.aload_n 0), a0 (.getfield 31) 3 37 0 1 6 0, none, none],
  [a1 (.iconst (-1)), a3 (.if_icmp .ne 15), none, none, a1 (.aload_n 0), a0 (.getfield 19) 3 33 0 1 2 0, none, none, a1 (.iconst 3), a3 (.if_icmp .ne 7), none, none, a1 (.iconst 1), a3 (.goto 4), none, none, a1 (.iconst 0), a1 (.istore_n 3), a1 (.iload_n 3), a3 (.ifCond .eq 7), none, none, a1 (.aload_n 0), a0 (.invokevirtual 34) 3 167 10 92 1 0, none, none, a3 (.goto (-104)), none, none, a1 (.aload_n 0), a0 (.getfield 19) 3 33 0 1 2 0, none],
  [none, a3 (.ifCond .eq 7), none, none, a1 (.aload_n 0), a0 (.invokevirtual 63) 3 187 10 112 1 0, none, none, a1 (.iload_n 2), a1 (.ireturn)]]
/-- 92: EnvyRust$TextReader.advance -/
noncomputable def mk_92_0 : List (List (Option mEnt)) := [[a1 (.aload_n 0), a1 (.aload_n 0), a0 (.getfield 25) 3 35 0 1 4 0, none, none, a0 (.putfield 22) 3 34 0 1 3 0, none, none, a1 (.aload_n 0), a0 (.getfield 22) 3 34 0 1 3 0, none, none, a1 (.aload_n 0), a0 (.getfield 15) 3 31 0 1 1 0, none, none, a3 (.if_icmp .ge 30), none, none, a1 (.aload_n 0), a0 (.getfield 9) 3 30 0 1 0 0, none, none, a1 (.aload_n 0), a0 (.getfield 22) 3 34 0 1 3 0, none, none, a1 (.baload), a2 (.bipush 32), none, a3 (.if_icmp .ne 16), none],
  [none, a1 (.aload_n 0), a1 (.dup), a0 (.getfield 22) 3 34 0 1 3 0, none, none, a1 (.iconst 1), a1 (.iadd), a0 (.putfield 22) 3 34 0 1 3 0, none, none, a3 (.goto (-35)), none, none, a1 (.aload_n 0), a1 (.aload_n 0), a0 (.getfield 22) 3 34 0 1 3 0, none, none, a0 (.putfield 25) 3 35 0 1 4 0, none, none, a1 (.aload_n 0), a0 (.getfield 22) 3 34 0 1 3 0, none, none, a1 (.aload_n 0), a0 (.getfield 15) 3 31 0 1 1 0, none, none, a3 (.if_icmp .lt 11), none],
  [none, a1 (.aload_n 0), a1 (.iconst 0), a0 (.putfield 19) 3 33 0 1 2 0, none, none, a3 (.goto 189), none, none, a1 (.aload_n 0), a0 (.getfield 9) 3 30 0 1 0 0, none, none, a1 (.aload_n 0), a0 (.getfield 25) 3 35 0 1 4 0, none, none, a1 (.baload), a0 (.invokestatic 129) 3 168 12 93 1 0, none, none, a3 (.ifCond .eq 47), none, none, a1 (.aload_n 0), a1 (.iconst 1), a0 (.putfield 19) 3 33 0 1 2 0, none, none, a1 (.aload_n 0), a0 (.getfield 25) 3 35 0 1 4 0, none],
  [none, a1 (.aload_n 0), a0 (.getfield 15) 3 31 0 1 1 0, none, none, a3 (.if_icmp .ge 158), none, none, a1 (.aload_n 0), a0 (.getfield 9) 3 30 0 1 0 0, none, none, a1 (.aload_n 0), a0 (.getfield 25) 3 35 0 1 4 0, none, none, a1 (.baload), a0 (.invokestatic 129) 3 168 12 93 1 0, none, none, a3 (.ifCond .eq 143), none, none, a1 (.aload_n 0), a1 (.dup), a0 (.getfield 25) 3 35 0 1 4 0, none, none, a1 (.iconst 1), a1 (.iadd), a0 (.putfield 25) 3 35 0 1 4 0, none],
  [none, a3 (.goto (-36)), none, none, a1 (.aload_n 0), a0 (.getfield 9) 3 30 0 1 0 0, none, none, a1 (.aload_n 0), a0 (.getfield 25) 3 35 0 1 4 0, none, none, a1 (.baload), a0 (.invokestatic 133) 3 169 12 94 1 0, none, none, a3 (.ifCond .eq 82), none, none, a1 (.aload_n 0), a1 (.iconst 2), a0 (.putfield 19) 3 33 0 1 2 0, none, none, a1 (.aload_n 0), a1 (.iconst 0), a0 (.putfield 28) 3 36 0 1 5 0, none, none, a1 (.aload_n 0), a0 (.getfield 25) 3 35 0 1 4 0, none],
  [none, a1 (.aload_n 0), a0 (.getfield 15) 3 31 0 1 1 0, none, none, a3 (.if_icmp .ge 94), none, none, a1 (.aload_n 0), a0 (.getfield 9) 3 30 0 1 0 0, none, none, a1 (.aload_n 0), a0 (.getfield 25) 3 35 0 1 4 0, none, none, a1 (.baload), a0 (.invokestatic 133) 3 169 12 94 1 0, none, none, a3 (.ifCond .eq 79), none, none, a1 (.aload_n 0), a3 (.sipush 1000), none, none, a1 (.aload_n 0), a0 (.getfield 28) 3 36 0 1 5 0, none, none, a2 (.bipush 10)],
  [none, a1 (.imul), a1 (.aload_n 0), a0 (.getfield 9) 3 30 0 1 0 0, none, none, a1 (.aload_n 0), a0 (.getfield 25) 3 35 0 1 4 0, none, none, a1 (.baload), a1 (.iadd), a2 (.bipush 48), none, a1 (.isub), a0 (.invokestatic 136) 3 170 25 0 0 0, none, none, a0 (.putfield 28) 3 36 0 1 5 0, none, none, a1 (.aload_n 0), a1 (.dup), a0 (.getfield 25) 3 35 0 1 4 0, none, none, a1 (.iconst 1), a1 (.iadd), a0 (.putfield 25) 3 35 0 1 4 0, none, none, a3 (.goto (-66))],
  [none, none, a1 (.aload_n 0), a1 (.aload_n 0), a0 (.getfield 9) 3 30 0 1 0 0, none, none, a1 (.aload_n 0), a0 (.getfield 22) 3 34 0 1 3 0, none, none, a1 (.baload), a2 (.bipush 59), none, a3 (.if_icmp .ne 7), none, none, a1 (.iconst 3), a3 (.goto 4), none, none, a1 (.iconst 4), a0 (.putfield 19) 3 33 0 1 2 0, none, none, a1 (.aload_n 0), a1 (.dup), a0 (.getfield 25) 3 35 0 1 4 0, none, none, a1 (.iconst 1), a1 (.iadd)]]
noncomputable def mk_92_1 : List (List (Option mEnt)) := [[a0 (.putfield 25) 3 35 0 1 4 0, none, none, a1 (.return_)]]
noncomputable def mk_92 : List (List (Option mEnt)) := mk_92_0 ++ (mk_92_1)
/-- 93: EnvyRust$TextReader.isLetter -/
noncomputable def mk_93 : List (List (Option mEnt)) := [[a1 (.iload_n 0), a2 (.bipush 97), none, a3 (.if_icmp .lt 13), none, none, a1 (.iload_n 0), a2 (.bipush 122), none, a3 (.if_icmp .gt 7), none, none, a1 (.iconst 1), a3 (.goto 4), none, none, a1 (.iconst 0), a1 (.ireturn)]]
/-- 94: EnvyRust$TextReader.isDigit -/
noncomputable def mk_94 : List (List (Option mEnt)) := [[a1 (.iload_n 0), a2 (.bipush 48), none, a3 (.if_icmp .lt 13), none, none, a1 (.iload_n 0), a2 (.bipush 57), none, a3 (.if_icmp .gt 7), none, none, a1 (.iconst 1), a3 (.goto 4), none, none, a1 (.iconst 0), a1 (.ireturn)]]
/-- 95: EnvyRust$TextReader.kindTold -/
noncomputable def mk_95 : List (List (Option mEnt)) := [[a1 (.iconst 0), a1 (.istore_n 1), a1 (.iload_n 1), a2 (.bipush 7), none, a3 (.if_icmp .ge 22), none, none, a1 (.aload_n 0), a1 (.iload_n 1), a0 (.invokestatic 102) 3 172 12 96 1 0, none, none, a0 (.invokevirtual 52) 3 180 10 97 2 0, none, none, a3 (.ifCond .eq 5), none, none, a1 (.iload_n 1), a1 (.ireturn), a3 (.iinc 1 1), none, none, a3 (.goto (-22)), none, none, a1 (.iconst (-1)), a1 (.ireturn)]]
/-- 96: EnvyRust$TextReader.wordOfKind -/
noncomputable def mk_96 : List (List (Option mEnt)) := [[a1 (.iload_n 0), a0 (.tableswitch 57 1 6 #[39, 42, 45, 48, 51, 54]) 39 0 0 0 0 0, none, none, none, none, none, none, none, none, none, none, none, none, none, none, none, none, none, none, none, none, none, none, none, none, none, none, none, none, none, none],
  [none, none, none, none, none, none, none, none, a0 (.ldc 106) 2 173 3 0 1 0, none, a1 (.areturn), a0 (.ldc 108) 2 174 3 0 2 0, none, a1 (.areturn), a0 (.ldc 110) 2 175 3 0 3 0, none, a1 (.areturn), a0 (.ldc 112) 2 176 3 0 4 0, none, a1 (.areturn), a0 (.ldc 114) 2 177 3 0 5 0, none, a1 (.areturn), a0 (.ldc 116) 2 178 3 0 6 0, none, a1 (.areturn), a0 (.ldc 118) 2 179 3 0 7 0, none, a1 (.areturn)]]
/-- 97: EnvyRust$TextReader.isWord -/
noncomputable def mk_97 : List (List (Option mEnt)) := [[a1 (.aload_n 0), a0 (.getfield 19) 3 33 0 1 2 0, none, none, a1 (.iconst 1), a3 (.if_icmp .ne 19), none, none, a1 (.aload_n 0), a0 (.getfield 25) 3 35 0 1 4 0, none, none, a1 (.aload_n 0), a0 (.getfield 22) 3 34 0 1 3 0, none, none, a1 (.isub), a1 (.aload_n 1), a0 (.invokevirtual 120) 3 181 22 0 0 0, none, none, a3 (.if_icmp .eq 5), none, none, a1 (.iconst 0), a1 (.ireturn), a1 (.iconst 0), a1 (.istore_n 2), a1 (.iload_n 2), a1 (.aload_n 1), a0 (.invokevirtual 120) 3 181 22 0 0 0, none],
  [none, a3 (.if_icmp .ge 30), none, none, a1 (.aload_n 0), a0 (.getfield 9) 3 30 0 1 0 0, none, none, a1 (.aload_n 0), a0 (.getfield 22) 3 34 0 1 3 0, none, none, a1 (.iload_n 2), a1 (.iadd), a1 (.baload), a1 (.aload_n 1), a1 (.iload_n 2), a0 (.invokevirtual 125) 3 182 23 0 0 0, none, none, a3 (.if_icmp .eq 5), none, none, a1 (.iconst 0), a1 (.ireturn), a3 (.iinc 2 1), none, none, a3 (.goto (-32)), none, none, a1 (.iconst 1)],
  [a1 (.ireturn)]]
/-- 98: java/lang/String.length -/
noncomputable def mk_98 : List (List (Option mEnt)) := []
/-- 99: java/lang/String.coder -/
noncomputable def mk_99 : List (List (Option mEnt)) := []
/-- 100: java/lang/String.charAt -/
noncomputable def mk_100 : List (List (Option mEnt)) := []
/-- 101: java/lang/String.isLatin1 -/
noncomputable def mk_101 : List (List (Option mEnt)) := []
/-- 102: java/lang/StringLatin1.charAt -/
noncomputable def mk_102 : List (List (Option mEnt)) := []
/-- 103: java/lang/String.checkIndex -/
noncomputable def mk_103 : List (List (Option mEnt)) := []
/-- 104: jdk/internal/util/Preconditions.checkIndex -/
noncomputable def mk_104 : List (List (Option mEnt)) := []
/-- 105: java/lang/StringUTF16.charAt -/
noncomputable def mk_105 : List (List (Option mEnt)) := []
/-- 106: java/lang/StringUTF16.checkIndex -/
noncomputable def mk_106 : List (List (Option mEnt)) := []
/-- 107: java/lang/StringUTF16.length -/
noncomputable def mk_107 : List (List (Option mEnt)) := []
/-- 108: java/lang/StringUTF16.getChar -/
noncomputable def mk_108 : List (List (Option mEnt)) := []
/-- 109: EnvyRust$TextReader.readPerson -/
noncomputable def mk_109 : List (List (Option mEnt)) := [[a1 (.aload_n 0), a0 (.invokevirtual 34) 3 167 10 92 1 0, none, none, a1 (.aload_n 0), a0 (.ldc 66) 2 184 3 0 8 0, none, a2 (.bipush 15), none, a1 (.iconst 0), a0 (.invokevirtual 68) 3 185 10 110 4 0, none, none, a1 (.istore_n 3), a1 (.aload_n 0), a0 (.ldc 72) 2 188 3 0 9 0, none, a2 (.bipush 15), none, a1 (.iconst 1), a0 (.invokevirtual 68) 3 185 10 110 4 0, none, none, a2 (.istore 4), none, a1 (.aload_n 1), a1 (.iload_n 2), a1 (.iload_n 3), a0 (.invokevirtual 74) 3 189 11 23 3 0, none, none, a2 (.istore 5)],
  [none, a1 (.aload_n 1), a0 (.getfield 78) 3 11 1 2 1 0, none, none, a1 (.iconst 2), a1 (.aaload), a2 (.iload 5), none, a2 (.iload 4), none, a1 (.iastore), a1 (.aload_n 0), a0 (.getfield 31) 3 37 0 1 6 0, none, none, a1 (.iconst (-1)), a3 (.if_icmp .ne 49), none, none, a1 (.aload_n 0), a0 (.ldc 82) 2 190 3 0 10 0, none, a0 (.invokevirtual 52) 3 180 10 97 2 0, none, none, a3 (.ifCond .eq 40), none, none, a1 (.aload_n 0), a0 (.invokevirtual 34) 3 167 10 92 1 0, none],
  [none, a1 (.iconst 0), a2 (.istore 6), none, a2 (.iload 6), none, a1 (.iconst 4), a3 (.if_icmp .ge 27), none, none, a1 (.aload_n 1), a0 (.getfield 78) 3 11 1 2 1 0, none, none, a1 (.iconst 3), a2 (.iload 6), none, a1 (.iadd), a1 (.aaload), a2 (.iload 5), none, a1 (.aload_n 0), a2 (.bipush 9), none, a0 (.invokevirtual 84) 3 186 10 111 2 0, none, none, a1 (.iastore), a3 (.iinc 6 1), none, none, a3 (.goto (-27))],
  [none, none, a1 (.return_)]]
/-- 110: EnvyRust$TextReader.readPerhaps -/
noncomputable def mk_110 : List (List (Option mEnt)) := [[a1 (.aload_n 0), a0 (.getfield 31) 3 37 0 1 6 0, none, none, a1 (.iconst (-1)), a3 (.if_icmp .ne 11), none, none, a1 (.aload_n 0), a1 (.aload_n 1), a0 (.invokevirtual 52) 3 180 10 97 2 0, none, none, a3 (.ifCond .ne 5), none, none, a1 (.iload_n 3), a1 (.ireturn), a1 (.aload_n 0), a0 (.invokevirtual 34) 3 167 10 92 1 0, none, none, a1 (.aload_n 0), a1 (.iload_n 2), a0 (.invokevirtual 84) 3 186 10 111 2 0, none, none, a1 (.ireturn)]]
/-- 111: EnvyRust$TextReader.readNumber -/
noncomputable def mk_111 : List (List (Option mEnt)) := [[a1 (.aload_n 0), a0 (.getfield 19) 3 33 0 1 2 0, none, none, a1 (.iconst 2), a3 (.if_icmp .ne 11), none, none, a1 (.aload_n 0), a0 (.getfield 28) 3 36 0 1 5 0, none, none, a1 (.iload_n 1), a3 (.if_icmp .le 7), none, none, a1 (.aload_n 0), a0 (.invokevirtual 63) 3 187 10 112 1 0, none, none, a1 (.aload_n 0), a0 (.getfield 31) 3 37 0 1 6 0, none, none, a1 (.iconst (-1)), a3 (.if_icmp .eq 5), none, none, a1 (.iconst 0), a1 (.ireturn), a1 (.aload_n 0), a0 (.getfield 28) 3 36 0 1 5 0],
  [none, none, a1 (.istore_n 2), a1 (.aload_n 0), a0 (.invokevirtual 34) 3 167 10 92 1 0, none, none, a1 (.iload_n 2), a1 (.ireturn)]]
/-- 112: EnvyRust$TextReader.fail -/
noncomputable def mk_112 : List (List (Option mEnt)) := [[a1 (.aload_n 0), a0 (.getfield 31) 3 37 0 1 6 0, none, none, a1 (.iconst (-1)), a3 (.if_icmp .ne 11), none, none, a1 (.aload_n 0), a1 (.aload_n 0), a0 (.getfield 22) 3 34 0 1 3 0, none, none, a0 (.putfield 31) 3 37 0 1 6 0, none, none, a1 (.return_)]]
/-- 113: EnvyRust$TextReader.readThing -/
noncomputable def mk_113 : List (List (Option mEnt)) := [[a1 (.aload_n 0), a0 (.invokevirtual 34) 3 167 10 92 1 0, none, none, a1 (.aload_n 0), a1 (.iconst 3), a0 (.invokevirtual 84) 3 186 10 111 2 0, none, none, a1 (.istore_n 2), a1 (.aload_n 0), a0 (.ldc 66) 2 184 3 0 8 0, none, a2 (.bipush 15), none, a1 (.iconst 0), a0 (.invokevirtual 68) 3 185 10 110 4 0, none, none, a1 (.istore_n 3), a1 (.aload_n 0), a0 (.ldc 88) 2 193 3 0 11 0, none, a3 (.sipush 999), none, none, a2 (.bipush 100), none, a0 (.invokevirtual 68) 3 185 10 110 4 0, none, none, a2 (.istore 4)],
  [none, a1 (.aload_n 0), a0 (.ldc 90) 2 194 3 0 12 0, none, a2 (.bipush 9), none, a1 (.iconst 0), a0 (.invokevirtual 68) 3 185 10 110 4 0, none, none, a2 (.istore 5), none, a1 (.aload_n 0), a0 (.ldc 92) 2 195 3 0 13 0, none, a1 (.aload_n 1), a0 (.getfield 41) 3 19 1 2 4 0, none, none, a1 (.iconst 1), a1 (.isub), a1 (.iconst (-1)), a0 (.invokevirtual 68) 3 185 10 110 4 0, none, none, a2 (.istore 6), none, a1 (.aload_n 0), a0 (.ldc 94) 2 196 3 0 14 0, none, a1 (.aload_n 1), a0 (.getfield 56) 3 17 1 2 3 0],
  [none, none, a1 (.iconst 1), a1 (.isub), a1 (.iconst (-1)), a0 (.invokevirtual 68) 3 185 10 110 4 0, none, none, a2 (.istore 7), none, a1 (.aload_n 1), a1 (.iload_n 2), a1 (.iload_n 3), a0 (.invokevirtual 96) 3 197 11 8 3 0, none, none, a2 (.istore 8), none, a1 (.aload_n 1), a0 (.getfield 99) 3 9 1 2 0 0, none, none, a1 (.iconst 2), a1 (.aaload), a2 (.iload 8), none, a2 (.iload 4), none, a1 (.iastore), a1 (.aload_n 1), a0 (.getfield 99) 3 9 1 2 0 0, none],
  [none, a1 (.iconst 3), a1 (.aaload), a2 (.iload 8), none, a2 (.iload 5), none, a1 (.iastore), a1 (.aload_n 1), a0 (.getfield 99) 3 9 1 2 0 0, none, none, a1 (.iconst 4), a1 (.aaload), a2 (.iload 8), none, a2 (.iload 6), none, a1 (.iastore), a1 (.aload_n 1), a0 (.getfield 99) 3 9 1 2 0 0, none, none, a1 (.iconst 5), a1 (.aaload), a2 (.iload 8), none, a2 (.iload 7), none, a1 (.iastore), a1 (.return_)]]
/-- 114: EnvyRust.hold -/
noncomputable def mk_114 : List (List (Option mEnt)) := [[a1 (.iload_n 1), a1 (.iconst 0), a2 (.bipush 9), none, a0 (.invokestatic 50) 3 59 12 6 3 0, none, none, a3 (.ifCond .eq 19), none, none, a1 (.iload_n 2), a1 (.iconst (-1)), a3 (.if_icmp .eq 21), none, none, a1 (.aload_n 0), a0 (.getfield 10) 3 49 0 3 0 0, none, none, a1 (.iload_n 2), a0 (.invokevirtual 90) 3 76 11 19 2 0, none, none, a3 (.ifCond .ne 10), none, none, a1 (.aload_n 0), a0 (.ldc 54) 2 60 2 0 0 (-1000001), none, a0 (.invokevirtual 55) 3 61 10 7 2 0, none, none],
  [a1 (.ireturn), a1 (.aload_n 0), a0 (.getfield 10) 3 49 0 3 0 0, none, none, a0 (.getfield 244) 3 14 1 2 2 0, none, none, a1 (.iload_n 1), a1 (.iload_n 2), a1 (.iastore), a1 (.iconst 1), a1 (.ireturn)]]
/-- 115: EnvyRust.as -/
noncomputable def mk_115 : List (List (Option mEnt)) := [[a1 (.iload_n 1), a1 (.iconst 0), a2 (.bipush 9), none, a0 (.invokestatic 50) 3 59 12 6 3 0, none, none, a3 (.ifCond .eq 13), none, none, a1 (.iload_n 2), a1 (.iconst 0), a2 (.bipush 6), none, a0 (.invokestatic 50) 3 59 12 6 3 0, none, none, a3 (.ifCond .ne 10), none, none, a1 (.aload_n 0), a0 (.ldc 54) 2 60 2 0 0 (-1000001), none, a0 (.invokevirtual 55) 3 61 10 7 2 0, none, none, a1 (.ireturn), a1 (.aload_n 0), a0 (.getfield 10) 3 49 0 3 0 0, none, none, a0 (.getfield 244) 3 14 1 2 2 0],
  [none, none, a1 (.iload_n 1), a1 (.iaload), a1 (.istore_n 3), a1 (.iload_n 3), a1 (.iconst (-1)), a3 (.if_icmp .ne 10), none, none, a1 (.aload_n 0), a0 (.ldc 247) 2 153 2 0 0 (-1000006), none, a0 (.invokevirtual 55) 3 61 10 7 2 0, none, none, a1 (.ireturn), a1 (.aload_n 0), a0 (.getfield 10) 3 49 0 3 0 0, none, none, a0 (.getfield 102) 3 12 1 2 1 0, none, none, a1 (.iconst 0), a1 (.aaload), a1 (.iload_n 3), a1 (.iaload), a1 (.iload_n 2), a0 (.invokestatic 248) 3 200 12 14 2 0, none, none],
  [a3 (.ifCond .eq 7), none, none, a1 (.iload_n 3), a3 (.goto 9), none, none, a1 (.aload_n 0), a0 (.ldc 251) 2 201 2 0 0 (-1000003), none, a0 (.invokevirtual 55) 3 61 10 7 2 0, none, none, a1 (.ireturn)]]
/-- 116: EnvyRust.sheet -/
noncomputable def mk_116 : List (List (Option mEnt)) := [[a1 (.iload_n 1), a0 (.invokestatic 252) 3 151 12 78 1 0, none, none, a3 (.ifCond .eq 25), none, none, a1 (.iload_n 2), a3 (.ifCond .eq 28), none, none, a1 (.iload_n 2), a2 (.bipush 8), none, a3 (.if_icmp .eq 22), none, none, a1 (.iload_n 2), a2 (.bipush 16), none, a3 (.if_icmp .eq 16), none, none, a1 (.iload_n 2), a2 (.bipush 32), none, a3 (.if_icmp .eq 10), none, none, a1 (.aload_n 0), a0 (.ldc 54) 2 60 2 0 0 (-1000001), none],
  [a0 (.invokevirtual 55) 3 61 10 7 2 0, none, none, a1 (.ireturn), a1 (.iload_n 3), a3 (.ifCond .ge 10), none, none, a1 (.aload_n 0), a0 (.ldc 255) 2 203 2 0 0 (-1000007), none, a0 (.invokevirtual 55) 3 61 10 7 2 0, none, none, a1 (.ireturn), a1 (.iload_n 3), a2 (.bipush 40), none, a3 (.if_icmp .le 10), none, none, a1 (.aload_n 0), a0 (.ldc 54) 2 60 2 0 0 (-1000001), none, a0 (.invokevirtual 55) 3 61 10 7 2 0, none, none, a1 (.ireturn), a1 (.aload_n 0), a0 (.getfield 31) 3 53 0 3 4 0, none, none],
  [a1 (.iload_n 1), a1 (.aaload), a1 (.iload_n 2), a1 (.iload_n 3), a0 (.invokevirtual 256) 3 204 11 117 3 0, none, none, a1 (.aload_n 0), a0 (.getfield 31) 3 53 0 3 4 0, none, none, a1 (.iload_n 1), a1 (.aaload), a0 (.getfield 215) 3 48 1 0 2 0, none, none, a1 (.ireturn)]]
/-- 117: EnvyRust$Sheet.lay -/
noncomputable def mk_117 : List (List (Option mEnt)) := [[a1 (.aload_n 0), a1 (.iload_n 1), a0 (.putfield 15) 3 45 0 0 1 0, none, none, a1 (.aload_n 0), a1 (.iload_n 1), a3 (.ifCond .ne 7), none, none, a1 (.iconst 0), a3 (.goto 4), none, none, a1 (.iload_n 2), a0 (.putfield 19) 3 47 0 0 2 0, none, none, a1 (.iconst 0), a1 (.istore_n 3), a1 (.iload_n 3), a2 (.bipush 40), none, a3 (.if_icmp .ge 16), none, none, a1 (.aload_n 0), a0 (.getfield 9) 3 43 0 0 0 0, none, none, a1 (.iload_n 3), a1 (.iconst 0)],
  [a1 (.iastore), a3 (.iinc 3 1), none, none, a3 (.goto (-16)), none, none, a1 (.return_)]]
/-- 118: EnvyRust.write -/
noncomputable def mk_118 : List (List (Option mEnt)) := [[a1 (.aload_n 0), a1 (.iload_n 1), a0 (.invokevirtual 212) 3 150 10 77 2 0, none, none, a2 (.istore 4), none, a2 (.iload 4), none, a3 (.ifCond .eq 10), none, none, a1 (.aload_n 0), a2 (.iload 4), none, a0 (.invokevirtual 55) 3 61 10 7 2 0, none, none, a1 (.ireturn), a1 (.iload_n 2), a1 (.iconst 0), a1 (.aload_n 0), a0 (.getfield 31) 3 53 0 3 4 0, none, none, a1 (.iload_n 1), a1 (.aaload), a0 (.getfield 215) 3 48 1 0 2 0, none, none, a1 (.iconst 1), a1 (.isub)],
  [a0 (.invokestatic 50) 3 59 12 6 3 0, none, none, a3 (.ifCond .ne 10), none, none, a1 (.aload_n 0), a0 (.ldc 54) 2 60 2 0 0 (-1000001), none, a0 (.invokevirtual 55) 3 61 10 7 2 0, none, none, a1 (.ireturn), a1 (.aload_n 0), a0 (.getfield 31) 3 53 0 3 4 0, none, none, a1 (.iload_n 1), a1 (.aaload), a1 (.iload_n 2), a1 (.iload_n 3), a0 (.invokevirtual 260) 3 206 11 119 3 0, none, none, a1 (.iconst 1), a1 (.ireturn)]]
/-- 119: EnvyRust$Sheet.put -/
noncomputable def mk_119 : List (List (Option mEnt)) := [[a1 (.aload_n 0), a0 (.getfield 15) 3 45 0 0 1 0, none, none, a2 (.bipush 8), none, a3 (.if_icmp .ne 14), none, none, a1 (.aload_n 0), a0 (.getfield 9) 3 43 0 0 0 0, none, none, a1 (.iload_n 1), a1 (.iload_n 2), a1 (.i2b), a1 (.iastore), a3 (.goto 30), none, none, a1 (.aload_n 0), a0 (.getfield 15) 3 45 0 0 1 0, none, none, a2 (.bipush 16), none, a3 (.if_icmp .ne 14), none, none, a1 (.aload_n 0), a0 (.getfield 9) 3 43 0 0 0 0, none],
  [none, a1 (.iload_n 1), a1 (.iload_n 2), a1 (.i2s), a1 (.iastore), a3 (.goto 10), none, none, a1 (.aload_n 0), a0 (.getfield 9) 3 43 0 0 0 0, none, none, a1 (.iload_n 1), a1 (.iload_n 2), a1 (.iastore), a1 (.return_)]]
/-- 120: EnvyRust.copy -/
noncomputable def mk_120 : List (List (Option mEnt)) := [[a1 (.iload_n 1), a0 (.invokestatic 252) 3 151 12 78 1 0, none, none, a3 (.ifCond .eq 10), none, none, a1 (.iload_n 3), a0 (.invokestatic 252) 3 151 12 78 1 0, none, none, a3 (.ifCond .ne 10), none, none, a1 (.aload_n 0), a0 (.ldc 54) 2 60 2 0 0 (-1000001), none, a0 (.invokevirtual 55) 3 61 10 7 2 0, none, none, a1 (.ireturn), a1 (.aload_n 0), a0 (.getfield 31) 3 53 0 3 4 0, none, none, a1 (.iload_n 1), a1 (.aaload), a0 (.invokevirtual 262) 3 152 11 79 1 0, none, none, a3 (.ifCond .ne 15), none],
  [none, a1 (.aload_n 0), a0 (.getfield 31) 3 53 0 3 4 0, none, none, a1 (.iload_n 3), a1 (.aaload), a0 (.invokevirtual 262) 3 152 11 79 1 0, none, none, a3 (.ifCond .eq 10), none, none, a1 (.aload_n 0), a0 (.ldc 247) 2 153 2 0 0 (-1000006), none, a0 (.invokevirtual 55) 3 61 10 7 2 0, none, none, a1 (.ireturn), a1 (.aload_n 0), a0 (.getfield 31) 3 53 0 3 4 0, none, none, a1 (.iload_n 1), a1 (.aaload), a0 (.getfield 266) 3 46 1 0 1 0, none, none, a1 (.aload_n 0), a0 (.getfield 31) 3 53 0 3 4 0, none],
  [none, a1 (.iload_n 3), a1 (.aaload), a0 (.getfield 266) 3 46 1 0 1 0, none, none, a3 (.if_icmp .eq 10), none, none, a1 (.aload_n 0), a0 (.ldc 251) 2 201 2 0 0 (-1000003), none, a0 (.invokevirtual 55) 3 61 10 7 2 0, none, none, a1 (.ireturn), a1 (.aload_n 0), a0 (.getfield 31) 3 53 0 3 4 0, none, none, a1 (.iload_n 1), a1 (.aaload), a1 (.iload_n 2), a2 (.iload 5), none, a0 (.invokevirtual 269) 3 208 11 121 3 0, none, none, a3 (.ifCond .eq 19), none, none, a1 (.aload_n 0)],
  [a0 (.getfield 31) 3 53 0 3 4 0, none, none, a1 (.iload_n 3), a1 (.aaload), a2 (.iload 4), none, a2 (.iload 5), none, a0 (.invokevirtual 269) 3 208 11 121 3 0, none, none, a3 (.ifCond .ne 10), none, none, a1 (.aload_n 0), a0 (.ldc 54) 2 60 2 0 0 (-1000001), none, a0 (.invokevirtual 55) 3 61 10 7 2 0, none, none, a1 (.ireturn), a1 (.aload_n 0), a0 (.getfield 31) 3 53 0 3 4 0, none, none, a1 (.iload_n 1), a1 (.aaload), a0 (.getfield 218) 3 44 1 0 0 0, none, none, a1 (.iload_n 2)],
  [a1 (.aload_n 0), a0 (.getfield 31) 3 53 0 3 4 0, none, none, a1 (.iload_n 3), a1 (.aaload), a0 (.getfield 218) 3 44 1 0 0 0, none, none, a2 (.iload 4), none, a2 (.iload 5), none, a0 (.invokestatic 172) 3 127 21 0 0 0, none, none, a2 (.iload 5), none, a1 (.ireturn)]]
/-- 121: EnvyRust$Sheet.has -/
noncomputable def mk_121 : List (List (Option mEnt)) := [[a1 (.iload_n 1), a3 (.ifCond .lt 29), none, none, a1 (.iload_n 2), a3 (.ifCond .lt 25), none, none, a1 (.iload_n 1), a1 (.aload_n 0), a0 (.getfield 19) 3 47 0 0 2 0, none, none, a3 (.if_icmp .gt 17), none, none, a1 (.iload_n 2), a1 (.aload_n 0), a0 (.getfield 19) 3 47 0 0 2 0, none, none, a1 (.iload_n 1), a1 (.isub), a3 (.if_icmp .gt 7), none, none, a1 (.iconst 1), a3 (.goto 4), none, none, a1 (.iconst 0), a1 (.ireturn)]]
/-- 122: EnvyRust.load -/
noncomputable def mk_122 : List (List (Option mEnt)) := [[a1 (.aload_n 0), a1 (.iload_n 1), a0 (.invokevirtual 212) 3 150 10 77 2 0, none, none, a1 (.istore_n 2), a1 (.iload_n 2), a3 (.ifCond .eq 9), none, none, a1 (.aload_n 0), a1 (.iload_n 2), a0 (.invokevirtual 55) 3 61 10 7 2 0, none, none, a1 (.ireturn), a1 (.aload_n 0), a0 (.getfield 31) 3 53 0 3 4 0, none, none, a1 (.iload_n 1), a1 (.aaload), a0 (.getfield 215) 3 48 1 0 2 0, none, none, a1 (.aload_n 0), a0 (.getfield 10) 3 49 0 3 0 0, none, none, a0 (.getfield 59) 3 16 1 2 3 0, none, none],
  [a0 (.invokestatic 157) 3 125 25 0 0 0, none, none, a1 (.istore_n 3), a1 (.iconst 0), a2 (.istore 4), none, a2 (.iload 4), none, a1 (.iload_n 3), a3 (.if_icmp .ge 52), none, none, a1 (.aload_n 0), a0 (.getfield 31) 3 53 0 3 4 0, none, none, a1 (.iload_n 1), a1 (.aaload), a0 (.getfield 218) 3 44 1 0 0 0, none, none, a2 (.iload 4), none, a1 (.iaload), a2 (.istore 5), none, a2 (.iload 5), none, a1 (.iconst 0), a3 (.sipush 999), none],
  [none, a0 (.invokestatic 50) 3 59 12 6 3 0, none, none, a3 (.ifCond .ne 6), none, none, a2 (.iload 4), none, a1 (.ireturn), a1 (.aload_n 0), a0 (.getfield 10) 3 49 0 3 0 0, none, none, a0 (.getfield 75) 3 8 1 2 0 0, none, none, a1 (.iconst 2), a1 (.aaload), a2 (.iload 4), none, a2 (.iload 5), none, a1 (.iastore), a3 (.iinc 4 1), none, none, a3 (.goto (-52)), none, none, a1 (.iload_n 3), a1 (.ireturn)]]
/-- 123: EnvyRust.judge -/
noncomputable def mk_123 : List (List (Option mEnt)) := [[a1 (.aload_n 0), a1 (.iload_n 1), a0 (.invokevirtual 212) 3 150 10 77 2 0, none, none, a1 (.istore_n 2), a1 (.iload_n 2), a3 (.ifCond .eq 9), none, none, a1 (.aload_n 0), a1 (.iload_n 2), a0 (.invokevirtual 55) 3 61 10 7 2 0, none, none, a1 (.ireturn), a1 (.iconst 0), a1 (.istore_n 3), a1 (.iload_n 3), a1 (.aload_n 0), a0 (.getfield 31) 3 53 0 3 4 0, none, none, a1 (.iload_n 1), a1 (.aaload), a0 (.getfield 215) 3 48 1 0 2 0, none, none, a3 (.if_icmp .ge 27), none, none, a1 (.aload_n 0)],
  [a1 (.aload_n 0), a0 (.getfield 31) 3 53 0 3 4 0, none, none, a1 (.iload_n 1), a1 (.aaload), a1 (.iload_n 3), a0 (.invokevirtual 272) 3 211 10 124 3 0, none, none, a3 (.ifCond .ne 7), none, none, a1 (.iconst 1), a1 (.iload_n 3), a1 (.iadd), a1 (.ireturn), a3 (.iinc 3 1), none, none, a3 (.goto (-34)), none, none, a1 (.iconst 0), a1 (.ireturn)]]
/-- 124: EnvyRust.isLink -/
noncomputable def mk_124 : List (List (Option mEnt)) := [[a1 (.aload_n 1), a0 (.getfield 218) 3 44 1 0 0 0, none, none, a1 (.iload_n 2), a1 (.iaload), a1 (.istore_n 3), a1 (.aload_n 0), a0 (.getfield 10) 3 49 0 3 0 0, none, none, a1 (.iload_n 3), a0 (.invokevirtual 68) 3 65 11 10 2 0, none, none, a3 (.ifCond .ne 5), none, none, a1 (.iconst 0), a1 (.ireturn), a1 (.iload_n 2), a1 (.iconst 1), a1 (.iadd), a1 (.aload_n 1), a0 (.getfield 215) 3 48 1 0 2 0, none, none, a3 (.if_icmp .lt 5), none, none, a1 (.iconst 1), a1 (.ireturn)],
  [a1 (.aload_n 0), a0 (.getfield 10) 3 49 0 3 0 0, none, none, a0 (.getfield 75) 3 8 1 2 0 0, none, none, a1 (.iconst 5), a1 (.aaload), a1 (.iload_n 3), a1 (.iaload), a2 (.istore 4), none, a2 (.iload 4), none, a1 (.iconst (-1)), a3 (.if_icmp .eq 20), none, none, a2 (.iload 4), none, a1 (.aload_n 1), a0 (.getfield 218) 3 44 1 0 0 0, none, none, a1 (.iload_n 2), a1 (.iconst 1), a1 (.iadd), a1 (.iaload), a3 (.if_icmp .ne 7), none, none],
  [a1 (.iconst 1), a3 (.goto 4), none, none, a1 (.iconst 0), a1 (.ireturn)]]
/-- 125: EnvyRust.image -/
noncomputable def mk_125 : List (List (Option mEnt)) := [[a1 (.aload_n 0), a0 (.getfield 16) 3 50 0 3 1 0, none, none, a1 (.aload_n 0), a0 (.getfield 10) 3 49 0 3 0 0, none, none, a0 (.invokevirtual 181) 3 108 11 43 2 0, none, none, a1 (.aload_n 0), a1 (.iconst 1), a0 (.putfield 39) 3 55 0 3 6 0, none, none, a1 (.iconst 1), a1 (.ireturn)]]
/-- 126: EnvyRust.undo -/
noncomputable def mk_126 : List (List (Option mEnt)) := [[a1 (.aload_n 0), a0 (.getfield 39) 3 55 0 3 6 0, none, none, a3 (.ifCond .ne 10), none, none, a1 (.aload_n 0), a0 (.ldc 143) 2 112 2 0 0 (-1000004), none, a0 (.invokevirtual 55) 3 61 10 7 2 0, none, none, a1 (.ireturn), a1 (.aload_n 0), a0 (.getfield 10) 3 49 0 3 0 0, none, none, a1 (.aload_n 0), a0 (.getfield 16) 3 50 0 3 1 0, none, none, a0 (.invokevirtual 181) 3 108 11 43 2 0, none, none, a1 (.aload_n 0), a0 (.getfield 10) 3 49 0 3 0 0, none, none, a0 (.getfield 111) 3 22 1 2 5 0, none, none],
  [a1 (.ireturn)]]
/-- 127: EnvyRust.tear -/
noncomputable def mk_127 : List (List (Option mEnt)) := [[a1 (.aload_n 0), a0 (.getfield 39) 3 55 0 3 6 0, none, none, a3 (.ifCond .eq 7), none, none, a1 (.iconst 1), a3 (.goto 4), none, none, a1 (.iconst 0), a1 (.istore_n 1), a1 (.aload_n 0), a1 (.iconst 0), a0 (.putfield 39) 3 55 0 3 6 0, none, none, a1 (.iload_n 1), a1 (.ireturn)]]
/-- 128: EnvyRust.count -/
noncomputable def mk_128 : List (List (Option mEnt)) := [[a1 (.iload_n 1), a0 (.tableswitch 114 0 7 #[47, 55, 63, 71, 82, 90, 98, 106]) 47 0 0 0 0 0, none, none, none, none, none, none, none, none, none, none, none, none, none, none, none, none, none, none, none, none, none, none, none, none, none, none, none, none, none, none],
  [none, none, none, none, none, none, none, none, none, none, none, none, none, none, none, none, a1 (.aload_n 0), a0 (.getfield 10) 3 49 0 3 0 0, none, none, a0 (.getfield 111) 3 22 1 2 5 0, none, none, a1 (.ireturn), a1 (.aload_n 0), a0 (.getfield 10) 3 49 0 3 0 0, none, none, a0 (.getfield 59) 3 16 1 2 3 0, none, none, a1 (.ireturn)],
  [a1 (.aload_n 0), a0 (.getfield 10) 3 49 0 3 0 0, none, none, a0 (.getfield 93) 3 20 1 2 4 0, none, none, a1 (.ireturn), a1 (.aload_n 0), a0 (.getfield 10) 3 49 0 3 0 0, none, none, a0 (.invokevirtual 119) 3 97 11 35 1 0, none, none, a0 (.invokestatic 123) 3 98 12 36 1 0, none, none, a1 (.ireturn), a1 (.aload_n 0), a0 (.getfield 10) 3 49 0 3 0 0, none, none, a0 (.invokevirtual 128) 3 103 11 38 1 0, none, none, a1 (.ireturn), a1 (.aload_n 0), a0 (.getfield 25) 3 52 0 3 3 0, none, none, a0 (.getfield 230) 3 32 1 1 1 0],
  [none, none, a1 (.ireturn), a1 (.aload_n 0), a0 (.getfield 10) 3 49 0 3 0 0, none, none, a0 (.getfield 227) 3 24 1 2 6 0, none, none, a1 (.ireturn), a1 (.aload_n 0), a0 (.getfield 10) 3 49 0 3 0 0, none, none, a0 (.invokevirtual 276) 3 216 11 129 1 0, none, none, a1 (.ireturn), a1 (.aload_n 0), a0 (.ldc 54) 2 60 2 0 0 (-1000001), none, a0 (.invokevirtual 55) 3 61 10 7 2 0, none, none, a1 (.ireturn)]]
/-- 129: EnvyRust$Town.heldSpots -/
noncomputable def mk_129 : List (List (Option mEnt)) := [[a1 (.iconst 0), a1 (.istore_n 1), a1 (.iconst 0), a1 (.istore_n 2), a1 (.iload_n 2), a2 (.bipush 10), none, a3 (.if_icmp .ge 22), none, none, a1 (.aload_n 0), a0 (.getfield 19) 3 13 0 2 2 0, none, none, a1 (.iload_n 2), a1 (.iaload), a1 (.iconst (-1)), a3 (.if_icmp .eq 6), none, none, a3 (.iinc 1 1), none, none, a3 (.iinc 2 1), none, none, a3 (.goto (-22)), none, none, a1 (.iload_n 1), a1 (.ireturn)]]
/-- 130: EnvyRust.status -/
noncomputable def mk_130 : List (List (Option mEnt)) := [[a1 (.iload_n 1), a1 (.iconst (-1)), a2 (.bipush 6), none, a0 (.invokestatic 50) 3 59 12 6 3 0, none, none, a3 (.ifCond .ne 10), none, none, a1 (.aload_n 0), a0 (.ldc 54) 2 60 2 0 0 (-1000001), none, a0 (.invokevirtual 55) 3 61 10 7 2 0, none, none, a1 (.ireturn), a1 (.iload_n 1), a3 (.ifCond .lt 10), none, none, a1 (.aload_n 0), a0 (.getfield 35) 3 54 0 3 5 0, none, none, a1 (.iload_n 1), a1 (.iaload), a1 (.ireturn), a1 (.iconst 0), a1 (.istore_n 2), a1 (.iconst 0), a1 (.istore_n 3)],
  [a1 (.iload_n 3), a2 (.bipush 7), none, a3 (.if_icmp .ge 18), none, none, a1 (.iload_n 2), a1 (.aload_n 0), a0 (.getfield 35) 3 54 0 3 5 0, none, none, a1 (.iload_n 3), a1 (.iaload), a1 (.iadd), a1 (.istore_n 2), a3 (.iinc 3 1), none, none, a3 (.goto (-18)), none, none, a1 (.iload_n 2), a1 (.ireturn)]]
/-- 131: EnvyRustModel.new -/
noncomputable def mk_131 : List (List (Option mEnt)) := [[a1 (.aload_n 0), a0 (.invokespecial 1) 3 220 20 0 0 0, none, none, a1 (.aload_n 0), a2 (.bipush 118), none, a2 (.newarray .int), none, a0 (.putfield 9) 3 229 0 4 0 0, none, none, a1 (.aload_n 0), a2 (.bipush 118), none, a2 (.newarray .int), none, a0 (.putfield 13) 3 230 0 4 1 0, none, none, a1 (.aload_n 0), a2 (.bipush 118), none, a2 (.newarray .int), none, a0 (.putfield 16) 3 231 0 4 2 0, none, none, a1 (.aload_n 0), a2 (.bipush 8), none, a2 (.newarray .int)],
  [none, a0 (.putfield 19) 3 233 0 4 4 0, none, none, a1 (.aload_n 0), a2 (.bipush 8), none, a2 (.newarray .int), none, a0 (.putfield 22) 3 234 0 4 5 0, none, none, a1 (.aload_n 0), a1 (.iconst (-1)), a0 (.putfield 25) 3 235 0 4 6 0, none, none, a1 (.aload_n 0), a2 (.bipush 8), none, a2 (.newarray .int), none, a0 (.putfield 29) 3 236 0 4 7 0, none, none, a1 (.aload_n 0), a2 (.bipush 120), none, a2 (.newarray .int), none, a0 (.putfield 32) 3 237 0 4 8 0, none],
  [none, a1 (.aload_n 0), a2 (.bipush 7), none, a0 (.anewarray 35) 3 221 5 4 0 0, none, none, a1 (.dup), a1 (.iconst 0), a0 (.ldc 37) 2 222 3 0 7 0, none, a1 (.aastore), a1 (.dup), a1 (.iconst 1), a0 (.ldc 39) 2 223 3 0 1 0, none, a1 (.aastore), a1 (.dup), a1 (.iconst 2), a0 (.ldc 41) 2 224 3 0 2 0, none, a1 (.aastore), a1 (.dup), a1 (.iconst 3), a0 (.ldc 43) 2 225 3 0 3 0, none, a1 (.aastore), a1 (.dup), a1 (.iconst 4), a0 (.ldc 45) 2 226 3 0 4 0, none, a1 (.aastore)],
  [a1 (.dup), a1 (.iconst 5), a0 (.ldc 47) 2 227 3 0 5 0, none, a1 (.aastore), a1 (.dup), a2 (.bipush 6), none, a0 (.ldc 49) 2 228 3 0 6 0, none, a1 (.aastore), a0 (.putfield 51) 3 244 0 4 15 0, none, none, a1 (.aload_n 0), a3 (.sipush 840), none, none, a2 (.newarray .int), none, a0 (.putfield 55) 3 245 0 4 16 0, none, none, a1 (.aload_n 0), a1 (.iconst 4), a2 (.newarray .int), none, a0 (.putfield 58) 3 249 0 4 20 0, none, none, a1 (.aload_n 0), a1 (.iconst 4)],
  [a2 (.newarray .int), none, a0 (.putfield 61) 3 250 0 4 21 0, none, none, a1 (.aload_n 0), a3 (.sipush 160), none, none, a2 (.newarray .int), none, a0 (.putfield 64) 3 251 0 4 22 0, none, none, a1 (.aload_n 0), a2 (.bipush 40), none, a2 (.newarray .int), none, a0 (.putfield 67) 3 252 0 4 23 0, none, none, a1 (.aload_n 0), a0 (.getfield 9) 3 229 0 4 0 0, none, none, a1 (.iconst 3), a1 (.iconst 1), a1 (.iastore), a1 (.iconst 0), a1 (.istore_n 1), a1 (.iload_n 1)],
  [a2 (.bipush 10), none, a3 (.if_icmp .ge 18), none, none, a1 (.aload_n 0), a0 (.getfield 9) 3 229 0 4 0 0, none, none, a1 (.iconst 4), a1 (.iload_n 1), a1 (.iadd), a1 (.iconst (-1)), a1 (.iastore), a3 (.iinc 1 1), none, none, a3 (.goto (-18)), none, none, a1 (.return_)]]
/-- 132: EnvyRustModel.thing -/
noncomputable def mk_132 : List (List (Option mEnt)) := [[a1 (.iload_n 1), a1 (.iconst 0), a1 (.iconst 3), a0 (.invokestatic 80) 3 254 12 133 3 0, none, none, a3 (.ifCond .eq 10), none, none, a1 (.iload_n 2), a0 (.invokestatic 91) 3 255 12 134 1 0, none, none, a3 (.ifCond .ne 10), none, none, a1 (.aload_n 0), a0 (.ldc 70) 2 256 2 0 0 (-1000001), none, a0 (.invokevirtual 76) 3 257 10 135 2 0, none, none, a1 (.ireturn), a1 (.aload_n 0), a0 (.getfield 9) 3 229 0 4 0 0, none, none, a1 (.iconst 1), a1 (.iaload), a2 (.bipush 8), none, a3 (.if_icmp .ne 12)],
  [none, none, a1 (.aload_n 0), a0 (.ldc 95) 2 258 2 0 0 (-1000002), none, a0 (.invokevirtual 76) 3 257 10 135 2 0, none, none, a3 (.goto 14), none, none, a1 (.aload_n 0), a1 (.iload_n 1), a1 (.iload_n 2), a2 (.bipush 100), none, a1 (.iconst 0), a1 (.iconst (-1)), a1 (.iconst (-1)), a0 (.invokevirtual 96) 3 259 10 136 7 0, none, none, a1 (.ireturn)]]
/-- 133: EnvyRustModel.within -/
noncomputable def mk_133 : List (List (Option mEnt)) := [[a1 (.iload_n 0), a1 (.iload_n 1), a3 (.if_icmp .lt 12), none, none, a1 (.iload_n 0), a1 (.iload_n 2), a3 (.if_icmp .gt 7), none, none, a1 (.iconst 1), a3 (.goto 4), none, none, a1 (.iconst 0), a1 (.ireturn)]]
/-- 134: EnvyRustModel.isPlace -/
noncomputable def mk_134 : List (List (Option mEnt)) := [[a1 (.iload_n 0), a1 (.iconst 0), a2 (.bipush 15), none, a0 (.invokestatic 80) 3 254 12 133 3 0, none, none, a1 (.ireturn)]]
/-- 135: EnvyRustModel.finding -/
noncomputable def mk_135 : List (List (Option mEnt)) := [[a1 (.aload_n 0), a0 (.getfield 19) 3 233 0 4 4 0, none, none, a0 (.ldc 70) 2 256 2 0 0 (-1000001), none, a1 (.iload_n 1), a1 (.isub), a1 (.iconst 1), a1 (.iadd), a1 (.dup2), a1 (.iaload), a1 (.iconst 1), a1 (.iadd), a1 (.iastore), a1 (.aload_n 0), a0 (.getfield 19) 3 233 0 4 4 0, none, none, a1 (.iconst 0), a1 (.dup2), a1 (.iaload), a1 (.iconst 1), a1 (.iadd), a1 (.iastore), a1 (.iload_n 1), a1 (.ireturn)]]
/-- 136: EnvyRustModel.comes -/
noncomputable def mk_136 : List (List (Option mEnt)) := [[a1 (.aload_n 0), a0 (.getfield 9) 3 229 0 4 0 0, none, none, a1 (.iconst 1), a1 (.iaload), a2 (.istore 7), none, a1 (.aload_n 0), a0 (.getfield 9) 3 229 0 4 0 0, none, none, a2 (.iload 7), none, a1 (.iconst 0), a0 (.invokestatic 84) 3 260 12 137 2 0, none, none, a1 (.iload_n 1), a1 (.iastore), a1 (.aload_n 0), a0 (.getfield 9) 3 229 0 4 0 0, none, none, a2 (.iload 7), none, a1 (.iconst 1), a0 (.invokestatic 84) 3 260 12 137 2 0, none, none, a1 (.iload_n 2), a1 (.iastore)],
  [a1 (.aload_n 0), a0 (.getfield 9) 3 229 0 4 0 0, none, none, a2 (.iload 7), none, a1 (.iconst 2), a0 (.invokestatic 84) 3 260 12 137 2 0, none, none, a1 (.iload_n 3), a1 (.iastore), a1 (.aload_n 0), a0 (.getfield 9) 3 229 0 4 0 0, none, none, a2 (.iload 7), none, a1 (.iconst 3), a0 (.invokestatic 84) 3 260 12 137 2 0, none, none, a2 (.iload 4), none, a1 (.iastore), a1 (.aload_n 0), a0 (.getfield 9) 3 229 0 4 0 0, none, none, a2 (.iload 7), none, a1 (.iconst 4)],
  [a0 (.invokestatic 84) 3 260 12 137 2 0, none, none, a2 (.iload 5), none, a1 (.iastore), a1 (.aload_n 0), a0 (.getfield 9) 3 229 0 4 0 0, none, none, a2 (.iload 7), none, a1 (.iconst 5), a0 (.invokestatic 84) 3 260 12 137 2 0, none, none, a2 (.iload 6), none, a1 (.iastore), a1 (.aload_n 0), a0 (.getfield 9) 3 229 0 4 0 0, none, none, a1 (.iconst 1), a1 (.dup2), a1 (.iaload), a1 (.iconst 1), a1 (.iadd), a1 (.iastore), a2 (.iload 7), none, a1 (.ireturn)]]
/-- 137: EnvyRustModel.at -/
noncomputable def mk_137 : List (List (Option mEnt)) := [[a2 (.bipush 14), none, a2 (.bipush 6), none, a1 (.iload_n 0), a1 (.imul), a1 (.iadd), a1 (.iload_n 1), a1 (.iadd), a1 (.ireturn)]]
/-- 138: EnvyRustModel.thingOf -/
noncomputable def mk_138 : List (List (Option mEnt)) := [[a1 (.aload_n 0), a1 (.iload_n 1), a0 (.invokevirtual 131) 3 262 10 139 2 0, none, none, a3 (.ifCond .eq 13), none, none, a1 (.iload_n 2), a1 (.iconst 0), a2 (.bipush 6), none, a0 (.invokestatic 80) 3 254 12 133 3 0, none, none, a3 (.ifCond .ne 10), none, none, a1 (.aload_n 0), a0 (.ldc 70) 2 256 2 0 0 (-1000001), none, a0 (.invokevirtual 76) 3 257 10 135 2 0, none, none, a1 (.ireturn), a1 (.iload_n 2), a2 (.bipush 6), none, a3 (.if_icmp .ne 11), none, none, a1 (.aload_n 0)],
  [a1 (.iload_n 1), a0 (.invokevirtual 134) 3 263 10 140 2 0, none, none, a3 (.goto 9), none, none, a1 (.aload_n 0), a1 (.iload_n 1), a1 (.iload_n 2), a0 (.invokevirtual 103) 3 266 10 143 3 0, none, none, a1 (.ireturn)]]
/-- 139: EnvyRustModel.isThing -/
noncomputable def mk_139 : List (List (Option mEnt)) := [[a1 (.iload_n 1), a1 (.iconst 0), a1 (.aload_n 0), a0 (.getfield 9) 3 229 0 4 0 0, none, none, a1 (.iconst 1), a1 (.iaload), a1 (.iconst 1), a1 (.isub), a0 (.invokestatic 80) 3 254 12 133 3 0, none, none, a1 (.ireturn)]]
/-- 140: EnvyRustModel.wornNow -/
noncomputable def mk_140 : List (List (Option mEnt)) := [[a1 (.iconst 0), a1 (.istore_n 2), a1 (.iconst 0), a1 (.istore_n 3), a1 (.iload_n 3), a1 (.aload_n 0), a0 (.getfield 9) 3 229 0 4 0 0, none, none, a1 (.iconst 2), a1 (.iaload), a3 (.if_icmp .ge 37), none, none, a1 (.iload_n 2), a1 (.aload_n 0), a1 (.iload_n 3), a1 (.iconst 1), a0 (.invokevirtual 109) 3 264 10 141 3 0, none, none, a1 (.aload_n 0), a1 (.iload_n 1), a1 (.iconst 1), a0 (.invokevirtual 103) 3 266 10 143 3 0, none, none, a3 (.if_icmp .ne 12), none, none, a1 (.aload_n 0), a1 (.iload_n 3)],
  [a1 (.iload_n 1), a0 (.invokevirtual 125) 3 267 10 144 3 0, none, none, a3 (.goto 4), none, none, a1 (.iconst 0), a1 (.iadd), a1 (.istore_n 2), a3 (.iinc 3 1), none, none, a3 (.goto (-41)), none, none, a1 (.iload_n 2), a1 (.aload_n 0), a1 (.iload_n 1), a1 (.iconst 2), a0 (.invokevirtual 103) 3 266 10 143 3 0, none, none, a0 (.invokestatic 128) 3 273 25 0 0 0, none, none, a1 (.ireturn)]]
/-- 141: EnvyRustModel.personIs -/
noncomputable def mk_141 : List (List (Option mEnt)) := [[a1 (.aload_n 0), a0 (.getfield 9) 3 229 0 4 0 0, none, none, a1 (.iload_n 1), a1 (.iload_n 2), a0 (.invokestatic 88) 3 265 12 142 2 0, none, none, a1 (.iaload), a1 (.ireturn)]]
/-- 142: EnvyRustModel.by -/
noncomputable def mk_142 : List (List (Option mEnt)) := [[a2 (.bipush 62), none, a2 (.bipush 7), none, a1 (.iload_n 0), a1 (.imul), a1 (.iadd), a1 (.iload_n 1), a1 (.iadd), a1 (.ireturn)]]
/-- 143: EnvyRustModel.thingIs -/
noncomputable def mk_143 : List (List (Option mEnt)) := [[a1 (.aload_n 0), a0 (.getfield 9) 3 229 0 4 0 0, none, none, a1 (.iload_n 1), a1 (.iload_n 2), a0 (.invokestatic 84) 3 260 12 137 2 0, none, none, a1 (.iaload), a1 (.ireturn)]]
/-- 144: EnvyRustModel.envyOf -/
noncomputable def mk_144 : List (List (Option mEnt)) := [[a1 (.aload_n 0), a1 (.iload_n 1), a1 (.iload_n 2), a1 (.aload_n 0), a1 (.iload_n 2), a1 (.iconst 4), a0 (.invokevirtual 103) 3 266 10 143 3 0, none, none, a0 (.invokevirtual 121) 3 268 10 145 4 0, none, none, a1 (.ireturn)]]
/-- 145: EnvyRustModel.envyIf -/
noncomputable def mk_145 : List (List (Option mEnt)) := [[a1 (.iload_n 3), a1 (.iload_n 1), a3 (.if_icmp .eq 19), none, none, a1 (.aload_n 0), a1 (.iload_n 2), a0 (.invokevirtual 106) 3 269 10 146 2 0, none, none, a3 (.ifCond .ne 11), none, none, a1 (.iload_n 1), a1 (.aload_n 0), a0 (.getfield 25) 3 235 0 4 6 0, none, none, a3 (.if_icmp .ne 5), none, none, a1 (.iconst 0), a1 (.ireturn), a1 (.aload_n 0), a1 (.iload_n 1), a1 (.iconst 3), a1 (.aload_n 0), a1 (.iload_n 2), a1 (.iconst 0), a0 (.invokevirtual 103) 3 266 10 143 3 0, none, none],
  [a1 (.iadd), a0 (.invokevirtual 109) 3 264 10 141 3 0, none, none, a1 (.aload_n 0), a1 (.iload_n 2), a1 (.iconst 3), a0 (.invokevirtual 103) 3 266 10 143 3 0, none, none, a1 (.isub), a2 (.istore 4), none, a1 (.iload_n 3), a3 (.ifCond .lt 23), none, none, a1 (.aload_n 0), a1 (.iload_n 3), a1 (.iconst 0), a0 (.invokevirtual 109) 3 264 10 141 3 0, none, none, a1 (.iconst 2), a0 (.invokestatic 112) 3 270 12 147 2 0, none, none, a3 (.ifCond .eq 10), none, none, a2 (.iload 4), none],
  [a1 (.iconst 2), a1 (.iadd), a3 (.goto 5), none, none, a2 (.iload 4), none, a2 (.istore 5), none, a1 (.aload_n 0), a1 (.iload_n 1), a1 (.iconst 0), a0 (.invokevirtual 109) 3 264 10 141 3 0, none, none, a0 (.tableswitch 107 1 6 #[37, 63, 70, 79, 98, 46]) 37 0 0 0 0 0, none, none, none, none, none, none, none, none, none, none, none, none, none, none, none, none],
  [none, none, none, none, none, none, none, none, none, none, none, none, none, none, none, none, none, none, none, none, a2 (.iload 4), none, a1 (.iconst 2), a1 (.idiv), a2 (.istore 6), none, a3 (.goto 68), none, none, a1 (.iload_n 3), a3 (.ifCond .ge 7), none],
  [none, a1 (.iconst 0), a3 (.goto 7), none, none, a2 (.iload 4), none, a1 (.iconst 2), a1 (.idiv), a2 (.istore 6), none, a3 (.goto 51), none, none, a2 (.iload 5), none, a2 (.istore 6), none, a3 (.goto 44), none, none, a2 (.iload 5), none, a1 (.iconst 3), a1 (.isub), a2 (.istore 6), none, a3 (.goto 35), none, none, a2 (.iload 5), none],
  [a1 (.iconst 3), a1 (.isub), a1 (.aload_n 0), a1 (.iload_n 2), a1 (.iconst 2), a0 (.invokevirtual 103) 3 266 10 143 3 0, none, none, a2 (.bipush 100), none, a1 (.idiv), a1 (.iadd), a2 (.istore 6), none, a3 (.goto 16), none, none, a1 (.iconst 2), a2 (.iload 4), none, a1 (.imul), a2 (.istore 6), none, a3 (.goto 7), none, none, a2 (.iload 4), none, a2 (.istore 6), none, a1 (.iconst 0), a2 (.iload 6)],
  [none, a0 (.invokestatic 116) 3 272 24 0 0 0, none, none, a1 (.ireturn)]]
/-- 146: EnvyRustModel.isGone -/
noncomputable def mk_146 : List (List (Option mEnt)) := [[a1 (.aload_n 0), a1 (.iload_n 1), a1 (.iconst 2), a0 (.invokevirtual 103) 3 266 10 143 3 0, none, none, a3 (.ifCond .ne 7), none, none, a1 (.iconst 1), a3 (.goto 4), none, none, a1 (.iconst 0), a1 (.ireturn)]]
/-- 147: EnvyRustModel.isUnder -/
noncomputable def mk_147 : List (List (Option mEnt)) := [[a1 (.iload_n 0), a1 (.istore_n 2), a1 (.iload_n 2), a3 (.ifCond .lt 16), none, none, a1 (.iload_n 2), a1 (.iload_n 1), a3 (.if_icmp .eq 11), none, none, a1 (.iload_n 2), a0 (.invokestatic 100) 3 271 12 148 1 0, none, none, a1 (.istore_n 2), a3 (.goto (-14)), none, none, a1 (.iload_n 2), a3 (.ifCond .lt 7), none, none, a1 (.iconst 1), a3 (.goto 4), none, none, a1 (.iconst 0), a1 (.ireturn)]]
/-- 148: EnvyRustModel.above -/
noncomputable def mk_148 : List (List (Option mEnt)) := [[a1 (.iload_n 0), a3 (.ifCond .ne 7), none, none, a1 (.iconst (-1)), a3 (.goto 32), none, none, a1 (.iload_n 0), a1 (.iconst 3), a3 (.if_icmp .ne 7), none, none, a1 (.iconst 2), a3 (.goto 23), none, none, a1 (.iload_n 0), a1 (.iconst 4), a3 (.if_icmp .ne 7), none, none, a1 (.iconst 3), a3 (.goto 14), none, none, a1 (.iload_n 0), a2 (.bipush 6), none, a3 (.if_icmp .ne 7), none, none],
  [a1 (.iconst 1), a3 (.goto 4), none, none, a1 (.iconst 0), a1 (.ireturn)]]
/-- 149: EnvyRustModel.forge -/
noncomputable def mk_149 : List (List (Option mEnt)) := [[a1 (.aload_n 0), a1 (.iload_n 1), a0 (.invokevirtual 131) 3 262 10 139 2 0, none, none, a3 (.ifCond .eq 13), none, none, a1 (.aload_n 0), a1 (.iload_n 1), a1 (.iload_n 2), a1 (.iload_n 3), a0 (.invokevirtual 146) 3 275 10 150 4 0, none, none, a3 (.ifCond .ne 10), none, none, a1 (.aload_n 0), a0 (.ldc 70) 2 256 2 0 0 (-1000001), none, a0 (.invokevirtual 76) 3 257 10 135 2 0, none, none, a1 (.ireturn), a1 (.iload_n 2), a1 (.iconst 5), a3 (.if_icmp .ne 23), none, none, a1 (.iload_n 3), a3 (.ifCond .lt 19)],
  [none, none, a1 (.aload_n 0), a1 (.iload_n 3), a1 (.iload_n 1), a0 (.invokevirtual 149) 3 279 10 154 3 0, none, none, a3 (.ifCond .eq 10), none, none, a1 (.aload_n 0), a0 (.ldc 152) 2 280 2 0 0 (-1000005), none, a0 (.invokevirtual 76) 3 257 10 135 2 0, none, none, a1 (.ireturn), a1 (.aload_n 0), a1 (.iload_n 1), a1 (.iload_n 2), a0 (.invokestatic 84) 3 260 12 137 2 0, none, none, a1 (.iload_n 3), a0 (.invokevirtual 153) 3 281 10 155 3 0, none, none, a1 (.ireturn)]]
/-- 150: EnvyRustModel.mayForge -/
noncomputable def mk_150 : List (List (Option mEnt)) := [[a1 (.iload_n 2), a0 (.tableswitch 104 0 5 #[39, 46, 51, 56, 61, 80]) 39 0 0 0 0 0, none, none, none, none, none, none, none, none, none, none, none, none, none, none, none, none, none, none, none, none, none, none, none, none, none, none, none, none, none, none],
  [none, none, none, none, none, none, none, none, a1 (.iload_n 3), a1 (.iconst 0), a1 (.iconst 3), a0 (.invokestatic 80) 3 254 12 133 3 0, none, none, a1 (.ireturn), a1 (.iload_n 3), a0 (.invokestatic 91) 3 255 12 134 1 0, none, none, a1 (.ireturn), a1 (.iload_n 3), a0 (.invokestatic 137) 3 276 12 151 1 0, none, none, a1 (.ireturn), a1 (.iload_n 3), a0 (.invokestatic 140) 3 277 12 152 1 0, none, none, a1 (.ireturn), a1 (.iload_n 3), a1 (.iconst (-1))],
  [a3 (.if_icmp .eq 11), none, none, a1 (.aload_n 0), a1 (.iload_n 3), a0 (.invokevirtual 143) 3 278 10 153 2 0, none, none, a3 (.ifCond .eq 7), none, none, a1 (.iconst 1), a3 (.goto 4), none, none, a1 (.iconst 0), a1 (.ireturn), a1 (.iload_n 3), a1 (.iconst (-1)), a3 (.if_icmp .eq 16), none, none, a1 (.aload_n 0), a1 (.iload_n 3), a0 (.invokevirtual 131) 3 262 10 139 2 0, none, none, a3 (.ifCond .eq 12), none, none, a1 (.iload_n 3), a1 (.iload_n 1)],
  [a3 (.if_icmp .eq 7), none, none, a1 (.iconst 1), a3 (.goto 4), none, none, a1 (.iconst 0), a1 (.ireturn), a1 (.iconst 0), a1 (.ireturn)]]
/-- 151: EnvyRustModel.isThick -/
noncomputable def mk_151 : List (List (Option mEnt)) := [[a1 (.iload_n 0), a1 (.iconst 0), a3 (.sipush 999), none, none, a0 (.invokestatic 80) 3 254 12 133 3 0, none, none, a1 (.ireturn)]]
/-- 152: EnvyRustModel.isDigit -/
noncomputable def mk_152 : List (List (Option mEnt)) := [[a1 (.iload_n 0), a1 (.iconst 0), a2 (.bipush 9), none, a0 (.invokestatic 80) 3 254 12 133 3 0, none, none, a1 (.ireturn)]]
/-- 153: EnvyRustModel.isPerson -/
noncomputable def mk_153 : List (List (Option mEnt)) := [[a1 (.iload_n 1), a1 (.iconst 0), a1 (.aload_n 0), a0 (.getfield 9) 3 229 0 4 0 0, none, none, a1 (.iconst 2), a1 (.iaload), a1 (.iconst 1), a1 (.isub), a0 (.invokestatic 80) 3 254 12 133 3 0, none, none, a1 (.ireturn)]]
/-- 154: EnvyRustModel.hangsOn -/
noncomputable def mk_154 : List (List (Option mEnt)) := [[a1 (.iload_n 1), a1 (.istore_n 3), a1 (.iload_n 3), a3 (.ifCond .lt 18), none, none, a1 (.iload_n 3), a1 (.iload_n 2), a3 (.if_icmp .eq 13), none, none, a1 (.aload_n 0), a1 (.iload_n 3), a1 (.iconst 5), a0 (.invokevirtual 103) 3 266 10 143 3 0, none, none, a1 (.istore_n 3), a3 (.goto (-16)), none, none, a1 (.iload_n 3), a3 (.ifCond .lt 7), none, none, a1 (.iconst 1), a3 (.goto 4), none, none, a1 (.iconst 0), a1 (.ireturn)]]
/-- 155: EnvyRustModel.become -/
noncomputable def mk_155 : List (List (Option mEnt)) := [[a1 (.aload_n 0), a0 (.getfield 9) 3 229 0 4 0 0, none, none, a1 (.iload_n 1), a1 (.iaload), a1 (.istore_n 3), a1 (.aload_n 0), a0 (.getfield 9) 3 229 0 4 0 0, none, none, a1 (.iload_n 1), a1 (.iload_n 2), a1 (.iastore), a1 (.iload_n 3), a1 (.ireturn)]]
/-- 156: EnvyRustModel.person -/
noncomputable def mk_156 : List (List (Option mEnt)) := [[a1 (.iload_n 1), a0 (.invokestatic 156) 3 283 12 157 1 0, none, none, a3 (.ifCond .eq 10), none, none, a1 (.iload_n 2), a0 (.invokestatic 91) 3 255 12 134 1 0, none, none, a3 (.ifCond .ne 10), none, none, a1 (.aload_n 0), a0 (.ldc 70) 2 256 2 0 0 (-1000001), none, a0 (.invokevirtual 76) 3 257 10 135 2 0, none, none, a1 (.ireturn), a1 (.aload_n 0), a0 (.getfield 9) 3 229 0 4 0 0, none, none, a1 (.iconst 2), a1 (.iaload), a2 (.bipush 8), none, a3 (.if_icmp .ne 12), none, none],
  [a1 (.aload_n 0), a0 (.ldc 95) 2 258 2 0 0 (-1000002), none, a0 (.invokevirtual 76) 3 257 10 135 2 0, none, none, a3 (.goto 10), none, none, a1 (.aload_n 0), a1 (.iload_n 1), a1 (.iload_n 2), a1 (.iconst 1), a0 (.invokevirtual 159) 3 284 10 158 4 0, none, none, a1 (.ireturn)]]
/-- 157: EnvyRustModel.isKind -/
noncomputable def mk_157 : List (List (Option mEnt)) := [[a1 (.iload_n 0), a1 (.iconst 0), a2 (.bipush 6), none, a0 (.invokestatic 80) 3 254 12 133 3 0, none, none, a1 (.ireturn)]]
/-- 158: EnvyRustModel.joins -/
noncomputable def mk_158 : List (List (Option mEnt)) := [[a1 (.aload_n 0), a0 (.getfield 9) 3 229 0 4 0 0, none, none, a1 (.iconst 2), a1 (.iaload), a2 (.istore 4), none, a1 (.aload_n 0), a0 (.getfield 9) 3 229 0 4 0 0, none, none, a2 (.iload 4), none, a1 (.iconst 0), a0 (.invokestatic 88) 3 265 12 142 2 0, none, none, a1 (.iload_n 1), a1 (.iastore), a1 (.aload_n 0), a0 (.getfield 9) 3 229 0 4 0 0, none, none, a2 (.iload 4), none, a1 (.iconst 1), a0 (.invokestatic 88) 3 265 12 142 2 0, none, none, a1 (.iload_n 2), a1 (.iastore)],
  [a1 (.aload_n 0), a0 (.getfield 9) 3 229 0 4 0 0, none, none, a2 (.iload 4), none, a1 (.iconst 2), a0 (.invokestatic 88) 3 265 12 142 2 0, none, none, a1 (.iload_n 3), a1 (.iastore), a1 (.iconst 0), a2 (.istore 5), none, a2 (.iload 5), none, a1 (.iconst 4), a3 (.if_icmp .ge 24), none, none, a1 (.aload_n 0), a0 (.getfield 9) 3 229 0 4 0 0, none, none, a2 (.iload 4), none, a1 (.iconst 3), a2 (.iload 5), none, a1 (.iadd), a0 (.invokestatic 88) 3 265 12 142 2 0],
  [none, none, a1 (.iconst 1), a1 (.iastore), a3 (.iinc 5 1), none, none, a3 (.goto (-24)), none, none, a1 (.aload_n 0), a0 (.getfield 9) 3 229 0 4 0 0, none, none, a1 (.iconst 2), a1 (.dup2), a1 (.iaload), a1 (.iconst 1), a1 (.iadd), a1 (.iastore), a2 (.iload 4), none, a1 (.ireturn)]]
/-- 159: EnvyRustModel.of -/
noncomputable def mk_159 : List (List (Option mEnt)) := [[a1 (.aload_n 0), a1 (.iload_n 1), a0 (.invokevirtual 143) 3 278 10 153 2 0, none, none, a3 (.ifCond .eq 13), none, none, a1 (.iload_n 2), a1 (.iconst 0), a2 (.bipush 7), none, a0 (.invokestatic 80) 3 254 12 133 3 0, none, none, a3 (.ifCond .ne 10), none, none, a1 (.aload_n 0), a0 (.ldc 70) 2 256 2 0 0 (-1000001), none, a0 (.invokevirtual 76) 3 257 10 135 2 0, none, none, a1 (.ireturn), a1 (.iload_n 2), a2 (.bipush 7), none, a3 (.if_icmp .ne 11), none, none, a1 (.aload_n 0)],
  [a1 (.iload_n 1), a0 (.invokevirtual 162) 3 286 10 160 2 0, none, none, a3 (.goto 9), none, none, a1 (.aload_n 0), a1 (.iload_n 1), a1 (.iload_n 2), a0 (.invokevirtual 109) 3 264 10 141 3 0, none, none, a1 (.ireturn)]]
/-- 160: EnvyRustModel.ownedBy -/
noncomputable def mk_160 : List (List (Option mEnt)) := [[a1 (.iconst 0), a1 (.istore_n 2), a1 (.iconst 0), a1 (.istore_n 3), a1 (.iload_n 3), a1 (.aload_n 0), a0 (.getfield 9) 3 229 0 4 0 0, none, none, a1 (.iconst 1), a1 (.iaload), a3 (.if_icmp .ge 29), none, none, a1 (.iload_n 2), a1 (.aload_n 0), a1 (.iload_n 3), a1 (.iconst 4), a0 (.invokevirtual 103) 3 266 10 143 3 0, none, none, a1 (.iload_n 1), a3 (.if_icmp .ne 9), none, none, a1 (.iconst 1), a1 (.iload_n 3), a1 (.ishl), a3 (.goto 4), none, none, a1 (.iconst 0)],
  [a1 (.ior), a1 (.istore_n 2), a3 (.iinc 3 1), none, none, a3 (.goto (-33)), none, none, a1 (.iload_n 2), a1 (.ireturn)]]
/-- 161: EnvyRustModel.change -/
noncomputable def mk_161 : List (List (Option mEnt)) := [[a1 (.iload_n 2), a3 (.ifCond .ne 10), none, none, a1 (.iload_n 3), a0 (.invokestatic 156) 3 283 12 157 1 0, none, none, a3 (.goto 42), none, none, a1 (.iload_n 2), a1 (.iconst 1), a3 (.if_icmp .eq 8), none, none, a1 (.iload_n 2), a1 (.iconst 2), a3 (.if_icmp .ne 10), none, none, a1 (.iload_n 3), a0 (.invokestatic 91) 3 255 12 134 1 0, none, none, a3 (.goto 25), none, none, a1 (.iload_n 2), a1 (.iconst 3), a2 (.bipush 6), none],
  [a0 (.invokestatic 80) 3 254 12 133 3 0, none, none, a3 (.ifCond .eq 14), none, none, a1 (.iload_n 3), a0 (.invokestatic 140) 3 277 12 152 1 0, none, none, a3 (.ifCond .eq 7), none, none, a1 (.iconst 1), a3 (.goto 4), none, none, a1 (.iconst 0), a2 (.istore 4), none, a1 (.aload_n 0), a1 (.iload_n 1), a0 (.invokevirtual 143) 3 278 10 153 2 0, none, none, a3 (.ifCond .eq 21), none, none, a2 (.iload 4), none, a3 (.ifCond .eq 16), none],
  [none, a1 (.aload_n 0), a1 (.iload_n 1), a1 (.iload_n 2), a0 (.invokestatic 88) 3 265 12 142 2 0, none, none, a1 (.iload_n 3), a0 (.invokevirtual 153) 3 281 10 155 3 0, none, none, a3 (.goto 9), none, none, a1 (.aload_n 0), a0 (.ldc 70) 2 256 2 0 0 (-1000001), none, a0 (.invokevirtual 76) 3 257 10 135 2 0, none, none, a1 (.ireturn)]]
/-- 162: EnvyRustModel.envy -/
noncomputable def mk_162 : List (List (Option mEnt)) := [[a1 (.aload_n 0), a1 (.iload_n 1), a0 (.invokevirtual 143) 3 278 10 153 2 0, none, none, a3 (.ifCond .eq 20), none, none, a1 (.aload_n 0), a1 (.iload_n 2), a0 (.invokevirtual 131) 3 262 10 139 2 0, none, none, a3 (.ifCond .eq 12), none, none, a1 (.aload_n 0), a1 (.iload_n 1), a1 (.iload_n 2), a0 (.invokevirtual 125) 3 267 10 144 3 0, none, none, a3 (.goto 9), none, none, a1 (.aload_n 0), a0 (.ldc 70) 2 256 2 0 0 (-1000001), none, a0 (.invokevirtual 76) 3 257 10 135 2 0, none, none, a1 (.ireturn)]]
/-- 163: EnvyRustModel.go -/
noncomputable def mk_163 : List (List (Option mEnt)) := [[a1 (.iload_n 1), a1 (.iconst 1), a2 (.bipush 60), none, a0 (.invokestatic 80) 3 254 12 133 3 0, none, none, a3 (.ifCond .ne 10), none, none, a1 (.aload_n 0), a0 (.ldc 70) 2 256 2 0 0 (-1000001), none, a0 (.invokevirtual 76) 3 257 10 135 2 0, none, none, a1 (.ireturn), a1 (.aload_n 0), a0 (.getfield 9) 3 229 0 4 0 0, none, none, a1 (.iconst 0), a1 (.iaload), a1 (.iload_n 1), a1 (.iadd), a0 (.ldc 172) 2 290 2 0 0 99999, none, a3 (.if_icmp .le 10), none, none, a1 (.aload_n 0), a0 (.ldc 152) 2 280 2 0 0 (-1000005)],
  [none, a0 (.invokevirtual 76) 3 257 10 135 2 0, none, none, a1 (.ireturn), a1 (.aload_n 0), a1 (.iload_n 1), a0 (.invokevirtual 173) 3 291 10 164 2 0, none, none, a1 (.aload_n 0), a0 (.invokevirtual 177) 3 294 10 167 1 0, none, none, a0 (.invokestatic 181) 3 295 12 168 1 0, none, none, a1 (.ireturn)]]
/-- 164: EnvyRustModel.days -/
noncomputable def mk_164 : List (List (Option mEnt)) := [[a1 (.iconst 0), a1 (.istore_n 2), a1 (.iload_n 2), a1 (.iload_n 1), a3 (.if_icmp .ge 13), none, none, a1 (.aload_n 0), a0 (.invokevirtual 169) 3 292 10 165 1 0, none, none, a3 (.iinc 2 1), none, none, a3 (.goto (-12)), none, none, a1 (.return_)]]
/-- 165: EnvyRustModel.day -/
noncomputable def mk_165 : List (List (Option mEnt)) := [[a1 (.iconst 0), a1 (.istore_n 1), a1 (.iload_n 1), a1 (.aload_n 0), a0 (.getfield 9) 3 229 0 4 0 0, none, none, a1 (.iconst 1), a1 (.iaload), a3 (.if_icmp .ge 20), none, none, a1 (.aload_n 0), a0 (.getfield 22) 3 234 0 4 5 0, none, none, a1 (.iload_n 1), a1 (.aload_n 0), a1 (.iload_n 1), a0 (.invokevirtual 134) 3 263 10 140 2 0, none, none, a1 (.iastore), a3 (.iinc 1 1), none, none, a3 (.goto (-24)), none, none, a1 (.iconst 0), a1 (.istore_n 1), a1 (.iload_n 1)],
  [a1 (.aload_n 0), a0 (.getfield 9) 3 229 0 4 0 0, none, none, a1 (.iconst 1), a1 (.iaload), a3 (.if_icmp .ge 28), none, none, a1 (.aload_n 0), a0 (.getfield 9) 3 229 0 4 0 0, none, none, a1 (.iload_n 1), a1 (.iconst 2), a0 (.invokestatic 84) 3 260 12 137 2 0, none, none, a1 (.dup2), a1 (.iaload), a1 (.aload_n 0), a0 (.getfield 22) 3 234 0 4 5 0, none, none, a1 (.iload_n 1), a1 (.iaload), a1 (.isub), a1 (.iastore), a3 (.iinc 1 1), none, none, a3 (.goto (-32))],
  [none, none, a1 (.iconst 1), a1 (.istore_n 1), a1 (.iload_n 1), a3 (.ifCond .eq 11), none, none, a1 (.aload_n 0), a0 (.invokevirtual 165) 3 293 10 166 1 0, none, none, a1 (.istore_n 1), a3 (.goto (-9)), none, none, a1 (.iconst 0), a1 (.istore_n 2), a1 (.iload_n 2), a1 (.aload_n 0), a0 (.getfield 9) 3 229 0 4 0 0, none, none, a1 (.iconst 2), a1 (.iaload), a3 (.if_icmp .ge 35), none, none, a1 (.aload_n 0), a0 (.getfield 9) 3 229 0 4 0 0, none, none],
  [a1 (.iload_n 2), a1 (.iconst 1), a0 (.invokestatic 88) 3 265 12 142 2 0, none, none, a1 (.aload_n 0), a1 (.iload_n 2), a1 (.iconst 1), a0 (.invokevirtual 109) 3 264 10 141 3 0, none, none, a1 (.aload_n 0), a1 (.iload_n 2), a1 (.iconst 2), a0 (.invokevirtual 109) 3 264 10 141 3 0, none, none, a1 (.iadd), a2 (.bipush 16), none, a1 (.irem), a1 (.iastore), a3 (.iinc 2 1), none, none, a3 (.goto (-39)), none, none, a1 (.aload_n 0), a0 (.getfield 9) 3 229 0 4 0 0, none, none],
  [a1 (.iconst 0), a1 (.dup2), a1 (.iaload), a1 (.iconst 1), a1 (.iadd), a1 (.iastore), a1 (.return_)]]
/-- 166: EnvyRustModel.falls -/
noncomputable def mk_166 : List (List (Option mEnt)) := [[a1 (.iconst 0), a1 (.istore_n 1), a1 (.iconst 0), a1 (.istore_n 2), a1 (.iload_n 2), a1 (.aload_n 0), a0 (.getfield 9) 3 229 0 4 0 0, none, none, a1 (.iconst 1), a1 (.iaload), a3 (.if_icmp .ge 52), none, none, a1 (.aload_n 0), a1 (.iload_n 2), a0 (.invokevirtual 106) 3 269 10 146 2 0, none, none, a3 (.ifCond .ne 38), none, none, a1 (.aload_n 0), a1 (.iload_n 2), a1 (.iconst 5), a0 (.invokevirtual 103) 3 266 10 143 3 0, none, none, a3 (.ifCond .lt 29), none, none, a1 (.aload_n 0)],
  [a1 (.aload_n 0), a1 (.iload_n 2), a1 (.iconst 5), a0 (.invokevirtual 103) 3 266 10 143 3 0, none, none, a0 (.invokevirtual 106) 3 269 10 146 2 0, none, none, a3 (.ifCond .eq 16), none, none, a1 (.aload_n 0), a0 (.getfield 9) 3 229 0 4 0 0, none, none, a1 (.iload_n 2), a1 (.iconst 2), a0 (.invokestatic 84) 3 260 12 137 2 0, none, none, a1 (.iconst 0), a1 (.iastore), a1 (.iconst 1), a1 (.istore_n 1), a3 (.iinc 2 1), none, none, a3 (.goto (-56)), none, none, a1 (.iload_n 1)],
  [a1 (.ireturn)]]
/-- 167: EnvyRustModel.goneNow -/
noncomputable def mk_167 : List (List (Option mEnt)) := [[a1 (.iconst 0), a1 (.istore_n 1), a1 (.iconst 0), a1 (.istore_n 2), a1 (.iload_n 2), a1 (.aload_n 0), a0 (.getfield 9) 3 229 0 4 0 0, none, none, a1 (.iconst 1), a1 (.iaload), a3 (.if_icmp .ge 27), none, none, a1 (.iload_n 1), a1 (.aload_n 0), a1 (.iload_n 2), a0 (.invokevirtual 106) 3 269 10 146 2 0, none, none, a3 (.ifCond .eq 9), none, none, a1 (.iconst 1), a1 (.iload_n 2), a1 (.ishl), a3 (.goto 4), none, none, a1 (.iconst 0), a1 (.ior), a1 (.istore_n 1)],
  [a3 (.iinc 2 1), none, none, a3 (.goto (-31)), none, none, a1 (.iload_n 1), a1 (.ireturn)]]
/-- 168: EnvyRustModel.bits -/
noncomputable def mk_168 : List (List (Option mEnt)) := [[a1 (.iconst 0), a1 (.istore_n 1), a1 (.iload_n 0), a1 (.istore_n 2), a1 (.iload_n 2), a3 (.ifCond .eq 15), none, none, a3 (.iinc 1 1), none, none, a1 (.iload_n 2), a1 (.iload_n 2), a1 (.iconst 1), a1 (.isub), a1 (.iand), a1 (.istore_n 2), a3 (.goto (-13)), none, none, a1 (.iload_n 1), a1 (.ireturn)]]
/-- 169: EnvyRustModel.now -/
noncomputable def mk_169 : List (List (Option mEnt)) := [[a1 (.iconst 0), a1 (.istore_n 2), a1 (.iload_n 1), a0 (.tableswitch 121 0 4 #[33, 40, 45, 50, 78]) 33 0 0 0 0 0, none, none, none, none, none, none, none, none, none, none, none, none, none, none, none, none, none, none, none, none, none, none, none, none, none, none, none, none],
  [none, none, none, none, a1 (.aload_n 0), a0 (.getfield 9) 3 229 0 4 0 0, none, none, a1 (.iconst 0), a1 (.iaload), a1 (.ireturn), a1 (.aload_n 0), a0 (.invokevirtual 177) 3 294 10 167 1 0, none, none, a1 (.ireturn), a1 (.aload_n 0), a0 (.invokevirtual 184) 3 297 10 170 1 0, none, none, a1 (.ireturn), a1 (.iconst 0), a1 (.istore_n 3), a1 (.iload_n 3), a1 (.aload_n 0), a0 (.getfield 9) 3 229 0 4 0 0, none, none, a1 (.iconst 1), a1 (.iaload), a3 (.if_icmp .ge 17), none],
  [none, a1 (.iload_n 2), a1 (.aload_n 0), a1 (.iload_n 3), a0 (.invokevirtual 134) 3 263 10 140 2 0, none, none, a1 (.iadd), a1 (.istore_n 2), a3 (.iinc 3 1), none, none, a3 (.goto (-21)), none, none, a1 (.iload_n 2), a1 (.ireturn), a1 (.iconst 0), a1 (.istore_n 3), a1 (.iload_n 3), a1 (.aload_n 0), a0 (.getfield 9) 3 229 0 4 0 0, none, none, a1 (.iconst 1), a1 (.iaload), a3 (.if_icmp .ge 32), none, none, a1 (.iload_n 2), a1 (.aload_n 0), a1 (.aload_n 0)],
  [a1 (.iload_n 3), a1 (.iconst 1), a0 (.invokevirtual 103) 3 266 10 143 3 0, none, none, a0 (.invokevirtual 187) 3 298 10 171 2 0, none, none, a3 (.ifCond .eq 9), none, none, a1 (.iconst 1), a1 (.iload_n 3), a1 (.ishl), a3 (.goto 4), none, none, a1 (.iconst 0), a1 (.ior), a1 (.istore_n 2), a3 (.iinc 3 1), none, none, a3 (.goto (-36)), none, none, a1 (.iload_n 2), a1 (.ireturn), a1 (.aload_n 0), a0 (.ldc 70) 2 256 2 0 0 (-1000001), none, a0 (.invokevirtual 76) 3 257 10 135 2 0],
  [none, none, a1 (.ireturn)]]
/-- 170: EnvyRustModel.thickNow -/
noncomputable def mk_170 : List (List (Option mEnt)) := [[a1 (.iconst 0), a1 (.istore_n 1), a1 (.iconst 0), a1 (.istore_n 2), a1 (.iload_n 2), a1 (.aload_n 0), a0 (.getfield 9) 3 229 0 4 0 0, none, none, a1 (.iconst 1), a1 (.iaload), a3 (.if_icmp .ge 18), none, none, a1 (.iload_n 1), a1 (.aload_n 0), a1 (.iload_n 2), a1 (.iconst 2), a0 (.invokevirtual 103) 3 266 10 143 3 0, none, none, a1 (.iadd), a1 (.istore_n 1), a3 (.iinc 2 1), none, none, a3 (.goto (-22)), none, none, a1 (.iload_n 1), a1 (.ireturn)]]
/-- 171: EnvyRustModel.isSomebodyAt -/
noncomputable def mk_171 : List (List (Option mEnt)) := [[a1 (.iconst 0), a1 (.istore_n 2), a1 (.iconst 0), a1 (.istore_n 3), a1 (.iload_n 3), a1 (.aload_n 0), a0 (.getfield 9) 3 229 0 4 0 0, none, none, a1 (.iconst 2), a1 (.iaload), a3 (.if_icmp .ge 29), none, none, a1 (.iload_n 2), a3 (.ifCond .ne 13), none, none, a1 (.aload_n 0), a1 (.iload_n 3), a1 (.iconst 1), a0 (.invokevirtual 109) 3 264 10 141 3 0, none, none, a1 (.iload_n 1), a3 (.if_icmp .ne 7), none, none, a1 (.iconst 1), a3 (.goto 4), none, none],
  [a1 (.iconst 0), a1 (.istore_n 2), a3 (.iinc 3 1), none, none, a3 (.goto (-33)), none, none, a1 (.iload_n 2), a1 (.ireturn)]]
/-- 172: EnvyRustModel.ahead -/
noncomputable def mk_172 : List (List (Option mEnt)) := [[a1 (.aload_n 0), a1 (.iload_n 1), a0 (.invokevirtual 131) 3 262 10 139 2 0, none, none, a3 (.ifCond .eq 22), none, none, a1 (.iload_n 2), a1 (.iconst 0), a2 (.bipush 100), none, a0 (.invokestatic 80) 3 254 12 133 3 0, none, none, a3 (.ifCond .eq 12), none, none, a1 (.aload_n 0), a1 (.iload_n 1), a1 (.iload_n 2), a0 (.invokevirtual 193) 3 300 10 173 3 0, none, none, a3 (.goto 9), none, none, a1 (.aload_n 0), a0 (.ldc 70) 2 256 2 0 0 (-1000001), none, a0 (.invokevirtual 76) 3 257 10 135 2 0, none],
  [none, a1 (.ireturn)]]
/-- 173: EnvyRustModel.thickBehind -/
noncomputable def mk_173 : List (List (Option mEnt)) := [[a1 (.aload_n 0), a0 (.getfield 9) 3 229 0 4 0 0, none, none, a1 (.aload_n 0), a0 (.getfield 16) 3 231 0 4 2 0, none, none, a0 (.invokestatic 71) 3 301 12 174 2 0, none, none, a1 (.aload_n 0), a1 (.iload_n 2), a0 (.invokevirtual 173) 3 291 10 164 2 0, none, none, a1 (.aload_n 0), a1 (.aload_n 0), a1 (.iload_n 1), a1 (.iconst 2), a0 (.invokevirtual 103) 3 266 10 143 3 0, none, none, a0 (.invokevirtual 190) 3 302 10 175 2 0, none, none, a1 (.ireturn)]]
/-- 174: EnvyRustModel.copyRow -/
noncomputable def mk_174 : List (List (Option mEnt)) := [[a1 (.iconst 0), a1 (.istore_n 2), a1 (.iload_n 2), a2 (.bipush 118), none, a3 (.if_icmp .ge 15), none, none, a1 (.aload_n 1), a1 (.iload_n 2), a1 (.aload_n 0), a1 (.iload_n 2), a1 (.iaload), a1 (.iastore), a3 (.iinc 2 1), none, none, a3 (.goto (-15)), none, none, a1 (.return_)]]
/-- 175: EnvyRustModel.putBack -/
noncomputable def mk_175 : List (List (Option mEnt)) := [[a1 (.aload_n 0), a0 (.getfield 16) 3 231 0 4 2 0, none, none, a1 (.aload_n 0), a0 (.getfield 9) 3 229 0 4 0 0, none, none, a0 (.invokestatic 71) 3 301 12 174 2 0, none, none, a1 (.iload_n 1), a1 (.ireturn)]]
/-- 176: EnvyRustModel.lasts -/
noncomputable def mk_176 : List (List (Option mEnt)) := [[a1 (.aload_n 0), a1 (.iload_n 1), a0 (.invokevirtual 131) 3 262 10 139 2 0, none, none, a3 (.ifCond .ne 10), none, none, a1 (.aload_n 0), a0 (.ldc 70) 2 256 2 0 0 (-1000001), none, a0 (.invokevirtual 76) 3 257 10 135 2 0, none, none, a1 (.ireturn), a1 (.aload_n 0), a0 (.getfield 9) 3 229 0 4 0 0, none, none, a1 (.aload_n 0), a0 (.getfield 16) 3 231 0 4 2 0, none, none, a0 (.invokestatic 71) 3 301 12 174 2 0, none, none, a1 (.iconst 0), a1 (.istore_n 2), a1 (.iload_n 2), a2 (.bipush 100), none, a3 (.if_icmp .ge 21)],
  [none, none, a1 (.aload_n 0), a1 (.iload_n 1), a0 (.invokevirtual 106) 3 269 10 146 2 0, none, none, a3 (.ifCond .ne 13), none, none, a1 (.aload_n 0), a0 (.invokevirtual 169) 3 292 10 165 1 0, none, none, a3 (.iinc 2 1), none, none, a3 (.goto (-21)), none, none, a1 (.aload_n 0), a1 (.aload_n 0), a1 (.aload_n 0), a1 (.iload_n 1), a0 (.invokevirtual 106) 3 269 10 146 2 0, none, none, a3 (.ifCond .eq 7), none, none, a1 (.iload_n 2), a3 (.goto 4)],
  [none, none, a1 (.iconst (-1)), a0 (.invokevirtual 190) 3 302 10 175 2 0, none, none, a0 (.invokevirtual 196) 3 304 10 177 2 0, none, none, a1 (.ireturn)]]
/-- 177: EnvyRustModel.orNone -/
noncomputable def mk_177 : List (List (Option mEnt)) := [[a1 (.iload_n 1), a3 (.ifCond .ge 12), none, none, a1 (.aload_n 0), a0 (.ldc 75) 2 305 2 0 0 (-1000004), none, a0 (.invokevirtual 76) 3 257 10 135 2 0, none, none, a3 (.goto 4), none, none, a1 (.iload_n 1), a1 (.ireturn)]]
/-- 178: EnvyRustModel.gone -/
noncomputable def mk_178 : List (List (Option mEnt)) := [[a1 (.iload_n 1), a1 (.iconst 0), a2 (.bipush 100), none, a0 (.invokestatic 80) 3 254 12 133 3 0, none, none, a3 (.ifCond .ne 10), none, none, a1 (.aload_n 0), a0 (.ldc 70) 2 256 2 0 0 (-1000001), none, a0 (.invokevirtual 76) 3 257 10 135 2 0, none, none, a1 (.ireturn), a1 (.aload_n 0), a0 (.getfield 9) 3 229 0 4 0 0, none, none, a1 (.aload_n 0), a0 (.getfield 16) 3 231 0 4 2 0, none, none, a0 (.invokestatic 71) 3 301 12 174 2 0, none, none, a1 (.aload_n 0), a1 (.iload_n 1), a0 (.invokevirtual 173) 3 291 10 164 2 0, none],
  [none, a1 (.aload_n 0), a1 (.aload_n 0), a0 (.invokevirtual 177) 3 294 10 167 1 0, none, none, a0 (.invokevirtual 190) 3 302 10 175 2 0, none, none, a1 (.ireturn)]]
/-- 179: EnvyRustModel.worn -/
noncomputable def mk_179 : List (List (Option mEnt)) := [[a1 (.iload_n 1), a1 (.iconst 0), a2 (.bipush 100), none, a0 (.invokestatic 80) 3 254 12 133 3 0, none, none, a3 (.ifCond .eq 11), none, none, a1 (.aload_n 0), a1 (.iload_n 1), a0 (.invokevirtual 199) 3 308 10 180 2 0, none, none, a3 (.goto 9), none, none, a1 (.aload_n 0), a0 (.ldc 70) 2 256 2 0 0 (-1000001), none, a0 (.invokevirtual 76) 3 257 10 135 2 0, none, none, a1 (.ireturn)]]
/-- 180: EnvyRustModel.lostIn -/
noncomputable def mk_180 : List (List (Option mEnt)) := [[a1 (.aload_n 0), a0 (.invokevirtual 184) 3 297 10 170 1 0, none, none, a1 (.istore_n 2), a1 (.aload_n 0), a0 (.getfield 9) 3 229 0 4 0 0, none, none, a1 (.aload_n 0), a0 (.getfield 16) 3 231 0 4 2 0, none, none, a0 (.invokestatic 71) 3 301 12 174 2 0, none, none, a1 (.aload_n 0), a1 (.iload_n 1), a0 (.invokevirtual 173) 3 291 10 164 2 0, none, none, a1 (.aload_n 0), a1 (.iload_n 2), a1 (.aload_n 0), a0 (.invokevirtual 184) 3 297 10 170 1 0, none, none, a1 (.isub), a0 (.invokevirtual 190) 3 302 10 175 2 0, none, none, a1 (.ireturn)]]
/-- 181: EnvyRustModel.sees -/
noncomputable def mk_181 : List (List (Option mEnt)) := [[a1 (.aload_n 0), a1 (.iload_n 1), a0 (.invokevirtual 143) 3 278 10 153 2 0, none, none, a3 (.ifCond .eq 11), none, none, a1 (.aload_n 0), a1 (.iload_n 2), a0 (.invokevirtual 131) 3 262 10 139 2 0, none, none, a3 (.ifCond .ne 10), none, none, a1 (.aload_n 0), a0 (.ldc 70) 2 256 2 0 0 (-1000001), none, a0 (.invokevirtual 76) 3 257 10 135 2 0, none, none, a1 (.ireturn), a1 (.aload_n 0), a1 (.iload_n 1), a1 (.iconst 1), a0 (.invokevirtual 109) 3 264 10 141 3 0, none, none, a1 (.istore_n 3), a1 (.iconst 0), a2 (.istore 4)],
  [none, a2 (.iload 4), none, a2 (.bipush 16), none, a3 (.if_icmp .ge 31), none, none, a1 (.iload_n 3), a1 (.aload_n 0), a1 (.iload_n 2), a1 (.iconst 1), a0 (.invokevirtual 103) 3 266 10 143 3 0, none, none, a3 (.if_icmp .eq 21), none, none, a1 (.iload_n 3), a1 (.aload_n 0), a1 (.iload_n 1), a1 (.iconst 2), a0 (.invokevirtual 109) 3 264 10 141 3 0, none, none, a1 (.iadd), a2 (.bipush 16), none, a1 (.irem), a1 (.istore_n 3), a3 (.iinc 4 1), none],
  [none, a3 (.goto (-32)), none, none, a2 (.iload 4), none, a2 (.bipush 16), none, a3 (.if_icmp .ge 8), none, none, a2 (.iload 4), none, a3 (.goto 9), none, none, a1 (.aload_n 0), a0 (.ldc 75) 2 305 2 0 0 (-1000004), none, a0 (.invokevirtual 76) 3 257 10 135 2 0, none, none, a1 (.ireturn)]]
/-- 182: EnvyRustModel.kindFor -/
noncomputable def mk_182 : List (List (Option mEnt)) := [[a1 (.aload_n 0), a1 (.iload_n 1), a0 (.invokevirtual 143) 3 278 10 153 2 0, none, none, a3 (.ifCond .eq 28), none, none, a1 (.iload_n 2), a1 (.iconst 0), a2 (.bipush 60), none, a0 (.invokestatic 80) 3 254 12 133 3 0, none, none, a3 (.ifCond .eq 18), none, none, a1 (.aload_n 0), a1 (.iload_n 1), a1 (.iconst 0), a0 (.invokestatic 88) 3 265 12 142 2 0, none, none, a2 (.bipush 7), none, a1 (.iload_n 2), a0 (.invokevirtual 205) 3 311 10 183 4 0, none, none, a3 (.goto 9), none],
  [none, a1 (.aload_n 0), a0 (.ldc 70) 2 256 2 0 0 (-1000001), none, a0 (.invokevirtual 76) 3 257 10 135 2 0, none, none, a1 (.ireturn)]]
/-- 183: EnvyRustModel.leastLoss -/
noncomputable def mk_183 : List (List (Option mEnt)) := [[a1 (.aload_n 0), a0 (.getfield 9) 3 229 0 4 0 0, none, none, a1 (.iload_n 1), a1 (.iaload), a2 (.istore 4), none, a1 (.iconst 0), a2 (.istore 5), none, a0 (.ldc 204) 2 312 2 0 0 2147483647, none, a2 (.istore 6), none, a1 (.iconst 0), a2 (.istore 7), none, a2 (.iload 7), none, a1 (.iload_n 2), a3 (.if_icmp .ge 49), none, none, a1 (.aload_n 0), a0 (.getfield 9) 3 229 0 4 0 0, none, none, a1 (.iload_n 1), a2 (.iload 7), none, a1 (.iastore)],
  [a1 (.aload_n 0), a1 (.iload_n 3), a0 (.invokevirtual 199) 3 308 10 180 2 0, none, none, a2 (.istore 8), none, a2 (.iload 8), none, a2 (.iload 6), none, a3 (.if_icmp .ge 8), none, none, a2 (.iload 7), none, a3 (.goto 5), none, none, a2 (.iload 5), none, a2 (.istore 5), none, a2 (.iload 6), none, a2 (.iload 8), none, a0 (.invokestatic 128) 3 273 25 0 0 0, none, none, a2 (.istore 6), none],
  [a3 (.iinc 7 1), none, none, a3 (.goto (-49)), none, none, a1 (.aload_n 0), a0 (.getfield 9) 3 229 0 4 0 0, none, none, a1 (.iload_n 1), a2 (.iload 4), none, a1 (.iastore), a2 (.iload 5), none, a1 (.ireturn)]]
/-- 184: EnvyRustModel.walkFor -/
noncomputable def mk_184 : List (List (Option mEnt)) := [[a1 (.aload_n 0), a1 (.iload_n 1), a0 (.invokevirtual 143) 3 278 10 153 2 0, none, none, a3 (.ifCond .eq 28), none, none, a1 (.iload_n 2), a1 (.iconst 0), a2 (.bipush 60), none, a0 (.invokestatic 80) 3 254 12 133 3 0, none, none, a3 (.ifCond .eq 18), none, none, a1 (.aload_n 0), a1 (.iload_n 1), a1 (.iconst 2), a0 (.invokestatic 88) 3 265 12 142 2 0, none, none, a2 (.bipush 16), none, a1 (.iload_n 2), a0 (.invokevirtual 205) 3 311 10 183 4 0, none, none, a3 (.goto 9), none],
  [none, a1 (.aload_n 0), a0 (.ldc 70) 2 256 2 0 0 (-1000001), none, a0 (.invokevirtual 76) 3 257 10 135 2 0, none, none, a1 (.ireturn)]]
/-- 185: EnvyRustModel.placeFor -/
noncomputable def mk_185 : List (List (Option mEnt)) := [[a1 (.aload_n 0), a1 (.iload_n 1), a0 (.invokevirtual 131) 3 262 10 139 2 0, none, none, a3 (.ifCond .eq 29), none, none, a1 (.iload_n 2), a1 (.iconst 0), a2 (.bipush 60), none, a0 (.invokestatic 80) 3 254 12 133 3 0, none, none, a3 (.ifCond .eq 19), none, none, a1 (.aload_n 0), a1 (.iload_n 1), a1 (.iload_n 1), a1 (.iconst 1), a0 (.invokestatic 84) 3 260 12 137 2 0, none, none, a2 (.bipush 16), none, a1 (.iload_n 2), a0 (.invokevirtual 208) 3 315 10 186 5 0, none, none, a3 (.goto 9)],
  [none, none, a1 (.aload_n 0), a0 (.ldc 70) 2 256 2 0 0 (-1000001), none, a0 (.invokevirtual 76) 3 257 10 135 2 0, none, none, a1 (.ireturn)]]
/-- 186: EnvyRustModel.thickest -/
noncomputable def mk_186 : List (List (Option mEnt)) := [[a1 (.aload_n 0), a0 (.getfield 9) 3 229 0 4 0 0, none, none, a1 (.iload_n 2), a1 (.iaload), a2 (.istore 5), none, a1 (.iconst (-1)), a2 (.istore 6), none, a1 (.iconst (-1)), a2 (.istore 7), none, a1 (.iconst 0), a2 (.istore 8), none, a2 (.iload 8), none, a1 (.iload_n 3), a3 (.if_icmp .ge 51), none, none, a1 (.aload_n 0), a0 (.getfield 9) 3 229 0 4 0 0, none, none, a1 (.iload_n 2), a2 (.iload 8), none, a1 (.iastore), a1 (.aload_n 0)],
  [a1 (.iload_n 1), a2 (.iload 4), none, a0 (.invokevirtual 193) 3 300 10 173 3 0, none, none, a2 (.istore 9), none, a2 (.iload 9), none, a2 (.iload 7), none, a3 (.if_icmp .le 8), none, none, a2 (.iload 8), none, a3 (.goto 5), none, none, a2 (.iload 6), none, a2 (.istore 6), none, a2 (.iload 7), none, a2 (.iload 9), none, a0 (.invokestatic 116) 3 272 24 0 0 0, none, none, a2 (.istore 7)],
  [none, a3 (.iinc 8 1), none, none, a3 (.goto (-51)), none, none, a1 (.aload_n 0), a0 (.getfield 9) 3 229 0 4 0 0, none, none, a1 (.iload_n 2), a2 (.iload 5), none, a1 (.iastore), a2 (.iload 6), none, a1 (.ireturn)]]
/-- 187: EnvyRustModel.ownerFor -/
noncomputable def mk_187 : List (List (Option mEnt)) := [[a1 (.aload_n 0), a1 (.iload_n 1), a0 (.invokevirtual 131) 3 262 10 139 2 0, none, none, a3 (.ifCond .eq 37), none, none, a1 (.iload_n 2), a1 (.iconst 0), a2 (.bipush 60), none, a0 (.invokestatic 80) 3 254 12 133 3 0, none, none, a3 (.ifCond .eq 27), none, none, a1 (.aload_n 0), a1 (.aload_n 0), a1 (.iload_n 1), a1 (.iload_n 1), a1 (.iconst 4), a0 (.invokestatic 84) 3 260 12 137 2 0, none, none, a1 (.aload_n 0), a0 (.getfield 9) 3 229 0 4 0 0, none, none, a1 (.iconst 2), a1 (.iaload)],
  [a1 (.iload_n 2), a0 (.invokevirtual 208) 3 315 10 186 5 0, none, none, a0 (.invokevirtual 196) 3 304 10 177 2 0, none, none, a3 (.goto 9), none, none, a1 (.aload_n 0), a0 (.ldc 70) 2 256 2 0 0 (-1000001), none, a0 (.invokevirtual 76) 3 257 10 135 2 0, none, none, a1 (.ireturn)]]
/-- 188: EnvyRustModel.worst -/
noncomputable def mk_188 : List (List (Option mEnt)) := [[a1 (.iload_n 1), a1 (.iconst 0), a2 (.bipush 60), none, a0 (.invokestatic 80) 3 254 12 133 3 0, none, none, a3 (.ifCond .ne 10), none, none, a1 (.aload_n 0), a0 (.ldc 70) 2 256 2 0 0 (-1000001), none, a0 (.invokevirtual 76) 3 257 10 135 2 0, none, none, a1 (.ireturn), a1 (.iconst (-1)), a1 (.istore_n 2), a0 (.ldc 204) 2 312 2 0 0 2147483647, none, a1 (.istore_n 3), a1 (.iconst 0), a2 (.istore 4), none, a2 (.iload 4), none, a1 (.aload_n 0), a0 (.getfield 9) 3 229 0 4 0 0, none, none, a1 (.iconst 2)],
  [a1 (.iaload), a3 (.if_icmp .ge 42), none, none, a1 (.aload_n 0), a2 (.iload 4), none, a0 (.putfield 25) 3 235 0 4 6 0, none, none, a1 (.aload_n 0), a1 (.iload_n 1), a0 (.invokevirtual 199) 3 308 10 180 2 0, none, none, a2 (.istore 5), none, a2 (.iload 5), none, a1 (.iload_n 3), a3 (.if_icmp .ge 8), none, none, a2 (.iload 4), none, a3 (.goto 4), none, none, a1 (.iload_n 2), a1 (.istore_n 2), a1 (.iload_n 3), a2 (.iload 5)],
  [none, a0 (.invokestatic 128) 3 273 25 0 0 0, none, none, a1 (.istore_n 3), a3 (.iinc 4 1), none, none, a3 (.goto (-47)), none, none, a1 (.aload_n 0), a1 (.iconst (-1)), a0 (.putfield 25) 3 235 0 4 6 0, none, none, a1 (.aload_n 0), a1 (.iload_n 2), a0 (.invokevirtual 196) 3 304 10 177 2 0, none, none, a1 (.ireturn)]]
/-- 189: EnvyRustModel.paint -/
noncomputable def mk_189 : List (List (Option mEnt)) := [[a1 (.iload_n 1), a1 (.iconst 0), a2 (.bipush 8), none, a0 (.invokestatic 80) 3 254 12 133 3 0, none, none, a3 (.ifCond .eq 13), none, none, a1 (.iload_n 2), a1 (.iconst 0), a2 (.bipush 60), none, a0 (.invokestatic 80) 3 254 12 133 3 0, none, none, a3 (.ifCond .ne 10), none, none, a1 (.aload_n 0), a0 (.ldc 70) 2 256 2 0 0 (-1000001), none, a0 (.invokevirtual 76) 3 257 10 135 2 0, none, none, a1 (.ireturn), a1 (.iload_n 1), a1 (.aload_n 0), a0 (.getfield 9) 3 229 0 4 0 0, none, none],
  [a1 (.iconst 1), a1 (.iaload), a0 (.invokestatic 128) 3 273 25 0 0 0, none, none, a1 (.istore_n 3), a1 (.iconst 0), a2 (.istore 4), none, a0 (.ldc 204) 2 312 2 0 0 2147483647, none, a2 (.istore 5), none, a1 (.iconst 0), a2 (.istore 6), none, a2 (.iload 6), none, a1 (.iconst 1), a1 (.aload_n 0), a0 (.getfield 9) 3 229 0 4 0 0, none, none, a1 (.iconst 1), a1 (.iaload), a1 (.ishl), a3 (.if_icmp .ge 57), none, none, a2 (.iload 6), none, a0 (.invokestatic 181) 3 295 12 168 1 0],
  [none, none, a1 (.iload_n 3), a3 (.if_icmp .ne 13), none, none, a1 (.aload_n 0), a2 (.iload 6), none, a1 (.iload_n 2), a0 (.invokevirtual 215) 3 319 10 190 3 0, none, none, a3 (.goto 5), none, none, a0 (.ldc 204) 2 312 2 0 0 2147483647, none, a2 (.istore 7), none, a2 (.iload 7), none, a2 (.iload 5), none, a3 (.if_icmp .ge 8), none, none, a2 (.iload 6), none, a3 (.goto 5), none, none],
  [a2 (.iload 4), none, a2 (.istore 4), none, a2 (.iload 5), none, a2 (.iload 7), none, a0 (.invokestatic 128) 3 273 25 0 0 0, none, none, a2 (.istore 5), none, a3 (.iinc 6 1), none, none, a3 (.goto (-64)), none, none, a2 (.iload 4), none, a1 (.ireturn)]]
/-- 190: EnvyRustModel.lostPainted -/
noncomputable def mk_190 : List (List (Option mEnt)) := [[a1 (.iconst 0), a1 (.istore_n 3), a1 (.iload_n 3), a1 (.aload_n 0), a0 (.getfield 9) 3 229 0 4 0 0, none, none, a1 (.iconst 1), a1 (.iaload), a3 (.if_icmp .ge 50), none, none, a1 (.aload_n 0), a0 (.getfield 29) 3 236 0 4 7 0, none, none, a1 (.iload_n 3), a1 (.aload_n 0), a1 (.iload_n 3), a1 (.iconst 3), a0 (.invokevirtual 103) 3 266 10 143 3 0, none, none, a1 (.iastore), a1 (.aload_n 0), a0 (.getfield 9) 3 229 0 4 0 0, none, none, a1 (.iload_n 3), a1 (.iconst 3), a0 (.invokestatic 84) 3 260 12 137 2 0, none],
  [none, a1 (.iload_n 1), a1 (.iload_n 3), a0 (.invokestatic 212) 3 320 12 191 2 0, none, none, a3 (.ifCond .eq 8), none, none, a2 (.bipush 9), none, a3 (.goto 9), none, none, a1 (.aload_n 0), a0 (.getfield 29) 3 236 0 4 7 0, none, none, a1 (.iload_n 3), a1 (.iaload), a1 (.iastore), a3 (.iinc 3 1), none, none, a3 (.goto (-54)), none, none, a1 (.aload_n 0), a1 (.iload_n 2), a0 (.invokevirtual 199) 3 308 10 180 2 0, none, none],
  [a1 (.istore_n 3), a1 (.iconst 0), a2 (.istore 4), none, a2 (.iload 4), none, a1 (.aload_n 0), a0 (.getfield 9) 3 229 0 4 0 0, none, none, a1 (.iconst 1), a1 (.iaload), a3 (.if_icmp .ge 27), none, none, a1 (.aload_n 0), a0 (.getfield 9) 3 229 0 4 0 0, none, none, a2 (.iload 4), none, a1 (.iconst 3), a0 (.invokestatic 84) 3 260 12 137 2 0, none, none, a1 (.aload_n 0), a0 (.getfield 29) 3 236 0 4 7 0, none, none, a2 (.iload 4), none, a1 (.iaload)],
  [a1 (.iastore), a3 (.iinc 4 1), none, none, a3 (.goto (-32)), none, none, a1 (.iload_n 3), a1 (.ireturn)]]
/-- 191: EnvyRustModel.has -/
noncomputable def mk_191 : List (List (Option mEnt)) := [[a1 (.iload_n 0), a1 (.iload_n 1), a1 (.ishr), a1 (.iconst 1), a1 (.iand), a1 (.iconst 1), a3 (.if_icmp .ne 7), none, none, a1 (.iconst 1), a3 (.goto 4), none, none, a1 (.iconst 0), a1 (.ireturn)]]
/-- 192: EnvyRustModel.needs -/
noncomputable def mk_192 : List (List (Option mEnt)) := [[a1 (.aload_n 0), a1 (.iload_n 1), a0 (.invokevirtual 131) 3 262 10 139 2 0, none, none, a3 (.ifCond .eq 13), none, none, a1 (.iload_n 2), a1 (.iconst 0), a2 (.bipush 60), none, a0 (.invokestatic 80) 3 254 12 133 3 0, none, none, a3 (.ifCond .ne 10), none, none, a1 (.aload_n 0), a0 (.ldc 70) 2 256 2 0 0 (-1000001), none, a0 (.invokevirtual 76) 3 257 10 135 2 0, none, none, a1 (.ireturn), a1 (.aload_n 0), a1 (.iload_n 1), a1 (.iconst 3), a0 (.invokevirtual 103) 3 266 10 143 3 0, none, none, a1 (.istore_n 3)],
  [a1 (.iconst (-1)), a2 (.istore 4), none, a2 (.bipush 9), none, a2 (.istore 5), none, a2 (.iload 5), none, a3 (.ifCond .lt 39), none, none, a1 (.aload_n 0), a0 (.getfield 9) 3 229 0 4 0 0, none, none, a1 (.iload_n 1), a1 (.iconst 3), a0 (.invokestatic 84) 3 260 12 137 2 0, none, none, a2 (.iload 5), none, a1 (.iastore), a1 (.aload_n 0), a1 (.iload_n 1), a1 (.iload_n 2), a0 (.invokevirtual 193) 3 300 10 173 3 0, none, none, a3 (.ifCond .le 8), none],
  [none, a2 (.iload 5), none, a3 (.goto 5), none, none, a2 (.iload 4), none, a2 (.istore 4), none, a3 (.iinc 5 (-1)), none, none, a3 (.goto (-38)), none, none, a1 (.aload_n 0), a0 (.getfield 9) 3 229 0 4 0 0, none, none, a1 (.iload_n 1), a1 (.iconst 3), a0 (.invokestatic 84) 3 260 12 137 2 0, none, none, a1 (.iload_n 3), a1 (.iastore), a1 (.aload_n 0), a2 (.iload 4), none, a0 (.invokevirtual 196) 3 304 10 177 2 0, none],
  [none, a1 (.ireturn)]]
/-- 193: EnvyRustModel.fallsWith -/
noncomputable def mk_193 : List (List (Option mEnt)) := [[a1 (.aload_n 0), a1 (.iload_n 1), a0 (.invokevirtual 131) 3 262 10 139 2 0, none, none, a3 (.ifCond .eq 11), none, none, a1 (.aload_n 0), a1 (.iload_n 1), a0 (.invokevirtual 218) 3 323 10 194 2 0, none, none, a3 (.goto 9), none, none, a1 (.aload_n 0), a0 (.ldc 70) 2 256 2 0 0 (-1000001), none, a0 (.invokevirtual 76) 3 257 10 135 2 0, none, none, a1 (.ireturn)]]
/-- 194: EnvyRustModel.fallWith -/
noncomputable def mk_194 : List (List (Option mEnt)) := [[a1 (.iconst 0), a1 (.istore_n 2), a1 (.iconst 0), a1 (.istore_n 3), a1 (.iload_n 3), a1 (.aload_n 0), a0 (.getfield 9) 3 229 0 4 0 0, none, none, a1 (.iconst 1), a1 (.iaload), a3 (.if_icmp .ge 28), none, none, a1 (.iload_n 2), a1 (.aload_n 0), a1 (.iload_n 3), a1 (.iload_n 1), a0 (.invokevirtual 149) 3 279 10 154 3 0, none, none, a3 (.ifCond .eq 9), none, none, a1 (.iconst 1), a1 (.iload_n 3), a1 (.ishl), a3 (.goto 4), none, none, a1 (.iconst 0), a1 (.ior)],
  [a1 (.istore_n 2), a3 (.iinc 3 1), none, none, a3 (.goto (-32)), none, none, a1 (.iload_n 2), a1 (.ireturn)]]
/-- 195: EnvyRustModel.depth -/
noncomputable def mk_195 : List (List (Option mEnt)) := [[a1 (.aload_n 0), a1 (.iload_n 1), a0 (.invokevirtual 131) 3 262 10 139 2 0, none, none, a3 (.ifCond .ne 10), none, none, a1 (.aload_n 0), a0 (.ldc 70) 2 256 2 0 0 (-1000001), none, a0 (.invokevirtual 76) 3 257 10 135 2 0, none, none, a1 (.ireturn), a1 (.iconst 0), a1 (.istore_n 2), a1 (.aload_n 0), a1 (.iload_n 1), a1 (.iconst 5), a0 (.invokevirtual 103) 3 266 10 143 3 0, none, none, a1 (.istore_n 3), a1 (.iload_n 3), a3 (.ifCond .lt 16), none, none, a3 (.iinc 2 1), none, none, a1 (.aload_n 0)],
  [a1 (.iload_n 3), a1 (.iconst 5), a0 (.invokevirtual 103) 3 266 10 143 3 0, none, none, a1 (.istore_n 3), a3 (.goto (-14)), none, none, a1 (.iload_n 2), a1 (.ireturn)]]
/-- 196: EnvyRustModel.keystone -/
noncomputable def mk_196 : List (List (Option mEnt)) := [[a1 (.iconst (-1)), a1 (.istore_n 1), a1 (.iconst 0), a1 (.istore_n 2), a1 (.iconst 0), a1 (.istore_n 3), a1 (.iload_n 3), a1 (.aload_n 0), a0 (.getfield 9) 3 229 0 4 0 0, none, none, a1 (.iconst 1), a1 (.iaload), a3 (.if_icmp .ge 38), none, none, a1 (.aload_n 0), a1 (.iload_n 3), a0 (.invokevirtual 218) 3 323 10 194 2 0, none, none, a0 (.invokestatic 181) 3 295 12 168 1 0, none, none, a2 (.istore 4), none, a2 (.iload 4), none, a1 (.iload_n 2), a3 (.if_icmp .le 7), none, none],
  [a1 (.iload_n 3), a3 (.goto 4), none, none, a1 (.iload_n 1), a1 (.istore_n 1), a1 (.iload_n 2), a2 (.iload 4), none, a0 (.invokestatic 116) 3 272 24 0 0 0, none, none, a1 (.istore_n 2), a3 (.iinc 3 1), none, none, a3 (.goto (-42)), none, none, a1 (.aload_n 0), a1 (.iload_n 1), a0 (.invokevirtual 196) 3 304 10 177 2 0, none, none, a1 (.ireturn)]]
/-- 197: EnvyRustModel.fells -/
noncomputable def mk_197 : List (List (Option mEnt)) := [[a1 (.iconst 0), a1 (.istore_n 1), a1 (.iconst 0), a1 (.istore_n 2), a1 (.iload_n 2), a1 (.aload_n 0), a0 (.getfield 9) 3 229 0 4 0 0, none, none, a1 (.iconst 1), a1 (.iaload), a3 (.if_icmp .ge 28), none, none, a1 (.iload_n 1), a1 (.aload_n 0), a1 (.iload_n 2), a1 (.iconst 5), a0 (.invokevirtual 103) 3 266 10 143 3 0, none, none, a3 (.ifCond .ge 9), none, none, a1 (.iconst 1), a1 (.iload_n 2), a1 (.ishl), a3 (.goto 4), none, none, a1 (.iconst 0), a1 (.ior)],
  [a1 (.istore_n 1), a3 (.iinc 2 1), none, none, a3 (.goto (-32)), none, none, a1 (.iload_n 1), a1 (.ireturn)]]
/-- 198: EnvyRustModel.worth -/
noncomputable def mk_198 : List (List (Option mEnt)) := [[a1 (.aload_n 0), a1 (.iload_n 1), a0 (.invokevirtual 143) 3 278 10 153 2 0, none, none, a3 (.ifCond .eq 20), none, none, a1 (.aload_n 0), a1 (.iload_n 2), a0 (.invokevirtual 221) 3 328 10 199 2 0, none, none, a3 (.ifCond .eq 12), none, none, a1 (.aload_n 0), a1 (.iload_n 1), a1 (.iload_n 2), a0 (.invokevirtual 224) 3 329 10 200 3 0, none, none, a3 (.goto 9), none, none, a1 (.aload_n 0), a0 (.ldc 70) 2 256 2 0 0 (-1000001), none, a0 (.invokevirtual 76) 3 257 10 135 2 0, none, none, a1 (.ireturn)]]
/-- 199: EnvyRustModel.areThings -/
noncomputable def mk_199 : List (List (Option mEnt)) := [[a1 (.iload_n 1), a1 (.iconst 0), a1 (.iconst 1), a1 (.aload_n 0), a0 (.getfield 9) 3 229 0 4 0 0, none, none, a1 (.iconst 1), a1 (.iaload), a1 (.ishl), a1 (.iconst 1), a1 (.isub), a0 (.invokestatic 80) 3 254 12 133 3 0, none, none, a1 (.ireturn)]]
/-- 200: EnvyRustModel.worthOf -/
noncomputable def mk_200 : List (List (Option mEnt)) := [[a1 (.iconst 0), a1 (.istore_n 3), a1 (.iconst 0), a2 (.istore 4), none, a2 (.iload 4), none, a1 (.aload_n 0), a0 (.getfield 9) 3 229 0 4 0 0, none, none, a1 (.iconst 1), a1 (.iaload), a3 (.if_icmp .ge 33), none, none, a1 (.iload_n 3), a1 (.iload_n 2), a2 (.iload 4), none, a0 (.invokestatic 212) 3 320 12 191 2 0, none, none, a3 (.ifCond .eq 14), none, none, a1 (.aload_n 0), a1 (.iload_n 1), a2 (.iload 4), none, a1 (.iconst (-1)), a0 (.invokevirtual 121) 3 268 10 145 4 0],
  [none, none, a3 (.goto 4), none, none, a1 (.iconst 0), a1 (.iadd), a1 (.istore_n 3), a3 (.iinc 4 1), none, none, a3 (.goto (-38)), none, none, a1 (.iload_n 3), a1 (.ireturn)]]
/-- 201: EnvyRustModel.deal -/
noncomputable def mk_201 : List (List (Option mEnt)) := [[a1 (.aload_n 0), a1 (.iload_n 1), a1 (.iload_n 2), a1 (.iload_n 3), a0 (.invokevirtual 231) 3 331 10 202 4 0, none, none, a3 (.ifCond .ne 10), none, none, a1 (.aload_n 0), a0 (.ldc 70) 2 256 2 0 0 (-1000001), none, a0 (.invokevirtual 76) 3 257 10 135 2 0, none, none, a1 (.ireturn), a1 (.iconst (-1)), a2 (.istore 4), none, a1 (.iload_n 3), a2 (.istore 5), none, a2 (.iload 5), none, a3 (.ifCond .lt 44), none, none, a2 (.iload 5), none, a1 (.iload_n 3), a1 (.iconst (-1))],
  [a1 (.ixor), a1 (.iand), a3 (.ifCond .ne 25), none, none, a1 (.aload_n 0), a1 (.iload_n 1), a1 (.iload_n 2), a2 (.iload 5), none, a1 (.iload_n 3), a2 (.iload 5), none, a1 (.iconst (-1)), a1 (.ixor), a1 (.iand), a0 (.invokevirtual 227) 3 332 10 203 5 0, none, none, a3 (.ifCond .eq 8), none, none, a2 (.iload 5), none, a3 (.goto 5), none, none, a2 (.iload 4), none, a2 (.istore 4), none, a3 (.iinc 5 (-1))],
  [none, none, a3 (.goto (-43)), none, none, a1 (.aload_n 0), a2 (.iload 4), none, a0 (.invokevirtual 196) 3 304 10 177 2 0, none, none, a1 (.ireturn)]]
/-- 202: EnvyRustModel.isPair -/
noncomputable def mk_202 : List (List (Option mEnt)) := [[a1 (.aload_n 0), a1 (.iload_n 1), a0 (.invokevirtual 143) 3 278 10 153 2 0, none, none, a3 (.ifCond .eq 28), none, none, a1 (.aload_n 0), a1 (.iload_n 2), a0 (.invokevirtual 143) 3 278 10 153 2 0, none, none, a3 (.ifCond .eq 20), none, none, a1 (.iload_n 1), a1 (.iload_n 2), a3 (.if_icmp .eq 15), none, none, a1 (.aload_n 0), a1 (.iload_n 3), a0 (.invokevirtual 221) 3 328 10 199 2 0, none, none, a3 (.ifCond .eq 7), none, none, a1 (.iconst 1), a3 (.goto 4), none],
  [none, a1 (.iconst 0), a1 (.ireturn)]]
/-- 203: EnvyRustModel.isDeal -/
noncomputable def mk_203 : List (List (Option mEnt)) := [[a1 (.aload_n 0), a1 (.iload_n 1), a2 (.iload 4), none, a0 (.invokevirtual 224) 3 329 10 200 3 0, none, none, a1 (.aload_n 0), a1 (.iload_n 1), a1 (.iload_n 3), a0 (.invokevirtual 224) 3 329 10 200 3 0, none, none, a3 (.if_icmp .gt 23), none, none, a1 (.aload_n 0), a1 (.iload_n 2), a1 (.iload_n 3), a0 (.invokevirtual 224) 3 329 10 200 3 0, none, none, a1 (.aload_n 0), a1 (.iload_n 2), a2 (.iload 4), none, a0 (.invokevirtual 224) 3 329 10 200 3 0, none, none, a3 (.if_icmp .gt 7), none, none],
  [a1 (.iconst 1), a3 (.goto 4), none, none, a1 (.iconst 0), a1 (.ireturn)]]
/-- 204: EnvyRustModel.deals -/
noncomputable def mk_204 : List (List (Option mEnt)) := [[a1 (.aload_n 0), a1 (.iload_n 1), a1 (.iload_n 2), a1 (.iload_n 3), a0 (.invokevirtual 231) 3 331 10 202 4 0, none, none, a3 (.ifCond .eq 13), none, none, a1 (.aload_n 0), a1 (.iload_n 1), a1 (.iload_n 2), a1 (.iload_n 3), a0 (.invokevirtual 234) 3 334 10 205 4 0, none, none, a3 (.goto 9), none, none, a1 (.aload_n 0), a0 (.ldc 70) 2 256 2 0 0 (-1000001), none, a0 (.invokevirtual 76) 3 257 10 135 2 0, none, none, a1 (.ireturn)]]
/-- 205: EnvyRustModel.dealsOf -/
noncomputable def mk_205 : List (List (Option mEnt)) := [[a1 (.iconst 0), a2 (.istore 4), none, a1 (.iconst 0), a2 (.istore 5), none, a2 (.iload 5), none, a1 (.iload_n 3), a3 (.if_icmp .gt 45), none, none, a2 (.iload 4), none, a2 (.iload 5), none, a1 (.iload_n 3), a1 (.iconst (-1)), a1 (.ixor), a1 (.iand), a3 (.ifCond .ne 24), none, none, a1 (.aload_n 0), a1 (.iload_n 1), a1 (.iload_n 2), a2 (.iload 5), none, a1 (.iload_n 3), a2 (.iload 5), none, a1 (.iconst (-1))],
  [a1 (.ixor), a1 (.iand), a0 (.invokevirtual 227) 3 332 10 203 5 0, none, none, a3 (.ifCond .eq 7), none, none, a1 (.iconst 1), a3 (.goto 4), none, none, a1 (.iconst 0), a1 (.iadd), a2 (.istore 4), none, a3 (.iinc 5 1), none, none, a3 (.goto (-45)), none, none, a2 (.iload 4), none, a1 (.ireturn)]]
/-- 206: EnvyRustModel.lesser -/
noncomputable def mk_206 : List (List (Option mEnt)) := [[a1 (.aload_n 0), a1 (.iload_n 1), a1 (.iload_n 2), a1 (.iload_n 3), a0 (.invokevirtual 231) 3 331 10 202 4 0, none, none, a3 (.ifCond .ne 10), none, none, a1 (.aload_n 0), a0 (.ldc 70) 2 256 2 0 0 (-1000001), none, a0 (.invokevirtual 76) 3 257 10 135 2 0, none, none, a1 (.ireturn), a1 (.iconst 0), a2 (.istore 4), none, a1 (.iconst (-1)), a2 (.istore 5), none, a1 (.iconst 0), a2 (.istore 6), none, a2 (.iload 6), none, a1 (.iload_n 3), a3 (.if_icmp .gt 70), none, none],
  [a2 (.iload 6), none, a1 (.iload_n 3), a1 (.iconst (-1)), a1 (.ixor), a1 (.iand), a3 (.ifCond .ne 27), none, none, a1 (.aload_n 0), a1 (.iload_n 1), a2 (.iload 6), none, a0 (.invokevirtual 224) 3 329 10 200 3 0, none, none, a1 (.aload_n 0), a1 (.iload_n 2), a1 (.iload_n 3), a2 (.iload 6), none, a1 (.iconst (-1)), a1 (.ixor), a1 (.iand), a0 (.invokevirtual 224) 3 329 10 200 3 0, none, none, a0 (.invokestatic 128) 3 273 25 0 0 0, none, none, a3 (.goto 4), none],
  [none, a1 (.iconst (-1)), a2 (.istore 7), none, a2 (.iload 7), none, a2 (.iload 5), none, a3 (.if_icmp .le 8), none, none, a2 (.iload 6), none, a3 (.goto 5), none, none, a2 (.iload 4), none, a2 (.istore 4), none, a2 (.iload 5), none, a2 (.iload 7), none, a0 (.invokestatic 116) 3 272 24 0 0 0, none, none, a2 (.istore 5), none, a3 (.iinc 6 1), none, none],
  [a3 (.goto (-70)), none, none, a2 (.iload 4), none, a1 (.ireturn)]]
/-- 207: EnvyRustModel.envious -/
noncomputable def mk_207 : List (List (Option mEnt)) := [[a1 (.iconst 0), a1 (.istore_n 1), a1 (.iconst 0), a1 (.istore_n 2), a1 (.iload_n 2), a1 (.aload_n 0), a0 (.getfield 9) 3 229 0 4 0 0, none, none, a1 (.iconst 2), a1 (.iaload), a3 (.if_icmp .ge 63), none, none, a1 (.iconst 0), a1 (.istore_n 3), a1 (.iload_n 3), a1 (.aload_n 0), a0 (.getfield 9) 3 229 0 4 0 0, none, none, a1 (.iconst 2), a1 (.iaload), a3 (.if_icmp .ge 45), none, none, a1 (.iload_n 1), a1 (.iload_n 2), a1 (.iload_n 3), a3 (.if_icmp .eq 30), none, none],
  [a1 (.aload_n 0), a1 (.iload_n 2), a1 (.aload_n 0), a1 (.iload_n 3), a0 (.invokevirtual 162) 3 286 10 160 2 0, none, none, a0 (.invokevirtual 224) 3 329 10 200 3 0, none, none, a1 (.aload_n 0), a1 (.iload_n 2), a1 (.aload_n 0), a1 (.iload_n 2), a0 (.invokevirtual 162) 3 286 10 160 2 0, none, none, a0 (.invokevirtual 224) 3 329 10 200 3 0, none, none, a3 (.if_icmp .le 7), none, none, a1 (.iconst 1), a3 (.goto 4), none, none, a1 (.iconst 0), a1 (.iadd), a1 (.istore_n 1), a3 (.iinc 3 1), none],
  [none, a3 (.goto (-49)), none, none, a3 (.iinc 2 1), none, none, a3 (.goto (-67)), none, none, a1 (.iload_n 1), a1 (.ireturn)]]
/-- 208: EnvyRustModel.fits -/
noncomputable def mk_208 : List (List (Option mEnt)) := [[a1 (.aload_n 0), a1 (.iload_n 1), a0 (.invokevirtual 244) 3 338 10 209 2 0, none, none, a3 (.ifCond .eq 13), none, none, a1 (.aload_n 0), a1 (.aload_n 0), a1 (.iload_n 1), a0 (.invokevirtual 244) 3 338 10 209 2 0, none, none, a0 (.invokevirtual 76) 3 257 10 135 2 0, none, none, a1 (.ireturn), a1 (.aload_n 0), a1 (.iload_n 2), a0 (.invokevirtual 143) 3 278 10 153 2 0, none, none, a3 (.ifCond .eq 24), none, none, a1 (.aload_n 0), a1 (.iload_n 3), a0 (.invokevirtual 131) 3 262 10 139 2 0, none, none, a3 (.ifCond .eq 16)],
  [none, none, a1 (.aload_n 0), a1 (.iload_n 1), a1 (.iload_n 2), a1 (.iload_n 3), a0 (.invokevirtual 247) 3 341 10 211 4 0, none, none, a0 (.invokestatic 181) 3 295 12 168 1 0, none, none, a3 (.goto 9), none, none, a1 (.aload_n 0), a0 (.ldc 70) 2 256 2 0 0 (-1000001), none, a0 (.invokevirtual 76) 3 257 10 135 2 0, none, none, a1 (.ireturn)]]
/-- 209: EnvyRustModel.lacks -/
noncomputable def mk_209 : List (List (Option mEnt)) := [[a1 (.iload_n 1), a0 (.invokestatic 237) 3 339 12 210 1 0, none, none, a3 (.ifCond .ne 8), none, none, a0 (.ldc 70) 2 256 2 0 0 (-1000001), none, a3 (.goto 18), none, none, a1 (.aload_n 0), a0 (.getfield 58) 3 249 0 4 20 0, none, none, a1 (.iload_n 1), a1 (.iaload), a3 (.ifCond .ne 8), none, none, a0 (.ldc 240) 2 340 2 0 0 (-1000006), none, a3 (.goto 4), none, none, a1 (.iconst 0), a1 (.ireturn)]]
/-- 210: EnvyRustModel.isSheet -/
noncomputable def mk_210 : List (List (Option mEnt)) := [[a1 (.iload_n 0), a1 (.iconst 0), a1 (.iconst 3), a0 (.invokestatic 80) 3 254 12 133 3 0, none, none, a1 (.ireturn)]]
/-- 211: EnvyRustModel.fitting -/
noncomputable def mk_211 : List (List (Option mEnt)) := [[a1 (.iload_n 2), a1 (.iconst 3), a1 (.aload_n 0), a1 (.iload_n 3), a1 (.iconst 0), a0 (.invokevirtual 103) 3 266 10 143 3 0, none, none, a1 (.iadd), a0 (.invokestatic 88) 3 265 12 142 2 0, none, none, a2 (.istore 4), none, a1 (.aload_n 0), a0 (.getfield 9) 3 229 0 4 0 0, none, none, a2 (.iload 4), none, a1 (.iaload), a2 (.istore 5), none, a1 (.iconst 0), a2 (.istore 6), none, a1 (.iconst 0), a2 (.istore 7), none, a2 (.iload 7), none, a2 (.bipush 9)],
  [none, a3 (.if_icmp .gt 40), none, none, a1 (.aload_n 0), a0 (.getfield 9) 3 229 0 4 0 0, none, none, a2 (.iload 4), none, a2 (.iload 7), none, a1 (.iastore), a2 (.iload 6), none, a1 (.aload_n 0), a1 (.iload_n 1), a1 (.iload_n 3), a0 (.invokevirtual 241) 3 342 10 212 3 0, none, none, a3 (.ifCond .eq 10), none, none, a1 (.iconst 1), a2 (.iload 7), none, a1 (.ishl), a3 (.goto 4), none, none, a1 (.iconst 0)],
  [a1 (.ior), a2 (.istore 6), none, a3 (.iinc 7 1), none, none, a3 (.goto (-41)), none, none, a1 (.aload_n 0), a0 (.getfield 9) 3 229 0 4 0 0, none, none, a2 (.iload 4), none, a2 (.iload 5), none, a1 (.iastore), a2 (.iload 6), none, a1 (.ireturn)]]
/-- 212: EnvyRustModel.isWornSo -/
noncomputable def mk_212 : List (List (Option mEnt)) := [[a1 (.aload_n 0), a0 (.getfield 9) 3 229 0 4 0 0, none, none, a1 (.aload_n 0), a0 (.getfield 16) 3 231 0 4 2 0, none, none, a0 (.invokestatic 71) 3 301 12 174 2 0, none, none, a1 (.iconst 1), a1 (.istore_n 3), a1 (.iconst 0), a2 (.istore 4), none, a2 (.iload 4), none, a1 (.aload_n 0), a0 (.getfield 61) 3 250 0 4 21 0, none, none, a1 (.iload_n 1), a1 (.iaload), a3 (.if_icmp .ge 54), none, none, a1 (.iload_n 3), a3 (.ifCond .eq 50), none, none, a1 (.aload_n 0)],
  [a0 (.getfield 64) 3 251 0 4 22 0, none, none, a2 (.bipush 40), none, a1 (.iload_n 1), a1 (.imul), a2 (.iload 4), none, a1 (.iadd), a1 (.iaload), a2 (.istore 5), none, a2 (.iload 5), none, a1 (.iconst (-1)), a3 (.if_icmp .eq 14), none, none, a2 (.iload 5), none, a1 (.aload_n 0), a1 (.iload_n 2), a1 (.iconst 2), a0 (.invokevirtual 103) 3 266 10 143 3 0, none, none, a3 (.if_icmp .ne 7), none, none, a1 (.iconst 1), a3 (.goto 4)],
  [none, none, a1 (.iconst 0), a1 (.istore_n 3), a1 (.aload_n 0), a0 (.invokevirtual 169) 3 292 10 165 1 0, none, none, a3 (.iinc 4 1), none, none, a3 (.goto (-59)), none, none, a1 (.aload_n 0), a0 (.getfield 16) 3 231 0 4 2 0, none, none, a1 (.aload_n 0), a0 (.getfield 9) 3 229 0 4 0 0, none, none, a0 (.invokestatic 71) 3 301 12 174 2 0, none, none, a1 (.iload_n 3), a1 (.ireturn)]]
/-- 213: EnvyRustModel.likes -/
noncomputable def mk_213 : List (List (Option mEnt)) := [[a1 (.aload_n 0), a1 (.iload_n 1), a0 (.invokevirtual 244) 3 338 10 209 2 0, none, none, a3 (.ifCond .eq 13), none, none, a1 (.aload_n 0), a1 (.aload_n 0), a1 (.iload_n 1), a0 (.invokevirtual 244) 3 338 10 209 2 0, none, none, a0 (.invokevirtual 76) 3 257 10 135 2 0, none, none, a1 (.ireturn), a1 (.aload_n 0), a1 (.iload_n 2), a0 (.invokevirtual 143) 3 278 10 153 2 0, none, none, a3 (.ifCond .eq 11), none, none, a1 (.aload_n 0), a1 (.iload_n 3), a0 (.invokevirtual 131) 3 262 10 139 2 0, none, none, a3 (.ifCond .ne 10)],
  [none, none, a1 (.aload_n 0), a0 (.ldc 70) 2 256 2 0 0 (-1000001), none, a0 (.invokevirtual 76) 3 257 10 135 2 0, none, none, a1 (.ireturn), a1 (.aload_n 0), a1 (.iload_n 1), a1 (.iload_n 2), a1 (.iload_n 3), a0 (.invokevirtual 247) 3 341 10 211 4 0, none, none, a2 (.istore 4), none, a1 (.iconst 0), a2 (.istore 5), none, a2 (.iload 5), none, a2 (.bipush 9), none, a3 (.if_icmp .gt 19), none, none, a2 (.iload 4), none, a2 (.iload 5), none],
  [a0 (.invokestatic 212) 3 320 12 191 2 0, none, none, a3 (.ifCond .ne 9), none, none, a3 (.iinc 5 1), none, none, a3 (.goto (-20)), none, none, a2 (.iload 5), none, a2 (.bipush 9), none, a3 (.if_icmp .le 12), none, none, a1 (.aload_n 0), a0 (.ldc 75) 2 305 2 0 0 (-1000004), none, a0 (.invokevirtual 76) 3 257 10 135 2 0, none, none, a3 (.goto 5), none, none, a2 (.iload 5), none, a1 (.ireturn)]]
/-- 214: EnvyRustModel.strolls -/
noncomputable def mk_214 : List (List (Option mEnt)) := [[a1 (.iload_n 1), a1 (.iconst 1), a2 (.bipush 20), none, a0 (.invokestatic 80) 3 254 12 133 3 0, none, none, a3 (.ifCond .ne 10), none, none, a1 (.aload_n 0), a0 (.ldc 70) 2 256 2 0 0 (-1000001), none, a0 (.invokevirtual 76) 3 257 10 135 2 0, none, none, a1 (.ireturn), a1 (.aload_n 0), a0 (.getfield 9) 3 229 0 4 0 0, none, none, a1 (.iconst 0), a1 (.iaload), a1 (.iload_n 1), a1 (.iadd), a0 (.ldc 172) 2 290 2 0 0 99999, none, a3 (.if_icmp .le 10), none, none, a1 (.aload_n 0), a0 (.ldc 152) 2 280 2 0 0 (-1000005)],
  [none, a0 (.invokevirtual 76) 3 257 10 135 2 0, none, none, a1 (.ireturn), a1 (.aload_n 0), a0 (.invokevirtual 184) 3 297 10 170 1 0, none, none, a1 (.istore_n 2), a1 (.iconst 0), a1 (.istore_n 3), a1 (.iload_n 3), a1 (.iload_n 1), a3 (.if_icmp .ge 51), none, none, a1 (.iconst 0), a2 (.istore 4), none, a2 (.iload 4), none, a1 (.aload_n 0), a0 (.getfield 9) 3 229 0 4 0 0, none, none, a1 (.iconst 2), a1 (.iaload), a3 (.if_icmp .ge 27), none, none, a1 (.aload_n 0)],
  [a0 (.getfield 9) 3 229 0 4 0 0, none, none, a2 (.iload 4), none, a1 (.iconst 1), a0 (.invokestatic 88) 3 265 12 142 2 0, none, none, a1 (.aload_n 0), a0 (.invokevirtual 251) 3 345 10 215 1 0, none, none, a2 (.bipush 16), none, a1 (.irem), a1 (.iastore), a3 (.iinc 4 1), none, none, a3 (.goto (-32)), none, none, a1 (.aload_n 0), a0 (.invokevirtual 169) 3 292 10 165 1 0, none, none, a3 (.iinc 3 1), none, none, a3 (.goto (-50)), none],
  [none, a1 (.iload_n 2), a1 (.aload_n 0), a0 (.invokevirtual 184) 3 297 10 170 1 0, none, none, a1 (.isub), a1 (.ireturn)]]
/-- 215: EnvyRustModel.drawn -/
noncomputable def mk_215 : List (List (Option mEnt)) := [[a1 (.aload_n 0), a0 (.getfield 9) 3 229 0 4 0 0, none, none, a1 (.iconst 3), a1 (.aload_n 0), a0 (.getfield 9) 3 229 0 4 0 0, none, none, a1 (.iconst 3), a1 (.iaload), a0 (.ldc 250) 2 346 2 0 0 1103515245, none, a1 (.imul), a3 (.sipush 12345), none, none, a1 (.iadd), a1 (.iastore), a1 (.aload_n 0), a0 (.getfield 9) 3 229 0 4 0 0, none, none, a1 (.iconst 3), a1 (.iaload), a2 (.bipush 8), none, a1 (.iushr), a1 (.ireturn)]]
/-- 216: EnvyRustModel.odds -/
noncomputable def mk_216 : List (List (Option mEnt)) := [[a1 (.iload_n 1), a1 (.iconst 0), a2 (.bipush 14), none, a0 (.invokestatic 80) 3 254 12 133 3 0, none, none, a3 (.ifCond .eq 12), none, none, a1 (.iload_n 2), a1 (.iconst 0), a1 (.iconst 1), a0 (.invokestatic 80) 3 254 12 133 3 0, none, none, a3 (.ifCond .ne 11), none, none, a1 (.aload_n 0), a0 (.ldc 70) 2 256 2 0 0 (-1000001), none, a0 (.invokevirtual 76) 3 257 10 135 2 0, none, none, a1 (.i2l), a1 (.lreturn), a1 (.iconst 0), a1 (.istore_n 3), a1 (.iconst 0), a2 (.istore 4), none],
  [a2 (.iload 4), none, a1 (.aload_n 0), a0 (.getfield 9) 3 229 0 4 0 0, none, none, a1 (.iconst 1), a1 (.iaload), a3 (.if_icmp .ge 21), none, none, a1 (.iload_n 3), a1 (.iconst 1), a1 (.aload_n 0), a2 (.iload 4), none, a1 (.iconst 1), a0 (.invokevirtual 103) 3 266 10 143 3 0, none, none, a1 (.ishl), a1 (.ior), a1 (.istore_n 3), a3 (.iinc 4 1), none, none, a3 (.goto (-26)), none, none, a2 (.bipush 16), none, a1 (.iload_n 3)],
  [a0 (.invokestatic 181) 3 295 12 168 1 0, none, none, a1 (.isub), a2 (.istore 4), none, a2 (.bipush 16), none, a2 (.istore 5), none, a2 (.iload 4), none, a1 (.iconst 2), a1 (.irem), a3 (.ifCond .ne 25), none, none, a2 (.iload 5), none, a1 (.iconst 2), a1 (.irem), a3 (.ifCond .ne 18), none, none, a2 (.iload 4), none, a1 (.iconst 2), a1 (.idiv), a2 (.istore 4), none, a2 (.iload 5), none],
  [a1 (.iconst 2), a1 (.idiv), a2 (.istore 5), none, a3 (.goto (-26)), none, none, a1 (.lconst 1), a2 (.lstore 6), none, a1 (.iconst 0), a2 (.istore 8), none, a2 (.iload 8), none, a1 (.iload_n 1), a3 (.if_icmp .ge 27), none, none, a2 (.lload 6), none, a1 (.iload_n 2), a3 (.ifCond .ne 9), none, none, a2 (.iload 4), none, a1 (.i2l), a3 (.goto 6), none, none, a2 (.iload 5)],
  [none, a1 (.i2l), a1 (.lmul), a2 (.lstore 6), none, a3 (.iinc 8 1), none, none, a3 (.goto (-27)), none, none, a2 (.lload 6), none, a1 (.lreturn)]]
/-- 217: EnvyRustModel.seed -/
noncomputable def mk_217 : List (List (Option mEnt)) := [[a1 (.aload_n 0), a1 (.iconst 3), a1 (.iload_n 1), a0 (.invokevirtual 153) 3 281 10 155 3 0, none, none, a1 (.ireturn)]]
/-- 218: EnvyRustModel.feed -/
noncomputable def mk_218 : List (List (Option mEnt)) := [[a1 (.iload_n 2), a1 (.iconst 1), a1 (.iconst 4), a0 (.invokestatic 80) 3 254 12 133 3 0, none, none, a3 (.ifCond .ne 10), none, none, a1 (.aload_n 0), a0 (.ldc 70) 2 256 2 0 0 (-1000001), none, a0 (.invokevirtual 76) 3 257 10 135 2 0, none, none, a1 (.ireturn), a1 (.aload_n 0), a0 (.getfield 254) 3 238 0 4 9 0, none, none, a1 (.iload_n 2), a1 (.iadd), a2 (.bipush 120), none, a3 (.if_icmp .le 10), none, none, a1 (.aload_n 0), a0 (.ldc 95) 2 258 2 0 0 (-1000002), none, a0 (.invokevirtual 76) 3 257 10 135 2 0, none],
  [none, a1 (.ireturn), a1 (.iload_n 2), a1 (.iconst 1), a1 (.isub), a1 (.istore_n 3), a1 (.iload_n 3), a3 (.ifCond .lt 38), none, none, a1 (.aload_n 0), a0 (.getfield 32) 3 237 0 4 8 0, none, none, a1 (.aload_n 0), a0 (.getfield 254) 3 238 0 4 9 0, none, none, a1 (.iload_n 1), a2 (.bipush 8), none, a1 (.iload_n 3), a1 (.imul), a1 (.ishr), a3 (.sipush 255), none, none, a1 (.iand), a1 (.iastore), a1 (.aload_n 0), a1 (.dup), a0 (.getfield 254) 3 238 0 4 9 0],
  [none, none, a1 (.iconst 1), a1 (.iadd), a0 (.putfield 254) 3 238 0 4 9 0, none, none, a3 (.iinc 3 (-1)), none, none, a3 (.goto (-36)), none, none, a1 (.aload_n 0), a0 (.getfield 254) 3 238 0 4 9 0, none, none, a1 (.ireturn)]]
/-- 219: EnvyRustModel.wipe -/
noncomputable def mk_219 : List (List (Option mEnt)) := [[a1 (.aload_n 0), a0 (.getfield 254) 3 238 0 4 9 0, none, none, a1 (.istore_n 1), a1 (.aload_n 0), a1 (.iconst 0), a0 (.putfield 254) 3 238 0 4 9 0, none, none, a1 (.iload_n 1), a1 (.ireturn)]]
/-- 220: EnvyRustModel.text -/
noncomputable def mk_220 : List (List (Option mEnt)) := [[a1 (.aload_n 0), a1 (.iconst 0), a0 (.putfield 257) 3 240 0 4 11 0, none, none, a1 (.aload_n 0), a1 (.iconst 0), a0 (.putfield 279) 3 243 0 4 14 0, none, none, a1 (.aload_n 0), a1 (.iconst 0), a0 (.putfield 290) 3 246 0 4 17 0, none, none, a1 (.aload_n 0), a1 (.aload_n 0), a0 (.getfield 9) 3 229 0 4 0 0, none, none, a1 (.iconst 1), a1 (.iaload), a0 (.putfield 321) 3 247 0 4 18 0, none, none, a1 (.aload_n 0), a1 (.aload_n 0), a0 (.getfield 9) 3 229 0 4 0 0, none, none, a1 (.iconst 2), a1 (.iaload)],
  [a0 (.putfield 303) 3 248 0 4 19 0, none, none, a1 (.aload_n 0), a0 (.invokevirtual 283) 3 352 10 221 1 0, none, none, a1 (.aload_n 0), a0 (.invokevirtual 332) 3 354 10 223 1 0, none, none, a1 (.aload_n 0), a0 (.getfield 279) 3 243 0 4 14 0, none, none, a3 (.ifCond .ne 37), none, none, a1 (.aload_n 0), a0 (.getfield 269) 3 241 0 4 12 0, none, none, a1 (.iconst 3), a3 (.if_icmp .ne 29), none, none, a1 (.aload_n 0), a0 (.getfield 32) 3 237 0 4 8 0, none, none, a1 (.aload_n 0), a0 (.getfield 260) 3 239 0 4 10 0],
  [none, none, a1 (.iaload), a2 (.bipush 59), none, a3 (.if_icmp .ne 15), none, none, a1 (.aload_n 0), a1 (.iconst 1), a0 (.invokevirtual 286) 3 359 10 226 2 0, none, none, a1 (.aload_n 0), a0 (.invokevirtual 332) 3 354 10 223 1 0, none, none, a3 (.goto (-38)), none, none, a1 (.aload_n 0), a1 (.aload_n 0), a0 (.getfield 269) 3 241 0 4 12 0, none, none, a3 (.ifCond .ne 7), none, none, a1 (.iconst 1), a3 (.goto 4), none, none],
  [a1 (.iconst 0), a0 (.invokevirtual 286) 3 359 10 226 2 0, none, none, a1 (.aload_n 0), a1 (.iconst 0), a0 (.putfield 254) 3 238 0 4 9 0, none, none, a1 (.aload_n 0), a0 (.getfield 279) 3 243 0 4 14 0, none, none, a3 (.ifCond .eq 10), none, none, a1 (.iconst (-1)), a1 (.aload_n 0), a0 (.getfield 260) 3 239 0 4 10 0, none, none, a1 (.isub), a1 (.ireturn), a1 (.iconst 0), a1 (.istore_n 1), a1 (.iconst 0), a1 (.istore_n 2), a1 (.iload_n 2), a1 (.aload_n 0), a0 (.getfield 290) 3 246 0 4 17 0, none, none],
  [a3 (.if_icmp .ge 28), none, none, a1 (.iload_n 1), a1 (.aload_n 0), a2 (.bipush 7), none, a1 (.iload_n 2), a1 (.imul), a0 (.invokevirtual 335) 3 371 10 230 2 0, none, none, a3 (.ifCond .ge 7), none, none, a1 (.iconst 0), a3 (.goto 4), none, none, a1 (.iconst 1), a1 (.iadd), a1 (.istore_n 1), a3 (.iinc 2 1), none, none, a3 (.goto (-30)), none, none, a1 (.iload_n 1), a1 (.ireturn)]]
/-- 221: EnvyRustModel.next -/
noncomputable def mk_221 : List (List (Option mEnt)) := [[a1 (.aload_n 0), a1 (.aload_n 0), a0 (.getfield 257) 3 240 0 4 11 0, none, none, a0 (.putfield 260) 3 239 0 4 10 0, none, none, a1 (.aload_n 0), a1 (.aload_n 0), a0 (.getfield 260) 3 239 0 4 10 0, none, none, a0 (.invokevirtual 263) 3 353 10 222 2 0, none, none, a2 (.bipush 32), none, a3 (.if_icmp .ne 16), none, none, a1 (.aload_n 0), a1 (.dup), a0 (.getfield 260) 3 239 0 4 10 0, none, none, a1 (.iconst 1), a1 (.iadd), a0 (.putfield 260) 3 239 0 4 10 0, none, none, a3 (.goto (-23))],
  [none, none, a1 (.aload_n 0), a1 (.aload_n 0), a0 (.getfield 260) 3 239 0 4 10 0, none, none, a0 (.invokevirtual 263) 3 353 10 222 2 0, none, none, a1 (.istore_n 1), a1 (.aload_n 0), a1 (.aload_n 0), a0 (.getfield 260) 3 239 0 4 10 0, none, none, a0 (.putfield 257) 3 240 0 4 11 0, none, none, a1 (.aload_n 0), a1 (.iconst 0), a0 (.putfield 266) 3 242 0 4 13 0, none, none, a1 (.iload_n 1), a3 (.ifCond .ge 11), none, none, a1 (.aload_n 0), a1 (.iconst 0), a0 (.putfield 269) 3 241 0 4 12 0, none],
  [none, a3 (.goto 141), none, none, a1 (.iload_n 1), a2 (.bipush 97), none, a2 (.bipush 122), none, a0 (.invokestatic 80) 3 254 12 133 3 0, none, none, a3 (.ifCond .eq 39), none, none, a1 (.aload_n 0), a1 (.iconst 1), a0 (.putfield 269) 3 241 0 4 12 0, none, none, a1 (.aload_n 0), a1 (.aload_n 0), a0 (.getfield 257) 3 240 0 4 11 0, none, none, a0 (.invokevirtual 263) 3 353 10 222 2 0, none, none, a2 (.bipush 97), none, a2 (.bipush 122), none],
  [a0 (.invokestatic 80) 3 254 12 133 3 0, none, none, a3 (.ifCond .eq 107), none, none, a1 (.aload_n 0), a1 (.dup), a0 (.getfield 257) 3 240 0 4 11 0, none, none, a1 (.iconst 1), a1 (.iadd), a0 (.putfield 257) 3 240 0 4 11 0, none, none, a3 (.goto (-28)), none, none, a1 (.iload_n 1), a2 (.bipush 48), none, a2 (.bipush 57), none, a0 (.invokestatic 80) 3 254 12 133 3 0, none, none, a3 (.ifCond .eq 68), none, none, a1 (.aload_n 0), a1 (.iconst 2)],
  [a0 (.putfield 269) 3 241 0 4 12 0, none, none, a1 (.aload_n 0), a1 (.aload_n 0), a0 (.getfield 257) 3 240 0 4 11 0, none, none, a0 (.invokevirtual 263) 3 353 10 222 2 0, none, none, a2 (.bipush 48), none, a2 (.bipush 57), none, a0 (.invokestatic 80) 3 254 12 133 3 0, none, none, a3 (.ifCond .eq 60), none, none, a1 (.aload_n 0), a3 (.sipush 1000), none, none, a2 (.bipush 10), none, a1 (.aload_n 0), a0 (.getfield 266) 3 242 0 4 13 0, none, none, a1 (.imul)],
  [a1 (.aload_n 0), a1 (.aload_n 0), a0 (.getfield 257) 3 240 0 4 11 0, none, none, a0 (.invokevirtual 263) 3 353 10 222 2 0, none, none, a1 (.iadd), a2 (.bipush 48), none, a1 (.isub), a0 (.invokestatic 128) 3 273 25 0 0 0, none, none, a0 (.putfield 266) 3 242 0 4 13 0, none, none, a1 (.aload_n 0), a1 (.dup), a0 (.getfield 257) 3 240 0 4 11 0, none, none, a1 (.iconst 1), a1 (.iadd), a0 (.putfield 257) 3 240 0 4 11 0, none, none, a3 (.goto (-57)), none, none, a1 (.aload_n 0)],
  [a1 (.iconst 3), a0 (.putfield 269) 3 241 0 4 12 0, none, none, a1 (.aload_n 0), a1 (.dup), a0 (.getfield 257) 3 240 0 4 11 0, none, none, a1 (.iconst 1), a1 (.iadd), a0 (.putfield 257) 3 240 0 4 11 0, none, none, a1 (.return_)]]
/-- 222: EnvyRustModel.byteAt -/
noncomputable def mk_222 : List (List (Option mEnt)) := [[a1 (.iload_n 1), a1 (.aload_n 0), a0 (.getfield 254) 3 238 0 4 9 0, none, none, a3 (.if_icmp .ge 12), none, none, a1 (.aload_n 0), a0 (.getfield 32) 3 237 0 4 8 0, none, none, a1 (.iload_n 1), a1 (.iaload), a3 (.goto 4), none, none, a1 (.iconst (-1)), a1 (.ireturn)]]
/-- 223: EnvyRustModel.readItem -/
noncomputable def mk_223_0 : List (List (Option mEnt)) := [[a1 (.aload_n 0), a0 (.invokevirtual 300) 3 355 10 224 1 0, none, none, a1 (.istore_n 1), a1 (.iload_n 1), a3 (.ifCond .lt 149), none, none, a1 (.aload_n 0), a1 (.aload_n 0), a0 (.getfield 303) 3 248 0 4 19 0, none, none, a2 (.bipush 8), none, a3 (.if_icmp .ge 7), none, none, a1 (.iconst 1), a3 (.goto 4), none, none, a1 (.iconst 0), a0 (.invokevirtual 286) 3 359 10 226 2 0, none, none, a1 (.aload_n 0), a1 (.dup), a0 (.getfield 303) 3 248 0 4 19 0, none, none],
  [a1 (.iconst 1), a1 (.iadd), a0 (.putfield 303) 3 248 0 4 19 0, none, none, a1 (.aload_n 0), a0 (.ldc_w 306) 3 360 3 0 8 0, none, none, a1 (.iconst 0), a1 (.iconst 0), a2 (.bipush 15), none, a0 (.invokevirtual 307) 3 361 10 227 5 0, none, none, a1 (.istore_n 2), a1 (.aload_n 0), a0 (.ldc_w 311) 3 363 3 0 9 0, none, none, a1 (.iconst 1), a1 (.iconst 0), a2 (.bipush 15), none, a0 (.invokevirtual 307) 3 361 10 227 5 0, none, none, a1 (.istore_n 3), a1 (.aload_n 0), a0 (.ldc_w 313) 3 364 3 0 10 0, none],
  [none, a1 (.iconst (-1)), a1 (.iconst 0), a2 (.bipush 9), none, a0 (.invokevirtual 307) 3 361 10 227 5 0, none, none, a2 (.istore 4), none, a2 (.iload 4), none, a3 (.ifCond .ge 7), none, none, a1 (.iconst 1), a3 (.goto 10), none, none, a1 (.aload_n 0), a1 (.iconst 0), a2 (.bipush 9), none, a0 (.invokevirtual 297) 3 362 10 228 3 0, none, none, a2 (.istore 5), none, a2 (.iload 4), none, a3 (.ifCond .ge 7), none],
  [none, a1 (.iconst 1), a3 (.goto 10), none, none, a1 (.aload_n 0), a1 (.iconst 0), a2 (.bipush 9), none, a0 (.invokevirtual 297) 3 362 10 228 3 0, none, none, a2 (.istore 6), none, a2 (.iload 4), none, a3 (.ifCond .ge 7), none, none, a1 (.iconst 1), a3 (.goto 10), none, none, a1 (.aload_n 0), a1 (.iconst 0), a2 (.bipush 9), none, a0 (.invokevirtual 297) 3 362 10 228 3 0, none, none, a2 (.istore 7), none],
  [a1 (.aload_n 0), a1 (.iload_n 1), a1 (.iload_n 2), a1 (.iload_n 3), a2 (.iload 4), none, a3 (.ifCond .ge 7), none, none, a1 (.iconst 1), a3 (.goto 5), none, none, a2 (.iload 4), none, a2 (.iload 5), none, a2 (.iload 6), none, a2 (.iload 7), none, a0 (.invokevirtual 315) 3 365 10 229 8 0, none, none, a3 (.goto 138), none, none, a1 (.aload_n 0), a1 (.aload_n 0), a0 (.ldc_w 319) 3 366 3 0 0 0, none, none],
  [a0 (.invokevirtual 293) 3 356 10 225 2 0, none, none, a3 (.ifCond .eq 16), none, none, a1 (.aload_n 0), a0 (.getfield 321) 3 247 0 4 18 0, none, none, a2 (.bipush 8), none, a3 (.if_icmp .ge 7), none, none, a1 (.iconst 1), a3 (.goto 4), none, none, a1 (.iconst 0), a0 (.invokevirtual 286) 3 359 10 226 2 0, none, none, a1 (.aload_n 0), a1 (.iconst 0), a1 (.iconst 3), a0 (.invokevirtual 297) 3 362 10 228 3 0, none, none, a1 (.istore_n 2), a1 (.aload_n 0), a0 (.ldc_w 306) 3 360 3 0 8 0],
  [none, none, a1 (.iconst 0), a1 (.iconst 0), a2 (.bipush 15), none, a0 (.invokevirtual 307) 3 361 10 227 5 0, none, none, a1 (.istore_n 3), a1 (.aload_n 0), a0 (.ldc_w 324) 3 367 3 0 11 0, none, none, a2 (.bipush 100), none, a1 (.iconst 0), a3 (.sipush 999), none, none, a0 (.invokevirtual 307) 3 361 10 227 5 0, none, none, a2 (.istore 4), none, a1 (.aload_n 0), a0 (.ldc_w 326) 3 368 3 0 12 0, none, none, a1 (.iconst 0), a1 (.iconst 0), a2 (.bipush 9)],
  [none, a0 (.invokevirtual 307) 3 361 10 227 5 0, none, none, a2 (.istore 5), none, a1 (.aload_n 0), a0 (.ldc_w 328) 3 369 3 0 13 0, none, none, a1 (.iconst (-1)), a1 (.iconst 0), a1 (.aload_n 0), a0 (.getfield 303) 3 248 0 4 19 0, none, none, a1 (.iconst 1), a1 (.isub), a0 (.invokevirtual 307) 3 361 10 227 5 0, none, none, a2 (.istore 6), none, a1 (.aload_n 0), a0 (.ldc_w 330) 3 370 3 0 14 0, none, none, a1 (.iconst (-1)), a1 (.iconst 0), a1 (.aload_n 0), a0 (.getfield 321) 3 247 0 4 18 0, none]]
noncomputable def mk_223_1 : List (List (Option mEnt)) := [[none, a1 (.iconst 1), a1 (.isub), a0 (.invokevirtual 307) 3 361 10 227 5 0, none, none, a2 (.istore 7), none, a1 (.aload_n 0), a1 (.dup), a0 (.getfield 321) 3 247 0 4 18 0, none, none, a1 (.iconst 1), a1 (.iadd), a0 (.putfield 321) 3 247 0 4 18 0, none, none, a1 (.aload_n 0), a2 (.bipush 10), none, a1 (.iload_n 2), a1 (.iload_n 3), a2 (.iload 4), none, a2 (.iload 5), none, a2 (.iload 6), none, a2 (.iload 7), none, a0 (.invokevirtual 315) 3 365 10 229 8 0],
  [none, none, a1 (.return_)]]
noncomputable def mk_223 : List (List (Option mEnt)) := mk_223_0 ++ (mk_223_1)
/-- 224: EnvyRustModel.kindTold -/
noncomputable def mk_224 : List (List (Option mEnt)) := [[a1 (.iconst (-1)), a1 (.istore_n 1), a1 (.iconst 0), a1 (.istore_n 2), a1 (.iload_n 2), a1 (.aload_n 0), a0 (.getfield 51) 3 244 0 4 15 0, none, none, a1 (.arraylength), a3 (.if_icmp .ge 28), none, none, a1 (.aload_n 0), a1 (.aload_n 0), a0 (.getfield 51) 3 244 0 4 15 0, none, none, a1 (.iload_n 2), a1 (.aaload), a0 (.invokevirtual 293) 3 356 10 225 2 0, none, none, a3 (.ifCond .eq 7), none, none, a1 (.iload_n 2), a3 (.goto 4), none, none, a1 (.iload_n 1), a1 (.istore_n 1)],
  [a3 (.iinc 2 1), none, none, a3 (.goto (-31)), none, none, a1 (.iload_n 1), a1 (.ireturn)]]
/-- 225: EnvyRustModel.isWord -/
noncomputable def mk_225 : List (List (Option mEnt)) := [[a1 (.aload_n 0), a0 (.getfield 269) 3 241 0 4 12 0, none, none, a1 (.iconst 1), a3 (.if_icmp .ne 23), none, none, a1 (.aload_n 0), a0 (.getfield 257) 3 240 0 4 11 0, none, none, a1 (.aload_n 0), a0 (.getfield 260) 3 239 0 4 10 0, none, none, a1 (.isub), a1 (.aload_n 1), a0 (.invokevirtual 272) 3 357 22 0 0 0, none, none, a3 (.if_icmp .ne 7), none, none, a1 (.iconst 1), a3 (.goto 4), none, none, a1 (.iconst 0), a1 (.istore_n 2), a1 (.iconst 0), a1 (.istore_n 3)],
  [a1 (.iload_n 3), a1 (.aload_n 1), a0 (.invokevirtual 272) 3 357 22 0 0 0, none, none, a3 (.if_icmp .ge 38), none, none, a1 (.iload_n 2), a3 (.ifCond .eq 34), none, none, a1 (.aload_n 0), a0 (.getfield 32) 3 237 0 4 8 0, none, none, a1 (.aload_n 0), a0 (.getfield 260) 3 239 0 4 10 0, none, none, a1 (.iload_n 3), a1 (.iadd), a1 (.iaload), a1 (.aload_n 1), a1 (.iload_n 3), a0 (.invokevirtual 275) 3 358 23 0 0 0, none, none, a3 (.if_icmp .ne 7), none, none, a1 (.iconst 1)],
  [a3 (.goto 4), none, none, a1 (.iconst 0), a1 (.istore_n 2), a3 (.iinc 3 1), none, none, a3 (.goto (-40)), none, none, a1 (.iload_n 2), a1 (.ireturn)]]
/-- 226: EnvyRustModel.must -/
noncomputable def mk_226 : List (List (Option mEnt)) := [[a1 (.aload_n 0), a1 (.aload_n 0), a0 (.getfield 279) 3 243 0 4 14 0, none, none, a3 (.ifCond .ne 7), none, none, a1 (.iload_n 1), a3 (.ifCond .ne 7), none, none, a1 (.iconst 1), a3 (.goto 4), none, none, a1 (.iconst 0), a0 (.putfield 279) 3 243 0 4 14 0, none, none, a1 (.aload_n 0), a0 (.getfield 279) 3 243 0 4 14 0, none, none, a3 (.ifCond .ne 7), none, none, a1 (.aload_n 0), a0 (.invokevirtual 283) 3 352 10 221 1 0, none, none, a1 (.return_)]]
/-- 227: EnvyRustModel.afterWord -/
noncomputable def mk_227 : List (List (Option mEnt)) := [[a1 (.aload_n 0), a0 (.getfield 279) 3 243 0 4 14 0, none, none, a3 (.ifCond .ne 11), none, none, a1 (.aload_n 0), a1 (.aload_n 1), a0 (.invokevirtual 293) 3 356 10 225 2 0, none, none, a3 (.ifCond .ne 5), none, none, a1 (.iload_n 2), a1 (.ireturn), a1 (.aload_n 0), a1 (.iconst 1), a0 (.invokevirtual 286) 3 359 10 226 2 0, none, none, a1 (.aload_n 0), a1 (.iload_n 3), a2 (.iload 4), none, a0 (.invokevirtual 297) 3 362 10 228 3 0, none, none, a1 (.ireturn)]]
/-- 228: EnvyRustModel.number -/
noncomputable def mk_228 : List (List (Option mEnt)) := [[a1 (.aload_n 0), a0 (.getfield 266) 3 242 0 4 13 0, none, none, a1 (.istore_n 3), a1 (.aload_n 0), a1 (.aload_n 0), a0 (.getfield 269) 3 241 0 4 12 0, none, none, a1 (.iconst 2), a3 (.if_icmp .ne 16), none, none, a1 (.iload_n 3), a1 (.iload_n 1), a1 (.iload_n 2), a0 (.invokestatic 80) 3 254 12 133 3 0, none, none, a3 (.ifCond .eq 7), none, none, a1 (.iconst 1), a3 (.goto 4), none, none, a1 (.iconst 0), a0 (.invokevirtual 286) 3 359 10 226 2 0, none, none, a1 (.iload_n 3)],
  [a1 (.ireturn)]]
/-- 229: EnvyRustModel.item -/
noncomputable def mk_229 : List (List (Option mEnt)) := [[a2 (.bipush 7), none, a1 (.aload_n 0), a0 (.getfield 290) 3 246 0 4 17 0, none, none, a1 (.imul), a2 (.istore 8), none, a1 (.aload_n 0), a0 (.getfield 55) 3 245 0 4 16 0, none, none, a2 (.iload 8), none, a1 (.iload_n 1), a1 (.iastore), a1 (.aload_n 0), a0 (.getfield 55) 3 245 0 4 16 0, none, none, a2 (.iload 8), none, a1 (.iconst 1), a1 (.iadd), a1 (.iload_n 2), a1 (.iastore), a1 (.aload_n 0), a0 (.getfield 55) 3 245 0 4 16 0, none, none, a2 (.iload 8)],
  [none, a1 (.iconst 2), a1 (.iadd), a1 (.iload_n 3), a1 (.iastore), a1 (.aload_n 0), a0 (.getfield 55) 3 245 0 4 16 0, none, none, a2 (.iload 8), none, a1 (.iconst 3), a1 (.iadd), a2 (.iload 4), none, a1 (.iastore), a1 (.aload_n 0), a0 (.getfield 55) 3 245 0 4 16 0, none, none, a2 (.iload 8), none, a1 (.iconst 4), a1 (.iadd), a2 (.iload 5), none, a1 (.iastore), a1 (.aload_n 0), a0 (.getfield 55) 3 245 0 4 16 0, none, none, a2 (.iload 8)],
  [none, a1 (.iconst 5), a1 (.iadd), a2 (.iload 6), none, a1 (.iastore), a1 (.aload_n 0), a0 (.getfield 55) 3 245 0 4 16 0, none, none, a2 (.iload 8), none, a2 (.bipush 6), none, a1 (.iadd), a2 (.iload 7), none, a1 (.iastore), a1 (.aload_n 0), a1 (.dup), a0 (.getfield 290) 3 246 0 4 17 0, none, none, a1 (.iconst 1), a1 (.iadd), a0 (.putfield 290) 3 246 0 4 17 0, none, none, a1 (.return_)]]
/-- 230: EnvyRustModel.isToldSo -/
noncomputable def mk_230 : List (List (Option mEnt)) := [[a1 (.aload_n 0), a0 (.getfield 55) 3 245 0 4 16 0, none, none, a1 (.iload_n 1), a1 (.iaload), a2 (.bipush 10), none, a3 (.if_icmp .ne 57), none, none, a1 (.aload_n 0), a1 (.aload_n 0), a0 (.getfield 55) 3 245 0 4 16 0, none, none, a1 (.iload_n 1), a1 (.iconst 1), a1 (.iadd), a1 (.iaload), a1 (.aload_n 0), a0 (.getfield 55) 3 245 0 4 16 0, none, none, a1 (.iload_n 1), a1 (.iconst 2), a1 (.iadd), a1 (.iaload), a1 (.aload_n 0), a0 (.getfield 55) 3 245 0 4 16 0, none, none],
  [a1 (.iload_n 1), a1 (.iconst 3), a1 (.iadd), a1 (.iaload), a1 (.aload_n 0), a0 (.getfield 55) 3 245 0 4 16 0, none, none, a1 (.iload_n 1), a1 (.iconst 4), a1 (.iadd), a1 (.iaload), a1 (.aload_n 0), a0 (.getfield 55) 3 245 0 4 16 0, none, none, a1 (.iload_n 1), a1 (.iconst 5), a1 (.iadd), a1 (.iaload), a1 (.aload_n 0), a0 (.getfield 55) 3 245 0 4 16 0, none, none, a1 (.iload_n 1), a2 (.bipush 6), none, a1 (.iadd), a1 (.iaload), a0 (.invokevirtual 96) 3 259 10 136 7 0, none, none],
  [a1 (.ireturn), a1 (.aload_n 0), a1 (.aload_n 0), a0 (.getfield 55) 3 245 0 4 16 0, none, none, a1 (.iload_n 1), a1 (.iaload), a1 (.aload_n 0), a0 (.getfield 55) 3 245 0 4 16 0, none, none, a1 (.iload_n 1), a1 (.iconst 1), a1 (.iadd), a1 (.iaload), a1 (.aload_n 0), a0 (.getfield 55) 3 245 0 4 16 0, none, none, a1 (.iload_n 1), a1 (.iconst 2), a1 (.iadd), a1 (.iaload), a0 (.invokevirtual 159) 3 284 10 158 4 0, none, none, a1 (.istore_n 2), a1 (.iconst 0), a1 (.istore_n 3), a1 (.iload_n 3), a1 (.iconst 4)],
  [a3 (.if_icmp .ge 31), none, none, a1 (.aload_n 0), a0 (.getfield 9) 3 229 0 4 0 0, none, none, a1 (.iload_n 2), a1 (.iconst 3), a1 (.iload_n 3), a1 (.iadd), a0 (.invokestatic 88) 3 265 12 142 2 0, none, none, a1 (.aload_n 0), a0 (.getfield 55) 3 245 0 4 16 0, none, none, a1 (.iload_n 1), a1 (.iconst 3), a1 (.iadd), a1 (.iload_n 3), a1 (.iadd), a1 (.iaload), a1 (.iastore), a3 (.iinc 3 1), none, none, a3 (.goto (-30)), none, none, a1 (.iload_n 2)],
  [a1 (.ireturn)]]
/-- 231: EnvyRustModel.hold -/
noncomputable def mk_231 : List (List (Option mEnt)) := [[a1 (.iload_n 1), a0 (.invokestatic 338) 3 373 12 232 1 0, none, none, a3 (.ifCond .eq 16), none, none, a1 (.iload_n 2), a1 (.iconst (-1)), a3 (.if_icmp .eq 18), none, none, a1 (.aload_n 0), a1 (.iload_n 2), a0 (.invokevirtual 143) 3 278 10 153 2 0, none, none, a3 (.ifCond .ne 10), none, none, a1 (.aload_n 0), a0 (.ldc 70) 2 256 2 0 0 (-1000001), none, a0 (.invokevirtual 76) 3 257 10 135 2 0, none, none, a1 (.ireturn), a1 (.aload_n 0), a0 (.getfield 9) 3 229 0 4 0 0, none, none, a1 (.iconst 4)],
  [a1 (.iload_n 1), a1 (.iadd), a1 (.iload_n 2), a1 (.iastore), a1 (.iconst 1), a1 (.ireturn)]]
/-- 232: EnvyRustModel.isSpot -/
noncomputable def mk_232 : List (List (Option mEnt)) := [[a1 (.iload_n 0), a1 (.iconst 0), a2 (.bipush 9), none, a0 (.invokestatic 80) 3 254 12 133 3 0, none, none, a1 (.ireturn)]]
/-- 233: EnvyRustModel.as -/
noncomputable def mk_233 : List (List (Option mEnt)) := [[a1 (.iload_n 1), a0 (.invokestatic 338) 3 373 12 232 1 0, none, none, a3 (.ifCond .eq 10), none, none, a1 (.iload_n 2), a0 (.invokestatic 156) 3 283 12 157 1 0, none, none, a3 (.ifCond .ne 10), none, none, a1 (.aload_n 0), a0 (.ldc 70) 2 256 2 0 0 (-1000001), none, a0 (.invokevirtual 76) 3 257 10 135 2 0, none, none, a1 (.ireturn), a1 (.aload_n 0), a0 (.getfield 9) 3 229 0 4 0 0, none, none, a1 (.iconst 4), a1 (.iload_n 1), a1 (.iadd), a1 (.iaload), a1 (.istore_n 3), a1 (.iload_n 3), a3 (.ifCond .ge 10)],
  [none, none, a1 (.aload_n 0), a0 (.ldc 240) 2 340 2 0 0 (-1000006), none, a0 (.invokevirtual 76) 3 257 10 135 2 0, none, none, a1 (.ireturn), a1 (.aload_n 0), a1 (.iload_n 3), a1 (.iconst 0), a0 (.invokevirtual 109) 3 264 10 141 3 0, none, none, a1 (.iload_n 2), a0 (.invokestatic 112) 3 270 12 147 2 0, none, none, a3 (.ifCond .eq 7), none, none, a1 (.iload_n 3), a3 (.goto 10), none, none, a1 (.aload_n 0), a0 (.ldc_w 341) 3 375 2 0 0 (-1000003), none, none, a0 (.invokevirtual 76) 3 257 10 135 2 0, none],
  [none, a1 (.ireturn)]]
/-- 234: EnvyRustModel.sheet -/
noncomputable def mk_234 : List (List (Option mEnt)) := [[a1 (.iload_n 1), a0 (.invokestatic 237) 3 339 12 210 1 0, none, none, a3 (.ifCond .eq 25), none, none, a1 (.iload_n 2), a3 (.ifCond .eq 28), none, none, a1 (.iload_n 2), a2 (.bipush 8), none, a3 (.if_icmp .eq 22), none, none, a1 (.iload_n 2), a2 (.bipush 16), none, a3 (.if_icmp .eq 16), none, none, a1 (.iload_n 2), a2 (.bipush 32), none, a3 (.if_icmp .eq 10), none, none, a1 (.aload_n 0), a0 (.ldc 70) 2 256 2 0 0 (-1000001), none],
  [a0 (.invokevirtual 76) 3 257 10 135 2 0, none, none, a1 (.ireturn), a1 (.iload_n 3), a3 (.ifCond .ge 11), none, none, a1 (.aload_n 0), a0 (.ldc_w 342) 3 377 2 0 0 (-1000007), none, none, a0 (.invokevirtual 76) 3 257 10 135 2 0, none, none, a1 (.ireturn), a1 (.iload_n 3), a2 (.bipush 40), none, a3 (.if_icmp .le 10), none, none, a1 (.aload_n 0), a0 (.ldc 70) 2 256 2 0 0 (-1000001), none, a0 (.invokevirtual 76) 3 257 10 135 2 0, none, none, a1 (.ireturn), a1 (.aload_n 0), a0 (.getfield 58) 3 249 0 4 20 0, none],
  [none, a1 (.iload_n 1), a1 (.iload_n 2), a1 (.iastore), a1 (.aload_n 0), a0 (.getfield 61) 3 250 0 4 21 0, none, none, a1 (.iload_n 1), a1 (.iload_n 2), a3 (.ifCond .ne 7), none, none, a1 (.iconst 0), a3 (.goto 4), none, none, a1 (.iload_n 3), a1 (.iastore), a1 (.iconst 0), a2 (.istore 4), none, a2 (.iload 4), none, a2 (.bipush 40), none, a3 (.if_icmp .ge 22), none, none, a1 (.aload_n 0), a0 (.getfield 64) 3 251 0 4 22 0, none],
  [none, a2 (.bipush 40), none, a1 (.iload_n 1), a1 (.imul), a2 (.iload 4), none, a1 (.iadd), a1 (.iconst 0), a1 (.iastore), a3 (.iinc 4 1), none, none, a3 (.goto (-23)), none, none, a1 (.aload_n 0), a0 (.getfield 61) 3 250 0 4 21 0, none, none, a1 (.iload_n 1), a1 (.iaload), a1 (.ireturn)]]
/-- 235: EnvyRustModel.write -/
noncomputable def mk_235 : List (List (Option mEnt)) := [[a1 (.iload_n 1), a0 (.invokestatic 237) 3 339 12 210 1 0, none, none, a3 (.ifCond .ne 10), none, none, a1 (.aload_n 0), a0 (.ldc 70) 2 256 2 0 0 (-1000001), none, a0 (.invokevirtual 76) 3 257 10 135 2 0, none, none, a1 (.ireturn), a1 (.aload_n 0), a0 (.getfield 58) 3 249 0 4 20 0, none, none, a1 (.iload_n 1), a1 (.iaload), a3 (.ifCond .ne 10), none, none, a1 (.aload_n 0), a0 (.ldc 240) 2 340 2 0 0 (-1000006), none, a0 (.invokevirtual 76) 3 257 10 135 2 0, none, none, a1 (.ireturn), a1 (.iload_n 2), a1 (.iconst 0)],
  [a1 (.aload_n 0), a0 (.getfield 61) 3 250 0 4 21 0, none, none, a1 (.iload_n 1), a1 (.iaload), a1 (.iconst 1), a1 (.isub), a0 (.invokestatic 80) 3 254 12 133 3 0, none, none, a3 (.ifCond .ne 10), none, none, a1 (.aload_n 0), a0 (.ldc 70) 2 256 2 0 0 (-1000001), none, a0 (.invokevirtual 76) 3 257 10 135 2 0, none, none, a1 (.ireturn), a1 (.aload_n 0), a0 (.getfield 64) 3 251 0 4 22 0, none, none, a2 (.bipush 40), none, a1 (.iload_n 1), a1 (.imul), a1 (.iload_n 2), a1 (.iadd), a1 (.iload_n 3)],
  [a1 (.aload_n 0), a0 (.getfield 58) 3 249 0 4 20 0, none, none, a1 (.iload_n 1), a1 (.iaload), a0 (.invokestatic 343) 3 379 12 236 2 0, none, none, a1 (.iastore), a1 (.iconst 1), a1 (.ireturn)]]
/-- 236: EnvyRustModel.cutTo -/
noncomputable def mk_236 : List (List (Option mEnt)) := [[a1 (.iload_n 1), a2 (.bipush 8), none, a3 (.if_icmp .ne 8), none, none, a1 (.iload_n 0), a1 (.i2b), a3 (.goto 15), none, none, a1 (.iload_n 1), a2 (.bipush 16), none, a3 (.if_icmp .ne 8), none, none, a1 (.iload_n 0), a1 (.i2s), a3 (.goto 4), none, none, a1 (.iload_n 0), a1 (.ireturn)]]
/-- 237: EnvyRustModel.copy -/
noncomputable def mk_237 : List (List (Option mEnt)) := [[a1 (.iload_n 1), a0 (.invokestatic 237) 3 339 12 210 1 0, none, none, a3 (.ifCond .eq 10), none, none, a1 (.iload_n 3), a0 (.invokestatic 237) 3 339 12 210 1 0, none, none, a3 (.ifCond .ne 10), none, none, a1 (.aload_n 0), a0 (.ldc 70) 2 256 2 0 0 (-1000001), none, a0 (.invokevirtual 76) 3 257 10 135 2 0, none, none, a1 (.ireturn), a1 (.aload_n 0), a0 (.getfield 58) 3 249 0 4 20 0, none, none, a1 (.iload_n 1), a1 (.iaload), a3 (.ifCond .eq 12), none, none, a1 (.aload_n 0), a0 (.getfield 58) 3 249 0 4 20 0],
  [none, none, a1 (.iload_n 3), a1 (.iaload), a3 (.ifCond .ne 10), none, none, a1 (.aload_n 0), a0 (.ldc 240) 2 340 2 0 0 (-1000006), none, a0 (.invokevirtual 76) 3 257 10 135 2 0, none, none, a1 (.ireturn), a1 (.aload_n 0), a0 (.getfield 58) 3 249 0 4 20 0, none, none, a1 (.iload_n 1), a1 (.iaload), a1 (.aload_n 0), a0 (.getfield 58) 3 249 0 4 20 0, none, none, a1 (.iload_n 3), a1 (.iaload), a3 (.if_icmp .eq 11), none, none, a1 (.aload_n 0), a0 (.ldc_w 341) 3 375 2 0 0 (-1000003), none],
  [none, a0 (.invokevirtual 76) 3 257 10 135 2 0, none, none, a1 (.ireturn), a1 (.iload_n 2), a3 (.ifCond .lt 48), none, none, a2 (.iload 4), none, a3 (.ifCond .lt 43), none, none, a2 (.iload 5), none, a3 (.ifCond .lt 38), none, none, a1 (.iload_n 2), a1 (.i2l), a2 (.iload 5), none, a1 (.i2l), a1 (.ladd), a1 (.aload_n 0), a0 (.getfield 61) 3 250 0 4 21 0, none, none, a1 (.iload_n 1), a1 (.iaload), a1 (.i2l)],
  [a1 (.lcmp), a3 (.ifCond .gt 21), none, none, a2 (.iload 4), none, a1 (.i2l), a2 (.iload 5), none, a1 (.i2l), a1 (.ladd), a1 (.aload_n 0), a0 (.getfield 61) 3 250 0 4 21 0, none, none, a1 (.iload_n 3), a1 (.iaload), a1 (.i2l), a1 (.lcmp), a3 (.ifCond .le 10), none, none, a1 (.aload_n 0), a0 (.ldc 70) 2 256 2 0 0 (-1000001), none, a0 (.invokevirtual 76) 3 257 10 135 2 0, none, none, a1 (.ireturn), a1 (.iconst 0), a2 (.istore 6), none],
  [a2 (.iload 6), none, a2 (.iload 5), none, a3 (.if_icmp .ge 30), none, none, a1 (.aload_n 0), a0 (.getfield 67) 3 252 0 4 23 0, none, none, a2 (.iload 6), none, a1 (.aload_n 0), a0 (.getfield 64) 3 251 0 4 22 0, none, none, a2 (.bipush 40), none, a1 (.iload_n 1), a1 (.imul), a1 (.iload_n 2), a1 (.iadd), a2 (.iload 6), none, a1 (.iadd), a1 (.iaload), a1 (.iastore), a3 (.iinc 6 1), none, none, a3 (.goto (-31))],
  [none, none, a1 (.iconst 0), a2 (.istore 6), none, a2 (.iload 6), none, a2 (.iload 5), none, a3 (.if_icmp .ge 31), none, none, a1 (.aload_n 0), a0 (.getfield 64) 3 251 0 4 22 0, none, none, a2 (.bipush 40), none, a1 (.iload_n 3), a1 (.imul), a2 (.iload 4), none, a1 (.iadd), a2 (.iload 6), none, a1 (.iadd), a1 (.aload_n 0), a0 (.getfield 67) 3 252 0 4 23 0, none, none, a2 (.iload 6), none],
  [a1 (.iaload), a1 (.iastore), a3 (.iinc 6 1), none, none, a3 (.goto (-32)), none, none, a2 (.iload 5), none, a1 (.ireturn)]]
/-- 238: EnvyRustModel.load -/
noncomputable def mk_238 : List (List (Option mEnt)) := [[a1 (.aload_n 0), a1 (.iload_n 1), a0 (.invokevirtual 244) 3 338 10 209 2 0, none, none, a3 (.ifCond .eq 13), none, none, a1 (.aload_n 0), a1 (.aload_n 0), a1 (.iload_n 1), a0 (.invokevirtual 244) 3 338 10 209 2 0, none, none, a0 (.invokevirtual 76) 3 257 10 135 2 0, none, none, a1 (.ireturn), a1 (.iconst 0), a1 (.istore_n 2), a1 (.iload_n 2), a1 (.aload_n 0), a0 (.getfield 61) 3 250 0 4 21 0, none, none, a1 (.iload_n 1), a1 (.iaload), a3 (.if_icmp .ge 55), none, none, a1 (.aload_n 0), a1 (.iload_n 2)],
  [a0 (.invokevirtual 131) 3 262 10 139 2 0, none, none, a3 (.ifCond .eq 47), none, none, a1 (.aload_n 0), a0 (.getfield 64) 3 251 0 4 22 0, none, none, a2 (.bipush 40), none, a1 (.iload_n 1), a1 (.imul), a1 (.iload_n 2), a1 (.iadd), a1 (.iaload), a0 (.invokestatic 137) 3 276 12 151 1 0, none, none, a3 (.ifCond .eq 30), none, none, a1 (.aload_n 0), a0 (.getfield 9) 3 229 0 4 0 0, none, none, a1 (.iload_n 2), a1 (.iconst 2), a0 (.invokestatic 84) 3 260 12 137 2 0, none, none],
  [a1 (.aload_n 0), a0 (.getfield 64) 3 251 0 4 22 0, none, none, a2 (.bipush 40), none, a1 (.iload_n 1), a1 (.imul), a1 (.iload_n 2), a1 (.iadd), a1 (.iaload), a1 (.iastore), a3 (.iinc 2 1), none, none, a3 (.goto (-59)), none, none, a1 (.iload_n 2), a1 (.ireturn)]]
/-- 239: EnvyRustModel.judge -/
noncomputable def mk_239 : List (List (Option mEnt)) := [[a1 (.aload_n 0), a1 (.iload_n 1), a0 (.invokevirtual 244) 3 338 10 209 2 0, none, none, a3 (.ifCond .eq 13), none, none, a1 (.aload_n 0), a1 (.aload_n 0), a1 (.iload_n 1), a0 (.invokevirtual 244) 3 338 10 209 2 0, none, none, a0 (.invokevirtual 76) 3 257 10 135 2 0, none, none, a1 (.ireturn), a1 (.iconst 0), a1 (.istore_n 2), a1 (.iconst 1), a1 (.istore_n 3), a1 (.iload_n 2), a1 (.aload_n 0), a0 (.getfield 61) 3 250 0 4 21 0, none, none, a1 (.iload_n 1), a1 (.iaload), a3 (.if_icmp .ge 77), none, none],
  [a1 (.iload_n 3), a3 (.ifCond .eq 73), none, none, a1 (.aload_n 0), a0 (.getfield 64) 3 251 0 4 22 0, none, none, a2 (.bipush 40), none, a1 (.iload_n 1), a1 (.imul), a1 (.iload_n 2), a1 (.iadd), a1 (.iaload), a2 (.istore 4), none, a1 (.aload_n 0), a2 (.iload 4), none, a0 (.invokevirtual 131) 3 262 10 139 2 0, none, none, a3 (.ifCond .eq 34), none, none, a1 (.iload_n 2), a3 (.ifCond .eq 26), none, none, a1 (.aload_n 0), a1 (.aload_n 0)],
  [a0 (.getfield 64) 3 251 0 4 22 0, none, none, a2 (.bipush 40), none, a1 (.iload_n 1), a1 (.imul), a1 (.iload_n 2), a1 (.iadd), a1 (.iconst 1), a1 (.isub), a1 (.iaload), a1 (.iconst 5), a0 (.invokevirtual 103) 3 266 10 143 3 0, none, none, a2 (.iload 4), none, a3 (.if_icmp .ne 7), none, none, a1 (.iconst 1), a3 (.goto 4), none, none, a1 (.iconst 0), a1 (.istore_n 3), a1 (.iload_n 2), a1 (.iload_n 3), a3 (.ifCond .eq 7), none, none],
  [a1 (.iconst 1), a3 (.goto 4), none, none, a1 (.iconst 0), a1 (.iadd), a1 (.istore_n 2), a3 (.goto (-81)), none, none, a1 (.iload_n 3), a3 (.ifCond .eq 7), none, none, a1 (.iconst 0), a3 (.goto 6), none, none, a1 (.iconst 1), a1 (.iload_n 2), a1 (.iadd), a1 (.ireturn)]]
/-- 240: EnvyRustModel.image -/
noncomputable def mk_240 : List (List (Option mEnt)) := [[a1 (.aload_n 0), a0 (.getfield 9) 3 229 0 4 0 0, none, none, a1 (.aload_n 0), a0 (.getfield 13) 3 230 0 4 1 0, none, none, a0 (.invokestatic 71) 3 301 12 174 2 0, none, none, a1 (.aload_n 0), a1 (.iconst 1), a0 (.putfield 346) 3 232 0 4 3 0, none, none, a1 (.iconst 1), a1 (.ireturn)]]
/-- 241: EnvyRustModel.undo -/
noncomputable def mk_241 : List (List (Option mEnt)) := [[a1 (.aload_n 0), a0 (.getfield 346) 3 232 0 4 3 0, none, none, a3 (.ifCond .ne 10), none, none, a1 (.aload_n 0), a0 (.ldc 75) 2 305 2 0 0 (-1000004), none, a0 (.invokevirtual 76) 3 257 10 135 2 0, none, none, a1 (.ireturn), a1 (.aload_n 0), a0 (.getfield 13) 3 230 0 4 1 0, none, none, a1 (.aload_n 0), a0 (.getfield 9) 3 229 0 4 0 0, none, none, a0 (.invokestatic 71) 3 301 12 174 2 0, none, none, a1 (.aload_n 0), a0 (.getfield 9) 3 229 0 4 0 0, none, none, a1 (.iconst 0), a1 (.iaload), a1 (.ireturn)]]
/-- 242: EnvyRustModel.tear -/
noncomputable def mk_242 : List (List (Option mEnt)) := [[a1 (.aload_n 0), a0 (.getfield 346) 3 232 0 4 3 0, none, none, a3 (.ifCond .eq 7), none, none, a1 (.iconst 1), a3 (.goto 4), none, none, a1 (.iconst 0), a1 (.istore_n 1), a1 (.aload_n 0), a1 (.iconst 0), a0 (.putfield 346) 3 232 0 4 3 0, none, none, a1 (.iload_n 1), a1 (.ireturn)]]
/-- 243: EnvyRustModel.count -/
noncomputable def mk_243 : List (List (Option mEnt)) := [[a1 (.iconst 0), a1 (.istore_n 2), a1 (.iload_n 1), a0 (.tableswitch 126 0 7 #[45, 52, 59, 66, 74, 79, 84, 91]) 45 0 0 0 0 0, none, none, none, none, none, none, none, none, none, none, none, none, none, none, none, none, none, none, none, none, none, none, none, none, none, none, none, none],
  [none, none, none, none, none, none, none, none, none, none, none, none, none, none, none, none, a1 (.aload_n 0), a0 (.getfield 9) 3 229 0 4 0 0, none, none, a1 (.iconst 0), a1 (.iaload), a1 (.ireturn), a1 (.aload_n 0), a0 (.getfield 9) 3 229 0 4 0 0, none, none, a1 (.iconst 1), a1 (.iaload), a1 (.ireturn), a1 (.aload_n 0), a0 (.getfield 9) 3 229 0 4 0 0],
  [none, none, a1 (.iconst 2), a1 (.iaload), a1 (.ireturn), a1 (.aload_n 0), a0 (.invokevirtual 177) 3 294 10 167 1 0, none, none, a0 (.invokestatic 181) 3 295 12 168 1 0, none, none, a1 (.ireturn), a1 (.aload_n 0), a0 (.invokevirtual 184) 3 297 10 170 1 0, none, none, a1 (.ireturn), a1 (.aload_n 0), a0 (.getfield 254) 3 238 0 4 9 0, none, none, a1 (.ireturn), a1 (.aload_n 0), a0 (.getfield 9) 3 229 0 4 0 0, none, none, a1 (.iconst 3), a1 (.iaload), a1 (.ireturn), a1 (.iconst 0), a1 (.istore_n 3)],
  [a1 (.iload_n 3), a2 (.bipush 10), none, a3 (.if_icmp .ge 28), none, none, a1 (.iload_n 2), a1 (.aload_n 0), a0 (.getfield 9) 3 229 0 4 0 0, none, none, a1 (.iconst 4), a1 (.iload_n 3), a1 (.iadd), a1 (.iaload), a3 (.ifCond .ge 7), none, none, a1 (.iconst 0), a3 (.goto 4), none, none, a1 (.iconst 1), a1 (.iadd), a1 (.istore_n 2), a3 (.iinc 3 1), none, none, a3 (.goto (-28)), none, none, a1 (.iload_n 2)],
  [a1 (.ireturn), a1 (.aload_n 0), a0 (.ldc 70) 2 256 2 0 0 (-1000001), none, a0 (.invokevirtual 76) 3 257 10 135 2 0, none, none, a1 (.ireturn)]]
/-- 244: EnvyRustModel.status -/
noncomputable def mk_244 : List (List (Option mEnt)) := [[a1 (.iload_n 1), a1 (.iconst (-1)), a2 (.bipush 6), none, a0 (.invokestatic 80) 3 254 12 133 3 0, none, none, a3 (.ifCond .eq 14), none, none, a1 (.aload_n 0), a0 (.getfield 19) 3 233 0 4 4 0, none, none, a1 (.iload_n 1), a1 (.iconst 1), a1 (.iadd), a1 (.iaload), a3 (.goto 9), none, none, a1 (.aload_n 0), a0 (.ldc 70) 2 256 2 0 0 (-1000001), none, a0 (.invokevirtual 76) 3 257 10 135 2 0, none, none, a1 (.ireturn)]]
/-- 245: EnvyRustLaw.law -/
noncomputable def mk_245_0 : List (List (Option mEnt)) := [[a0 (.new 7) 3 0 4 3 0 0, none, none, a1 (.dup), a0 (.invokespecial 9) 3 1 14 0 1 0, none, none, a1 (.astore_n 1), a0 (.new 10) 3 218 4 4 0 0, none, none, a1 (.dup), a0 (.invokespecial 12) 3 219 14 131 1 0, none, none, a1 (.astore_n 2), a1 (.iconst 0), a1 (.istore_n 3), a1 (.iload_n 3), a1 (.aload_n 0), a1 (.arraylength), a2 (.bipush 6), none, a1 (.isub), a3 (.if_icmp .gt 1700), none, none, a1 (.aload_n 0), a1 (.iload_n 3), a1 (.iaload), a2 (.bipush 63), none],
  [a1 (.iand), a0 (.tableswitch 1685 0 49 #[215, 248, 281, 324, 357, 390, 433, 466, 489, 512, 545, 568, 591, 614, 647, 680, 713, 746, 779, 802, 835, 868, 891, 914, 927, 940, 973, 1016, 1059, 1102, 1115, 1158, 1201, 1224, 1257, 1280, 1313, 1326, 1339, 1372, 1405, 1448, 1491, 1554, 1577, 1600, 1613, 1626, 1639, 1662]) 215 0 0 0 0 0, none, none, none, none, none, none, none, none, none, none, none, none, none, none, none, none, none, none, none, none, none, none, none, none, none, none, none, none, none, none],
  [none, none, none, none, none, none, none, none, none, none, none, none, none, none, none, none, none, none, none, none, none, none, none, none, none, none, none, none, none, none, none, none],
  [none, none, none, none, none, none, none, none, none, none, none, none, none, none, none, none, none, none, none, none, none, none, none, none, none, none, none, none, none, none, none, none],
  [none, none, none, none, none, none, none, none, none, none, none, none, none, none, none, none, none, none, none, none, none, none, none, none, none, none, none, none, none, none, none, none],
  [none, none, none, none, none, none, none, none, none, none, none, none, none, none, none, none, none, none, none, none, none, none, none, none, none, none, none, none, none, none, none, none],
  [none, none, none, none, none, none, none, none, none, none, none, none, none, none, none, none, none, none, none, none, none, none, none, none, none, none, none, none, none, none, none, none],
  [none, none, none, none, none, none, none, none, none, none, none, none, none, none, none, none, none, none, none, none, none, none, none, none, a1 (.aload_n 1), a1 (.aload_n 0), a1 (.iload_n 3), a1 (.iconst 1), a1 (.iadd), a1 (.iaload), a1 (.aload_n 0), a1 (.iload_n 3)]]
noncomputable def mk_245_1 : List (List (Option mEnt)) := [[a1 (.iconst 2), a1 (.iadd), a1 (.iaload), a0 (.invokevirtual 13) 3 58 10 5 3 0, none, none, a1 (.pop), a1 (.aload_n 2), a1 (.aload_n 0), a1 (.iload_n 3), a1 (.iconst 1), a1 (.iadd), a1 (.iaload), a1 (.aload_n 0), a1 (.iload_n 3), a1 (.iconst 2), a1 (.iadd), a1 (.iaload), a0 (.invokevirtual 17) 3 253 10 132 3 0, none, none, a1 (.pop), a3 (.goto 1440), none, none, a1 (.aload_n 1), a1 (.aload_n 0), a1 (.iload_n 3), a1 (.iconst 1), a1 (.iadd), a1 (.iaload), a1 (.aload_n 0)],
  [a1 (.iload_n 3), a1 (.iconst 2), a1 (.iadd), a1 (.iaload), a0 (.invokevirtual 18) 3 64 10 9 3 0, none, none, a1 (.pop), a1 (.aload_n 2), a1 (.aload_n 0), a1 (.iload_n 3), a1 (.iconst 1), a1 (.iadd), a1 (.iaload), a1 (.aload_n 0), a1 (.iload_n 3), a1 (.iconst 2), a1 (.iadd), a1 (.iaload), a0 (.invokevirtual 21) 3 261 10 138 3 0, none, none, a1 (.pop), a3 (.goto 1407), none, none, a1 (.aload_n 1), a1 (.aload_n 0), a1 (.iload_n 3), a1 (.iconst 1), a1 (.iadd), a1 (.iaload)],
  [a1 (.aload_n 0), a1 (.iload_n 3), a1 (.iconst 2), a1 (.iadd), a1 (.iaload), a1 (.aload_n 0), a1 (.iload_n 3), a1 (.iconst 3), a1 (.iadd), a1 (.iaload), a0 (.invokevirtual 22) 3 74 10 17 4 0, none, none, a1 (.pop), a1 (.aload_n 2), a1 (.aload_n 0), a1 (.iload_n 3), a1 (.iconst 1), a1 (.iadd), a1 (.iaload), a1 (.aload_n 0), a1 (.iload_n 3), a1 (.iconst 2), a1 (.iadd), a1 (.iaload), a1 (.aload_n 0), a1 (.iload_n 3), a1 (.iconst 3), a1 (.iadd), a1 (.iaload), a0 (.invokevirtual 26) 3 274 10 149 4 0, none],
  [none, a1 (.pop), a3 (.goto 1364), none, none, a1 (.aload_n 1), a1 (.aload_n 0), a1 (.iload_n 3), a1 (.iconst 1), a1 (.iadd), a1 (.iaload), a1 (.aload_n 0), a1 (.iload_n 3), a1 (.iconst 2), a1 (.iadd), a1 (.iaload), a0 (.invokevirtual 27) 3 81 10 22 3 0, none, none, a1 (.pop), a1 (.aload_n 2), a1 (.aload_n 0), a1 (.iload_n 3), a1 (.iconst 1), a1 (.iadd), a1 (.iaload), a1 (.aload_n 0), a1 (.iload_n 3), a1 (.iconst 2), a1 (.iadd), a1 (.iaload), a0 (.invokevirtual 30) 3 282 10 156 3 0],
  [none, none, a1 (.pop), a3 (.goto 1331), none, none, a1 (.aload_n 1), a1 (.aload_n 0), a1 (.iload_n 3), a1 (.iconst 1), a1 (.iadd), a1 (.iaload), a1 (.aload_n 0), a1 (.iload_n 3), a1 (.iconst 2), a1 (.iadd), a1 (.iaload), a0 (.invokevirtual 31) 3 83 10 24 3 0, none, none, a1 (.pop), a1 (.aload_n 2), a1 (.aload_n 0), a1 (.iload_n 3), a1 (.iconst 1), a1 (.iadd), a1 (.iaload), a1 (.aload_n 0), a1 (.iload_n 3), a1 (.iconst 2), a1 (.iadd), a1 (.iaload)],
  [a0 (.invokevirtual 34) 3 285 10 159 3 0, none, none, a1 (.pop), a3 (.goto 1298), none, none, a1 (.aload_n 1), a1 (.aload_n 0), a1 (.iload_n 3), a1 (.iconst 1), a1 (.iadd), a1 (.iaload), a1 (.aload_n 0), a1 (.iload_n 3), a1 (.iconst 2), a1 (.iadd), a1 (.iaload), a1 (.aload_n 0), a1 (.iload_n 3), a1 (.iconst 3), a1 (.iadd), a1 (.iaload), a0 (.invokevirtual 35) 3 85 10 26 4 0, none, none, a1 (.pop), a1 (.aload_n 2), a1 (.aload_n 0), a1 (.iload_n 3), a1 (.iconst 1), a1 (.iadd)],
  [a1 (.iaload), a1 (.aload_n 0), a1 (.iload_n 3), a1 (.iconst 2), a1 (.iadd), a1 (.iaload), a1 (.aload_n 0), a1 (.iload_n 3), a1 (.iconst 3), a1 (.iadd), a1 (.iaload), a0 (.invokevirtual 38) 3 287 10 161 4 0, none, none, a1 (.pop), a3 (.goto 1255), none, none, a1 (.aload_n 1), a1 (.aload_n 0), a1 (.iload_n 3), a1 (.iconst 1), a1 (.iadd), a1 (.iaload), a1 (.aload_n 0), a1 (.iload_n 3), a1 (.iconst 2), a1 (.iadd), a1 (.iaload), a0 (.invokevirtual 39) 3 87 10 28 3 0, none, none],
  [a1 (.pop), a1 (.aload_n 2), a1 (.aload_n 0), a1 (.iload_n 3), a1 (.iconst 1), a1 (.iadd), a1 (.iaload), a1 (.aload_n 0), a1 (.iload_n 3), a1 (.iconst 2), a1 (.iadd), a1 (.iaload), a0 (.invokevirtual 42) 3 288 10 162 3 0, none, none, a1 (.pop), a3 (.goto 1222), none, none, a1 (.aload_n 1), a1 (.aload_n 0), a1 (.iload_n 3), a1 (.iconst 1), a1 (.iadd), a1 (.iaload), a0 (.invokevirtual 43) 3 89 10 29 2 0, none, none, a1 (.pop), a1 (.aload_n 2), a1 (.aload_n 0), a1 (.iload_n 3)]]
noncomputable def mk_245_2 : List (List (Option mEnt)) := [[a1 (.iconst 1), a1 (.iadd), a1 (.iaload), a0 (.invokevirtual 47) 3 289 10 163 2 0, none, none, a1 (.pop), a3 (.goto 1199), none, none, a1 (.aload_n 1), a1 (.aload_n 0), a1 (.iload_n 3), a1 (.iconst 1), a1 (.iadd), a1 (.iaload), a0 (.invokevirtual 48) 3 102 10 37 2 0, none, none, a1 (.pop), a1 (.aload_n 2), a1 (.aload_n 0), a1 (.iload_n 3), a1 (.iconst 1), a1 (.iadd), a1 (.iaload), a0 (.invokevirtual 51) 3 296 10 169 2 0, none, none, a1 (.pop), a3 (.goto 1176), none],
  [none, a1 (.aload_n 1), a1 (.aload_n 0), a1 (.iload_n 3), a1 (.iconst 1), a1 (.iadd), a1 (.iaload), a1 (.aload_n 0), a1 (.iload_n 3), a1 (.iconst 2), a1 (.iadd), a1 (.iaload), a0 (.invokevirtual 52) 3 106 10 41 3 0, none, none, a1 (.pop), a1 (.aload_n 2), a1 (.aload_n 0), a1 (.iload_n 3), a1 (.iconst 1), a1 (.iadd), a1 (.iaload), a1 (.aload_n 0), a1 (.iload_n 3), a1 (.iconst 2), a1 (.iadd), a1 (.iaload), a0 (.invokevirtual 55) 3 299 10 172 3 0, none, none, a1 (.pop), a3 (.goto 1143)],
  [none, none, a1 (.aload_n 1), a1 (.aload_n 0), a1 (.iload_n 3), a1 (.iconst 1), a1 (.iadd), a1 (.iaload), a0 (.invokevirtual 56) 3 110 10 44 2 0, none, none, a1 (.pop), a1 (.aload_n 2), a1 (.aload_n 0), a1 (.iload_n 3), a1 (.iconst 1), a1 (.iadd), a1 (.iaload), a0 (.invokevirtual 59) 3 303 10 176 2 0, none, none, a1 (.pop), a3 (.goto 1120), none, none, a1 (.aload_n 1), a1 (.aload_n 0), a1 (.iload_n 3), a1 (.iconst 1), a1 (.iadd), a1 (.iaload), a0 (.invokevirtual 60) 3 113 10 45 2 0],
  [none, none, a1 (.pop), a1 (.aload_n 2), a1 (.aload_n 0), a1 (.iload_n 3), a1 (.iconst 1), a1 (.iadd), a1 (.iaload), a0 (.invokevirtual 63) 3 306 10 178 2 0, none, none, a1 (.pop), a3 (.goto 1097), none, none, a1 (.aload_n 1), a1 (.aload_n 0), a1 (.iload_n 3), a1 (.iconst 1), a1 (.iadd), a1 (.iaload), a0 (.invokevirtual 64) 3 114 10 46 2 0, none, none, a1 (.pop), a1 (.aload_n 2), a1 (.aload_n 0), a1 (.iload_n 3), a1 (.iconst 1), a1 (.iadd), a1 (.iaload)],
  [a0 (.invokevirtual 67) 3 307 10 179 2 0, none, none, a1 (.pop), a3 (.goto 1074), none, none, a1 (.aload_n 1), a1 (.aload_n 0), a1 (.iload_n 3), a1 (.iconst 1), a1 (.iadd), a1 (.iaload), a1 (.aload_n 0), a1 (.iload_n 3), a1 (.iconst 2), a1 (.iadd), a1 (.iaload), a0 (.invokevirtual 68) 3 115 10 47 3 0, none, none, a1 (.pop), a1 (.aload_n 2), a1 (.aload_n 0), a1 (.iload_n 3), a1 (.iconst 1), a1 (.iadd), a1 (.iaload), a1 (.aload_n 0), a1 (.iload_n 3), a1 (.iconst 2), a1 (.iadd)],
  [a1 (.iaload), a0 (.invokevirtual 71) 3 309 10 181 3 0, none, none, a1 (.pop), a3 (.goto 1041), none, none, a1 (.aload_n 1), a1 (.aload_n 0), a1 (.iload_n 3), a1 (.iconst 1), a1 (.iadd), a1 (.iaload), a1 (.aload_n 0), a1 (.iload_n 3), a1 (.iconst 2), a1 (.iadd), a1 (.iaload), a0 (.invokevirtual 72) 3 117 10 48 3 0, none, none, a1 (.pop), a1 (.aload_n 2), a1 (.aload_n 0), a1 (.iload_n 3), a1 (.iconst 1), a1 (.iadd), a1 (.iaload), a1 (.aload_n 0), a1 (.iload_n 3), a1 (.iconst 2)],
  [a1 (.iadd), a1 (.iaload), a0 (.invokevirtual 75) 3 310 10 182 3 0, none, none, a1 (.pop), a3 (.goto 1008), none, none, a1 (.aload_n 1), a1 (.aload_n 0), a1 (.iload_n 3), a1 (.iconst 1), a1 (.iadd), a1 (.iaload), a1 (.aload_n 0), a1 (.iload_n 3), a1 (.iconst 2), a1 (.iadd), a1 (.iaload), a0 (.invokevirtual 76) 3 119 10 50 3 0, none, none, a1 (.pop), a1 (.aload_n 2), a1 (.aload_n 0), a1 (.iload_n 3), a1 (.iconst 1), a1 (.iadd), a1 (.iaload), a1 (.aload_n 0), a1 (.iload_n 3)],
  [a1 (.iconst 2), a1 (.iadd), a1 (.iaload), a0 (.invokevirtual 79) 3 313 10 184 3 0, none, none, a1 (.pop), a3 (.goto 975), none, none, a1 (.aload_n 1), a1 (.aload_n 0), a1 (.iload_n 3), a1 (.iconst 1), a1 (.iadd), a1 (.iaload), a1 (.aload_n 0), a1 (.iload_n 3), a1 (.iconst 2), a1 (.iadd), a1 (.iaload), a0 (.invokevirtual 80) 3 120 10 51 3 0, none, none, a1 (.pop), a1 (.aload_n 2), a1 (.aload_n 0), a1 (.iload_n 3), a1 (.iconst 1), a1 (.iadd), a1 (.iaload), a1 (.aload_n 0)]]
noncomputable def mk_245_3 : List (List (Option mEnt)) := [[a1 (.iload_n 3), a1 (.iconst 2), a1 (.iadd), a1 (.iaload), a0 (.invokevirtual 83) 3 314 10 185 3 0, none, none, a1 (.pop), a3 (.goto 942), none, none, a1 (.aload_n 1), a1 (.aload_n 0), a1 (.iload_n 3), a1 (.iconst 1), a1 (.iadd), a1 (.iaload), a1 (.aload_n 0), a1 (.iload_n 3), a1 (.iconst 2), a1 (.iadd), a1 (.iaload), a0 (.invokevirtual 84) 3 122 10 53 3 0, none, none, a1 (.pop), a1 (.aload_n 2), a1 (.aload_n 0), a1 (.iload_n 3), a1 (.iconst 1), a1 (.iadd), a1 (.iaload)],
  [a1 (.aload_n 0), a1 (.iload_n 3), a1 (.iconst 2), a1 (.iadd), a1 (.iaload), a0 (.invokevirtual 87) 3 316 10 187 3 0, none, none, a1 (.pop), a3 (.goto 909), none, none, a1 (.aload_n 1), a1 (.aload_n 0), a1 (.iload_n 3), a1 (.iconst 1), a1 (.iadd), a1 (.iaload), a0 (.invokevirtual 88) 3 123 10 54 2 0, none, none, a1 (.pop), a1 (.aload_n 2), a1 (.aload_n 0), a1 (.iload_n 3), a1 (.iconst 1), a1 (.iadd), a1 (.iaload), a0 (.invokevirtual 91) 3 317 10 188 2 0, none, none, a1 (.pop)],
  [a3 (.goto 886), none, none, a1 (.aload_n 1), a1 (.aload_n 0), a1 (.iload_n 3), a1 (.iconst 1), a1 (.iadd), a1 (.iaload), a1 (.aload_n 0), a1 (.iload_n 3), a1 (.iconst 2), a1 (.iadd), a1 (.iaload), a0 (.invokevirtual 92) 3 124 10 55 3 0, none, none, a1 (.pop), a1 (.aload_n 2), a1 (.aload_n 0), a1 (.iload_n 3), a1 (.iconst 1), a1 (.iadd), a1 (.iaload), a1 (.aload_n 0), a1 (.iload_n 3), a1 (.iconst 2), a1 (.iadd), a1 (.iaload), a0 (.invokevirtual 95) 3 318 10 189 3 0, none, none],
  [a1 (.pop), a3 (.goto 853), none, none, a1 (.aload_n 1), a1 (.aload_n 0), a1 (.iload_n 3), a1 (.iconst 1), a1 (.iadd), a1 (.iaload), a1 (.aload_n 0), a1 (.iload_n 3), a1 (.iconst 2), a1 (.iadd), a1 (.iaload), a0 (.invokevirtual 96) 3 131 10 59 3 0, none, none, a1 (.pop), a1 (.aload_n 2), a1 (.aload_n 0), a1 (.iload_n 3), a1 (.iconst 1), a1 (.iadd), a1 (.iaload), a1 (.aload_n 0), a1 (.iload_n 3), a1 (.iconst 2), a1 (.iadd), a1 (.iaload), a0 (.invokevirtual 99) 3 321 10 192 3 0, none],
  [none, a1 (.pop), a3 (.goto 820), none, none, a1 (.aload_n 1), a1 (.aload_n 0), a1 (.iload_n 3), a1 (.iconst 1), a1 (.iadd), a1 (.iaload), a0 (.invokevirtual 100) 3 132 10 60 2 0, none, none, a1 (.pop), a1 (.aload_n 2), a1 (.aload_n 0), a1 (.iload_n 3), a1 (.iconst 1), a1 (.iadd), a1 (.iaload), a0 (.invokevirtual 103) 3 322 10 193 2 0, none, none, a1 (.pop), a3 (.goto 797), none, none, a1 (.aload_n 1), a1 (.aload_n 0), a1 (.iload_n 3), a1 (.iconst 1)],
  [a1 (.iadd), a1 (.iaload), a0 (.invokevirtual 104) 3 133 10 61 2 0, none, none, a1 (.pop), a1 (.aload_n 2), a1 (.aload_n 0), a1 (.iload_n 3), a1 (.iconst 1), a1 (.iadd), a1 (.iaload), a0 (.invokevirtual 107) 3 324 10 195 2 0, none, none, a1 (.pop), a3 (.goto 774), none, none, a1 (.aload_n 1), a0 (.invokevirtual 108) 3 135 10 63 1 0, none, none, a1 (.pop), a1 (.aload_n 2), a0 (.invokevirtual 112) 3 325 10 196 1 0, none, none, a1 (.pop), a3 (.goto 761), none, none],
  [a1 (.aload_n 1), a0 (.invokevirtual 113) 3 136 10 64 1 0, none, none, a1 (.pop), a1 (.aload_n 2), a0 (.invokevirtual 116) 3 326 10 197 1 0, none, none, a1 (.pop), a3 (.goto 748), none, none, a1 (.aload_n 1), a1 (.aload_n 0), a1 (.iload_n 3), a1 (.iconst 1), a1 (.iadd), a1 (.iaload), a1 (.aload_n 0), a1 (.iload_n 3), a1 (.iconst 2), a1 (.iadd), a1 (.iaload), a0 (.invokevirtual 117) 3 137 10 65 3 0, none, none, a1 (.pop), a1 (.aload_n 2), a1 (.aload_n 0), a1 (.iload_n 3), a1 (.iconst 1)],
  [a1 (.iadd), a1 (.iaload), a1 (.aload_n 0), a1 (.iload_n 3), a1 (.iconst 2), a1 (.iadd), a1 (.iaload), a0 (.invokevirtual 120) 3 327 10 198 3 0, none, none, a1 (.pop), a3 (.goto 715), none, none, a1 (.aload_n 1), a1 (.aload_n 0), a1 (.iload_n 3), a1 (.iconst 1), a1 (.iadd), a1 (.iaload), a1 (.aload_n 0), a1 (.iload_n 3), a1 (.iconst 2), a1 (.iadd), a1 (.iaload), a1 (.aload_n 0), a1 (.iload_n 3), a1 (.iconst 3), a1 (.iadd), a1 (.iaload), a0 (.invokevirtual 121) 3 141 10 68 4 0, none]]
noncomputable def mk_245_4 : List (List (Option mEnt)) := [[none, a1 (.pop), a1 (.aload_n 2), a1 (.aload_n 0), a1 (.iload_n 3), a1 (.iconst 1), a1 (.iadd), a1 (.iaload), a1 (.aload_n 0), a1 (.iload_n 3), a1 (.iconst 2), a1 (.iadd), a1 (.iaload), a1 (.aload_n 0), a1 (.iload_n 3), a1 (.iconst 3), a1 (.iadd), a1 (.iaload), a0 (.invokevirtual 124) 3 330 10 201 4 0, none, none, a1 (.pop), a3 (.goto 672), none, none, a1 (.aload_n 1), a1 (.aload_n 0), a1 (.iload_n 3), a1 (.iconst 1), a1 (.iadd), a1 (.iaload), a1 (.aload_n 0)],
  [a1 (.iload_n 3), a1 (.iconst 2), a1 (.iadd), a1 (.iaload), a1 (.aload_n 0), a1 (.iload_n 3), a1 (.iconst 3), a1 (.iadd), a1 (.iaload), a0 (.invokevirtual 125) 3 145 10 72 4 0, none, none, a1 (.pop), a1 (.aload_n 2), a1 (.aload_n 0), a1 (.iload_n 3), a1 (.iconst 1), a1 (.iadd), a1 (.iaload), a1 (.aload_n 0), a1 (.iload_n 3), a1 (.iconst 2), a1 (.iadd), a1 (.iaload), a1 (.aload_n 0), a1 (.iload_n 3), a1 (.iconst 3), a1 (.iadd), a1 (.iaload), a0 (.invokevirtual 128) 3 333 10 204 4 0, none, none],
  [a1 (.pop), a3 (.goto 629), none, none, a1 (.aload_n 1), a1 (.aload_n 0), a1 (.iload_n 3), a1 (.iconst 1), a1 (.iadd), a1 (.iaload), a1 (.aload_n 0), a1 (.iload_n 3), a1 (.iconst 2), a1 (.iadd), a1 (.iaload), a1 (.aload_n 0), a1 (.iload_n 3), a1 (.iconst 3), a1 (.iadd), a1 (.iaload), a0 (.invokevirtual 129) 3 146 10 73 4 0, none, none, a1 (.pop), a1 (.aload_n 2), a1 (.aload_n 0), a1 (.iload_n 3), a1 (.iconst 1), a1 (.iadd), a1 (.iaload), a1 (.aload_n 0), a1 (.iload_n 3)],
  [a1 (.iconst 2), a1 (.iadd), a1 (.iaload), a1 (.aload_n 0), a1 (.iload_n 3), a1 (.iconst 3), a1 (.iadd), a1 (.iaload), a0 (.invokevirtual 132) 3 335 10 206 4 0, none, none, a1 (.pop), a3 (.goto 586), none, none, a1 (.aload_n 1), a0 (.invokevirtual 133) 3 147 10 74 1 0, none, none, a1 (.pop), a1 (.aload_n 2), a0 (.invokevirtual 136) 3 336 10 207 1 0, none, none, a1 (.pop), a3 (.goto 573), none, none, a1 (.aload_n 1), a1 (.aload_n 0), a1 (.iload_n 3), a1 (.iconst 1)],
  [a1 (.iadd), a1 (.iaload), a1 (.aload_n 0), a1 (.iload_n 3), a1 (.iconst 2), a1 (.iadd), a1 (.iaload), a1 (.aload_n 0), a1 (.iload_n 3), a1 (.iconst 3), a1 (.iadd), a1 (.iaload), a0 (.invokevirtual 137) 3 148 10 75 4 0, none, none, a1 (.pop), a1 (.aload_n 2), a1 (.aload_n 0), a1 (.iload_n 3), a1 (.iconst 1), a1 (.iadd), a1 (.iaload), a1 (.aload_n 0), a1 (.iload_n 3), a1 (.iconst 2), a1 (.iadd), a1 (.iaload), a1 (.aload_n 0), a1 (.iload_n 3), a1 (.iconst 3), a1 (.iadd), a1 (.iaload)],
  [a0 (.invokevirtual 140) 3 337 10 208 4 0, none, none, a1 (.pop), a3 (.goto 530), none, none, a1 (.aload_n 1), a1 (.aload_n 0), a1 (.iload_n 3), a1 (.iconst 1), a1 (.iadd), a1 (.iaload), a1 (.aload_n 0), a1 (.iload_n 3), a1 (.iconst 2), a1 (.iadd), a1 (.iaload), a1 (.aload_n 0), a1 (.iload_n 3), a1 (.iconst 3), a1 (.iadd), a1 (.iaload), a0 (.invokevirtual 141) 3 155 10 81 4 0, none, none, a1 (.pop), a1 (.aload_n 2), a1 (.aload_n 0), a1 (.iload_n 3), a1 (.iconst 1), a1 (.iadd)],
  [a1 (.iaload), a1 (.aload_n 0), a1 (.iload_n 3), a1 (.iconst 2), a1 (.iadd), a1 (.iaload), a1 (.aload_n 0), a1 (.iload_n 3), a1 (.iconst 3), a1 (.iadd), a1 (.iaload), a0 (.invokevirtual 144) 3 343 10 213 4 0, none, none, a1 (.pop), a3 (.goto 487), none, none, a1 (.aload_n 1), a1 (.aload_n 0), a1 (.iload_n 3), a1 (.iconst 1), a1 (.iadd), a1 (.iaload), a0 (.invokevirtual 145) 3 156 10 82 2 0, none, none, a1 (.pop), a1 (.aload_n 2), a1 (.aload_n 0), a1 (.iload_n 3), a1 (.iconst 1)],
  [a1 (.iadd), a1 (.iaload), a0 (.invokevirtual 148) 3 344 10 214 2 0, none, none, a1 (.pop), a3 (.goto 464), none, none, a1 (.aload_n 1), a1 (.aload_n 0), a1 (.iload_n 3), a1 (.iconst 1), a1 (.iadd), a1 (.iaload), a1 (.aload_n 0), a1 (.iload_n 3), a1 (.iconst 2), a1 (.iadd), a1 (.iaload), a0 (.invokevirtual 149) 3 159 10 84 3 0, none, none, a1 (.pop2), a1 (.aload_n 2), a1 (.aload_n 0), a1 (.iload_n 3), a1 (.iconst 1), a1 (.iadd), a1 (.iaload), a1 (.aload_n 0), a1 (.iload_n 3)]]
noncomputable def mk_245_5 : List (List (Option mEnt)) := [[a1 (.iconst 2), a1 (.iadd), a1 (.iaload), a0 (.invokevirtual 153) 3 347 10 216 3 0, none, none, a1 (.pop2), a3 (.goto 431), none, none, a1 (.aload_n 1), a1 (.aload_n 0), a1 (.iload_n 3), a1 (.iconst 1), a1 (.iadd), a1 (.iaload), a0 (.invokevirtual 154) 3 161 10 86 2 0, none, none, a1 (.pop), a1 (.aload_n 2), a1 (.aload_n 0), a1 (.iload_n 3), a1 (.iconst 1), a1 (.iadd), a1 (.iaload), a0 (.invokevirtual 157) 3 348 10 217 2 0, none, none, a1 (.pop), a3 (.goto 408), none],
  [none, a1 (.aload_n 1), a1 (.aload_n 0), a1 (.iload_n 3), a1 (.iconst 1), a1 (.iadd), a1 (.iaload), a1 (.aload_n 0), a1 (.iload_n 3), a1 (.iconst 2), a1 (.iadd), a1 (.iaload), a0 (.invokevirtual 158) 3 162 10 87 3 0, none, none, a1 (.pop), a1 (.aload_n 2), a1 (.aload_n 0), a1 (.iload_n 3), a1 (.iconst 1), a1 (.iadd), a1 (.iaload), a1 (.aload_n 0), a1 (.iload_n 3), a1 (.iconst 2), a1 (.iadd), a1 (.iaload), a0 (.invokevirtual 161) 3 349 10 218 3 0, none, none, a1 (.pop), a3 (.goto 375)],
  [none, none, a1 (.aload_n 1), a0 (.invokevirtual 162) 3 164 10 89 1 0, none, none, a1 (.pop), a1 (.aload_n 2), a0 (.invokevirtual 165) 3 350 10 219 1 0, none, none, a1 (.pop), a3 (.goto 362), none, none, a1 (.aload_n 1), a0 (.invokevirtual 166) 3 165 10 90 1 0, none, none, a1 (.pop), a1 (.aload_n 2), a0 (.invokevirtual 169) 3 351 10 220 1 0, none, none, a1 (.pop), a3 (.goto 349), none, none, a1 (.aload_n 1), a1 (.aload_n 0), a1 (.iload_n 3), a1 (.iconst 1)],
  [a1 (.iadd), a1 (.iaload), a1 (.aload_n 0), a1 (.iload_n 3), a1 (.iconst 2), a1 (.iadd), a1 (.iaload), a0 (.invokevirtual 170) 3 198 10 114 3 0, none, none, a1 (.pop), a1 (.aload_n 2), a1 (.aload_n 0), a1 (.iload_n 3), a1 (.iconst 1), a1 (.iadd), a1 (.iaload), a1 (.aload_n 0), a1 (.iload_n 3), a1 (.iconst 2), a1 (.iadd), a1 (.iaload), a0 (.invokevirtual 173) 3 372 10 231 3 0, none, none, a1 (.pop), a3 (.goto 316), none, none, a1 (.aload_n 1), a1 (.aload_n 0), a1 (.iload_n 3)],
  [a1 (.iconst 1), a1 (.iadd), a1 (.iaload), a1 (.aload_n 0), a1 (.iload_n 3), a1 (.iconst 2), a1 (.iadd), a1 (.iaload), a0 (.invokevirtual 174) 3 199 10 115 3 0, none, none, a1 (.pop), a1 (.aload_n 2), a1 (.aload_n 0), a1 (.iload_n 3), a1 (.iconst 1), a1 (.iadd), a1 (.iaload), a1 (.aload_n 0), a1 (.iload_n 3), a1 (.iconst 2), a1 (.iadd), a1 (.iaload), a0 (.invokevirtual 177) 3 374 10 233 3 0, none, none, a1 (.pop), a3 (.goto 283), none, none, a1 (.aload_n 1), a1 (.aload_n 0)],
  [a1 (.iload_n 3), a1 (.iconst 1), a1 (.iadd), a1 (.iaload), a1 (.aload_n 0), a1 (.iload_n 3), a1 (.iconst 2), a1 (.iadd), a1 (.iaload), a1 (.aload_n 0), a1 (.iload_n 3), a1 (.iconst 3), a1 (.iadd), a1 (.iaload), a0 (.invokevirtual 178) 3 202 10 116 4 0, none, none, a1 (.pop), a1 (.aload_n 2), a1 (.aload_n 0), a1 (.iload_n 3), a1 (.iconst 1), a1 (.iadd), a1 (.iaload), a1 (.aload_n 0), a1 (.iload_n 3), a1 (.iconst 2), a1 (.iadd), a1 (.iaload), a1 (.aload_n 0), a1 (.iload_n 3), a1 (.iconst 3)],
  [a1 (.iadd), a1 (.iaload), a0 (.invokevirtual 181) 3 376 10 234 4 0, none, none, a1 (.pop), a3 (.goto 240), none, none, a1 (.aload_n 1), a1 (.aload_n 0), a1 (.iload_n 3), a1 (.iconst 1), a1 (.iadd), a1 (.iaload), a1 (.aload_n 0), a1 (.iload_n 3), a1 (.iconst 2), a1 (.iadd), a1 (.iaload), a1 (.aload_n 0), a1 (.iload_n 3), a1 (.iconst 3), a1 (.iadd), a1 (.iaload), a0 (.invokevirtual 182) 3 205 10 118 4 0, none, none, a1 (.pop), a1 (.aload_n 2), a1 (.aload_n 0), a1 (.iload_n 3)],
  [a1 (.iconst 1), a1 (.iadd), a1 (.iaload), a1 (.aload_n 0), a1 (.iload_n 3), a1 (.iconst 2), a1 (.iadd), a1 (.iaload), a1 (.aload_n 0), a1 (.iload_n 3), a1 (.iconst 3), a1 (.iadd), a1 (.iaload), a0 (.invokevirtual 185) 3 378 10 235 4 0, none, none, a1 (.pop), a3 (.goto 197), none, none, a1 (.aload_n 1), a1 (.aload_n 0), a1 (.iload_n 3), a1 (.iconst 1), a1 (.iadd), a1 (.iaload), a1 (.aload_n 0), a1 (.iload_n 3), a1 (.iconst 2), a1 (.iadd), a1 (.iaload), a1 (.aload_n 0)]]
noncomputable def mk_245_6 : List (List (Option mEnt)) := [[a1 (.iload_n 3), a1 (.iconst 3), a1 (.iadd), a1 (.iaload), a1 (.aload_n 0), a1 (.iload_n 3), a1 (.iconst 4), a1 (.iadd), a1 (.iaload), a1 (.aload_n 0), a1 (.iload_n 3), a1 (.iconst 5), a1 (.iadd), a1 (.iaload), a0 (.invokevirtual 186) 3 207 10 120 6 0, none, none, a1 (.pop), a1 (.aload_n 2), a1 (.aload_n 0), a1 (.iload_n 3), a1 (.iconst 1), a1 (.iadd), a1 (.iaload), a1 (.aload_n 0), a1 (.iload_n 3), a1 (.iconst 2), a1 (.iadd), a1 (.iaload), a1 (.aload_n 0), a1 (.iload_n 3), a1 (.iconst 3)],
  [a1 (.iadd), a1 (.iaload), a1 (.aload_n 0), a1 (.iload_n 3), a1 (.iconst 4), a1 (.iadd), a1 (.iaload), a1 (.aload_n 0), a1 (.iload_n 3), a1 (.iconst 5), a1 (.iadd), a1 (.iaload), a0 (.invokevirtual 190) 3 380 10 237 6 0, none, none, a1 (.pop), a3 (.goto 134), none, none, a1 (.aload_n 1), a1 (.aload_n 0), a1 (.iload_n 3), a1 (.iconst 1), a1 (.iadd), a1 (.iaload), a0 (.invokevirtual 191) 3 209 10 122 2 0, none, none, a1 (.pop), a1 (.aload_n 2), a1 (.aload_n 0), a1 (.iload_n 3)],
  [a1 (.iconst 1), a1 (.iadd), a1 (.iaload), a0 (.invokevirtual 194) 3 381 10 238 2 0, none, none, a1 (.pop), a3 (.goto 111), none, none, a1 (.aload_n 1), a1 (.aload_n 0), a1 (.iload_n 3), a1 (.iconst 1), a1 (.iadd), a1 (.iaload), a0 (.invokevirtual 195) 3 210 10 123 2 0, none, none, a1 (.pop), a1 (.aload_n 2), a1 (.aload_n 0), a1 (.iload_n 3), a1 (.iconst 1), a1 (.iadd), a1 (.iaload), a0 (.invokevirtual 198) 3 382 10 239 2 0, none, none, a1 (.pop), a3 (.goto 88), none],
  [none, a1 (.aload_n 1), a0 (.invokevirtual 199) 3 212 10 125 1 0, none, none, a1 (.aload_n 2), a0 (.invokevirtual 202) 3 383 10 240 1 0, none, none, a3 (.if_icmp .eq 77), none, none, a1 (.iconst 0), a1 (.ireturn), a1 (.aload_n 1), a0 (.invokevirtual 203) 3 213 10 126 1 0, none, none, a1 (.pop), a1 (.aload_n 2), a0 (.invokevirtual 206) 3 384 10 241 1 0, none, none, a1 (.pop), a3 (.goto 62), none, none, a1 (.aload_n 1), a0 (.invokevirtual 207) 3 214 10 127 1 0, none, none, a1 (.pop)],
  [a1 (.aload_n 2), a0 (.invokevirtual 210) 3 385 10 242 1 0, none, none, a1 (.pop), a3 (.goto 49), none, none, a1 (.aload_n 1), a1 (.aload_n 0), a1 (.iload_n 3), a1 (.iconst 1), a1 (.iadd), a1 (.iaload), a0 (.invokevirtual 211) 3 215 10 128 2 0, none, none, a1 (.pop), a1 (.aload_n 2), a1 (.aload_n 0), a1 (.iload_n 3), a1 (.iconst 1), a1 (.iadd), a1 (.iaload), a0 (.invokevirtual 214) 3 386 10 243 2 0, none, none, a1 (.pop), a3 (.goto 26), none, none, a1 (.aload_n 1)],
  [a1 (.aload_n 0), a1 (.iload_n 3), a1 (.iconst 1), a1 (.iadd), a1 (.iaload), a0 (.invokevirtual 215) 3 217 10 130 2 0, none, none, a1 (.pop), a1 (.aload_n 2), a1 (.aload_n 0), a1 (.iload_n 3), a1 (.iconst 1), a1 (.iadd), a1 (.iaload), a0 (.invokevirtual 218) 3 387 10 244 2 0, none, none, a1 (.pop), a3 (.goto 3), none, none, a3 (.iinc 3 6), none, none, a3 (.goto (-1703)), none, none, a1 (.iconst 1), a1 (.ireturn)]]
noncomputable def mk_245 : List (List (Option mEnt)) := mk_245_0 ++ (mk_245_1 ++ (mk_245_2 ++ (mk_245_3 ++ (mk_245_4 ++ (mk_245_5 ++ (mk_245_6))))))
noncomputable def mKs : List (List (List (List (Option mEnt)))) := [[mk_0, mk_1, mk_2, mk_3, mk_4, mk_5, mk_6, mk_7, mk_8, mk_9, mk_10, mk_11, mk_12, mk_13, mk_14, mk_15],
  [mk_16, mk_17, mk_18, mk_19, mk_20, mk_21, mk_22, mk_23, mk_24, mk_25, mk_26, mk_27, mk_28, mk_29, mk_30, mk_31],
  [mk_32, mk_33, mk_34, mk_35, mk_36, mk_37, mk_38, mk_39, mk_40, mk_41, mk_42, mk_43, mk_44, mk_45, mk_46, mk_47],
  [mk_48, mk_49, mk_50, mk_51, mk_52, mk_53, mk_54, mk_55, mk_56, mk_57, mk_58, mk_59, mk_60, mk_61, mk_62, mk_63],
  [mk_64, mk_65, mk_66, mk_67, mk_68, mk_69, mk_70, mk_71, mk_72, mk_73, mk_74, mk_75, mk_76, mk_77, mk_78, mk_79],
  [mk_80, mk_81, mk_82, mk_83, mk_84, mk_85, mk_86, mk_87, mk_88, mk_89, mk_90, mk_91, mk_92, mk_93, mk_94, mk_95],
  [mk_96, mk_97, mk_98, mk_99, mk_100, mk_101, mk_102, mk_103, mk_104, mk_105, mk_106, mk_107, mk_108, mk_109, mk_110, mk_111],
  [mk_112, mk_113, mk_114, mk_115, mk_116, mk_117, mk_118, mk_119, mk_120, mk_121, mk_122, mk_123, mk_124, mk_125, mk_126, mk_127],
  [mk_128, mk_129, mk_130, mk_131, mk_132, mk_133, mk_134, mk_135, mk_136, mk_137, mk_138, mk_139, mk_140, mk_141, mk_142, mk_143],
  [mk_144, mk_145, mk_146, mk_147, mk_148, mk_149, mk_150, mk_151, mk_152, mk_153, mk_154, mk_155, mk_156, mk_157, mk_158, mk_159],
  [mk_160, mk_161, mk_162, mk_163, mk_164, mk_165, mk_166, mk_167, mk_168, mk_169, mk_170, mk_171, mk_172, mk_173, mk_174, mk_175],
  [mk_176, mk_177, mk_178, mk_179, mk_180, mk_181, mk_182, mk_183, mk_184, mk_185, mk_186, mk_187, mk_188, mk_189, mk_190, mk_191],
  [mk_192, mk_193, mk_194, mk_195, mk_196, mk_197, mk_198, mk_199, mk_200, mk_201, mk_202, mk_203, mk_204, mk_205, mk_206, mk_207],
  [mk_208, mk_209, mk_210, mk_211, mk_212, mk_213, mk_214, mk_215, mk_216, mk_217, mk_218, mk_219, mk_220, mk_221, mk_222, mk_223],
  [mk_224, mk_225, mk_226, mk_227, mk_228, mk_229, mk_230, mk_231, mk_232, mk_233, mk_234, mk_235, mk_236, mk_237, mk_238, mk_239],
  [mk_240, mk_241, mk_242, mk_243, mk_244, mk_245]]
noncomputable def mMs : List (List mRow) := [[(3, ⟨"EnvyRust", "<init>", "()V"⟩, prog_1_method_1_code, 2, (none), 2, 41),
   (12, ⟨"java/lang/Object", "<init>", "()V"⟩, object_method_1_code, 1, (none), 0, 0),
   (2, ⟨"EnvyRust$Town", "<init>", "()V"⟩, prog_4_method_1_code, 2, (none), 1, 20),
   (1, ⟨"EnvyRust$TextReader", "<init>", "()V"⟩, prog_3_method_1_code, 1, (none), 1, 20),
   (0, ⟨"EnvyRust$Sheet", "<init>", "()V"⟩, prog_2_method_1_code, 1, (none), 1, 20),
   (3, ⟨"EnvyRust", "thing", "(II)I"⟩, prog_1_method_2_code, 3, (some FieldType.int), 2, 44),
   (3, ⟨"EnvyRust", "between", "(III)Z"⟩, prog_1_method_67_code, 3, (some FieldType.boolean), 0, 0),
   (3, ⟨"EnvyRust", "told", "(I)I"⟩, prog_1_method_66_code, 3, (some FieldType.int), 1, 22),
   (2, ⟨"EnvyRust$Town", "addThing", "(II)I"⟩, prog_4_method_7_code, 4, (some FieldType.int), 0, 0),
   (3, ⟨"EnvyRust", "thingOf", "(II)I"⟩, prog_1_method_3_code, 3, (some FieldType.int), 4, 97),
   (2, ⟨"EnvyRust$Town", "isThing", "(I)Z"⟩, prog_4_method_3_code, 2, (some FieldType.boolean), 1, 22),
   (2, ⟨"EnvyRust$Town", "wearOf", "(I)I"⟩, prog_4_method_14_code, 5, (some FieldType.int), 3, 73),
   (2, ⟨"EnvyRust$Town", "envyOf", "(II)I"⟩, prog_4_method_10_code, 4, (some FieldType.int), 2, 50),
   (2, ⟨"EnvyRust$Town", "envyIfOwnedBy", "(III)I"⟩, prog_4_method_11_code, 8, (some FieldType.int), 1, 23),
   (3, ⟨"EnvyRust", "isOrUnder", "(II)Z"⟩, prog_1_method_71_code, 4, (some FieldType.boolean), 0, 0),
   (7, ⟨"java/lang/Math", "max", "(II)I"⟩, prog_8_method_65_code, 2, (some FieldType.int), 0, 0)],
  [(7, ⟨"java/lang/Math", "min", "(II)I"⟩, prog_8_method_69_code, 2, (some FieldType.int), 0, 0),
   (3, ⟨"EnvyRust", "forge", "(III)I"⟩, prog_1_method_4_code, 5, (some FieldType.int), 3, 66),
   (3, ⟨"EnvyRust", "forgeable", "(III)Z"⟩, prog_1_method_5_code, 4, (some FieldType.boolean), 2, 43),
   (2, ⟨"EnvyRust$Town", "isPerson", "(I)Z"⟩, prog_4_method_4_code, 2, (some FieldType.boolean), 1, 22),
   (2, ⟨"EnvyRust$Town", "falling", "(I)I"⟩, prog_4_method_24_code, 7, (some FieldType.int), 1, 21),
   (3, ⟨"EnvyRust", "contains", "(II)Z"⟩, prog_1_method_68_code, 2, (some FieldType.boolean), 0, 0),
   (3, ⟨"EnvyRust", "person", "(II)I"⟩, prog_1_method_6_code, 3, (some FieldType.int), 2, 44),
   (2, ⟨"EnvyRust$Town", "addPerson", "(II)I"⟩, prog_4_method_8_code, 5, (some FieldType.int), 0, 0),
   (3, ⟨"EnvyRust", "of", "(II)I"⟩, prog_1_method_7_code, 3, (some FieldType.int), 2, 44),
   (2, ⟨"EnvyRust$Town", "ownedBy", "(I)I"⟩, prog_4_method_13_code, 4, (some FieldType.int), 0, 0),
   (3, ⟨"EnvyRust", "change", "(III)I"⟩, prog_1_method_8_code, 5, (some FieldType.int), 2, 44),
   (3, ⟨"EnvyRust", "changeable", "(II)Z"⟩, prog_1_method_9_code, 2, (some FieldType.boolean), 1, 22),
   (3, ⟨"EnvyRust", "envy", "(II)I"⟩, prog_1_method_10_code, 3, (some FieldType.int), 3, 73),
   (3, ⟨"EnvyRust", "go", "(I)I"⟩, prog_1_method_11_code, 2, (some FieldType.int), 5, 120),
   (2, ⟨"EnvyRust$Town", "passDays", "(I)V"⟩, prog_4_method_15_code, 4, (none), 4, 97),
   (2, ⟨"EnvyRust$Town", "fallAll", "()V"⟩, prog_4_method_16_code, 5, (none), 1, 21)],
  [(2, ⟨"EnvyRust$Town", "isGone", "(I)Z"⟩, prog_4_method_9_code, 2, (some FieldType.boolean), 0, 0),
   (2, ⟨"EnvyRust$Town", "walkAll", "()V"⟩, prog_4_method_17_code, 2, (none), 1, 21),
   (3, ⟨"EnvyRust", "onward", "(II)I"⟩, prog_1_method_70_code, 2, (some FieldType.int), 0, 0),
   (2, ⟨"EnvyRust$Town", "goneSet", "()I"⟩, prog_4_method_19_code, 3, (some FieldType.int), 1, 21),
   (6, ⟨"java/lang/Integer", "bitCount", "(I)I"⟩, prog_7_method_49_code, 1, (some FieldType.int), 0, 0),
   (3, ⟨"EnvyRust", "now", "(I)I"⟩, prog_1_method_12_code, 2, (some FieldType.int), 5, 119),
   (2, ⟨"EnvyRust$Town", "allThick", "()I"⟩, prog_4_method_20_code, 3, (some FieldType.int), 0, 0),
   (2, ⟨"EnvyRust$Town", "allWear", "()I"⟩, prog_4_method_21_code, 3, (some FieldType.int), 4, 97),
   (2, ⟨"EnvyRust$Town", "visited", "()I"⟩, prog_4_method_22_code, 4, (some FieldType.int), 1, 21),
   (3, ⟨"EnvyRust", "ahead", "(II)I"⟩, prog_1_method_13_code, 3, (some FieldType.int), 5, 120),
   (3, ⟨"EnvyRust", "startTrial", "()V"⟩, prog_1_method_29_code, 1, (none), 2, 52),
   (2, ⟨"EnvyRust$Town", "become", "(LEnvyRust$Town;)V"⟩, prog_4_method_2_code, 3, (none), 1, 30),
   (3, ⟨"EnvyRust", "lasts", "(I)I"⟩, prog_1_method_14_code, 3, (some FieldType.int), 5, 120),
   (3, ⟨"EnvyRust", "gone", "(I)I"⟩, prog_1_method_15_code, 2, (some FieldType.int), 5, 120),
   (3, ⟨"EnvyRust", "worn", "(I)I"⟩, prog_1_method_16_code, 2, (some FieldType.int), 5, 120),
   (3, ⟨"EnvyRust", "sees", "(II)I"⟩, prog_1_method_17_code, 7, (some FieldType.int), 2, 44)],
  [(3, ⟨"EnvyRust", "kindFor", "(II)I"⟩, prog_1_method_18_code, 3, (some FieldType.int), 6, 148),
   (3, ⟨"EnvyRust", "sparingFor", "(IIII)I"⟩, prog_1_method_20_code, 9, (some FieldType.int), 5, 120),
   (3, ⟨"EnvyRust", "walkFor", "(II)I"⟩, prog_1_method_19_code, 3, (some FieldType.int), 6, 148),
   (3, ⟨"EnvyRust", "placeFor", "(II)I"⟩, prog_1_method_21_code, 3, (some FieldType.int), 6, 148),
   (3, ⟨"EnvyRust", "thickestFor", "(IIII)I"⟩, prog_1_method_23_code, 9, (some FieldType.int), 5, 120),
   (3, ⟨"EnvyRust", "ownerFor", "(II)I"⟩, prog_1_method_22_code, 3, (some FieldType.int), 6, 148),
   (3, ⟨"EnvyRust", "worst", "(I)I"⟩, prog_1_method_24_code, 6, (some FieldType.int), 5, 120),
   (3, ⟨"EnvyRust", "paint", "(II)I"⟩, prog_1_method_25_code, 8, (some FieldType.int), 6, 144),
   (3, ⟨"EnvyRust", "wearAlone", "(II[I)V"⟩, prog_1_method_26_code, 5, (none), 5, 120),
   (2, ⟨"EnvyRust$Town", "allThings", "()I"⟩, prog_4_method_5_code, 1, (some FieldType.int), 0, 0),
   (3, ⟨"EnvyRust", "leftPainted", "(I)I"⟩, prog_1_method_27_code, 3, (some FieldType.int), 2, 45),
   (3, ⟨"EnvyRust", "needs", "(II)I"⟩, prog_1_method_28_code, 4, (some FieldType.int), 5, 120),
   (3, ⟨"EnvyRust", "fallsWith", "(I)I"⟩, prog_1_method_30_code, 2, (some FieldType.int), 2, 47),
   (3, ⟨"EnvyRust", "depth", "(I)I"⟩, prog_1_method_31_code, 2, (some FieldType.int), 2, 44),
   (2, ⟨"EnvyRust$Town", "hangingDepth", "(I)I"⟩, prog_4_method_25_code, 4, (some FieldType.int), 0, 0),
   (3, ⟨"EnvyRust", "keystone", "()I"⟩, prog_1_method_32_code, 5, (some FieldType.int), 2, 47)],
  [(3, ⟨"EnvyRust", "fells", "()I"⟩, prog_1_method_33_code, 3, (some FieldType.int), 0, 0),
   (3, ⟨"EnvyRust", "worth", "(II)I"⟩, prog_1_method_34_code, 3, (some FieldType.int), 3, 74),
   (2, ⟨"EnvyRust$Town", "isSet", "(I)Z"⟩, prog_4_method_6_code, 2, (some FieldType.boolean), 1, 22),
   (2, ⟨"EnvyRust$Town", "worthOf", "(II)I"⟩, prog_4_method_12_code, 5, (some FieldType.int), 2, 50),
   (3, ⟨"EnvyRust", "deal", "(III)I"⟩, prog_1_method_35_code, 5, (some FieldType.int), 4, 98),
   (3, ⟨"EnvyRust", "canDeal", "(III)Z"⟩, prog_1_method_38_code, 4, (some FieldType.boolean), 2, 43),
   (3, ⟨"EnvyRust", "isPart", "(II)Z"⟩, prog_1_method_69_code, 2, (some FieldType.boolean), 0, 0),
   (3, ⟨"EnvyRust", "leavesNoEnvy", "(IIII)Z"⟩, prog_1_method_39_code, 5, (some FieldType.boolean), 3, 74),
   (3, ⟨"EnvyRust", "deals", "(III)I"⟩, prog_1_method_36_code, 6, (some FieldType.int), 4, 98),
   (3, ⟨"EnvyRust", "lesser", "(III)I"⟩, prog_1_method_37_code, 8, (some FieldType.int), 3, 74),
   (3, ⟨"EnvyRust", "envious", "()I"⟩, prog_1_method_40_code, 5, (some FieldType.int), 3, 74),
   (3, ⟨"EnvyRust", "fits", "(III)I"⟩, prog_1_method_41_code, 7, (some FieldType.int), 6, 145),
   (3, ⟨"EnvyRust", "findingOfFit", "(III)I"⟩, prog_1_method_43_code, 5, (some FieldType.int), 3, 63),
   (3, ⟨"EnvyRust", "findingOfSheet", "(I)I"⟩, prog_1_method_60_code, 2, (some FieldType.int), 2, 42),
   (3, ⟨"EnvyRust", "isSheet", "(I)Z"⟩, prog_1_method_59_code, 1, (some FieldType.boolean), 1, 22),
   (0, ⟨"EnvyRust$Sheet", "isMissing", "()Z"⟩, prog_2_method_2_code, 1, (some FieldType.boolean), 0, 0)],
  [(3, ⟨"EnvyRust", "fitsWith", "(LEnvyRust$Sheet;III)Z"⟩, prog_1_method_44_code, 6, (some FieldType.boolean), 5, 120),
   (3, ⟨"EnvyRust", "likes", "(III)I"⟩, prog_1_method_42_code, 6, (some FieldType.int), 6, 145),
   (3, ⟨"EnvyRust", "strolls", "(I)I"⟩, prog_1_method_45_code, 4, (some FieldType.int), 5, 120),
   (2, ⟨"EnvyRust$Town", "scatter", "()V"⟩, prog_4_method_18_code, 2, (none), 0, 0),
   (3, ⟨"EnvyRust", "odds", "(II)J"⟩, prog_1_method_46_code, 8, (some FieldType.long), 2, 44),
   (2, ⟨"EnvyRust$Town", "placesOfThings", "()I"⟩, prog_4_method_23_code, 3, (some FieldType.int), 0, 0),
   (3, ⟨"EnvyRust", "seed", "(I)I"⟩, prog_1_method_47_code, 3, (some FieldType.int), 0, 0),
   (3, ⟨"EnvyRust", "feed", "(II)I"⟩, prog_1_method_48_code, 4, (some FieldType.int), 2, 44),
   (1, ⟨"EnvyRust$TextReader", "put", "(B)V"⟩, prog_3_method_2_code, 2, (none), 0, 0),
   (3, ⟨"EnvyRust", "wipe", "()I"⟩, prog_1_method_49_code, 2, (some FieldType.int), 0, 0),
   (3, ⟨"EnvyRust", "text", "()I"⟩, prog_1_method_50_code, 4, (some FieldType.int), 9, 218),
   (1, ⟨"EnvyRust$TextReader", "readInto", "(LEnvyRust$Town;)I"⟩, prog_3_method_3_code, 5, (some FieldType.int), 8, 194),
   (1, ⟨"EnvyRust$TextReader", "advance", "()V"⟩, prog_3_method_12_code, 1, (none), 1, 21),
   (1, ⟨"EnvyRust$TextReader", "isLetter", "(B)Z"⟩, prog_3_method_13_code, 1, (some FieldType.boolean), 0, 0),
   (1, ⟨"EnvyRust$TextReader", "isDigit", "(B)Z"⟩, prog_3_method_14_code, 1, (some FieldType.boolean), 0, 0),
   (1, ⟨"EnvyRust$TextReader", "kindTold", "()I"⟩, prog_3_method_9_code, 2, (some FieldType.int), 6, 143)],
  [(1, ⟨"EnvyRust$TextReader", "wordOfKind", "(I)Ljava/lang/String;"⟩, prog_3_method_10_code, 1, (some (FieldType.object "java/lang/String")), 0, 0),
   (1, ⟨"EnvyRust$TextReader", "isWord", "(Ljava/lang/String;)Z"⟩, prog_3_method_11_code, 3, (some FieldType.boolean), 5, 121),
   (8, ⟨"java/lang/String", "length", "()I"⟩, prog_9_method_54_code, 1, (some FieldType.int), 0, 0),
   (8, ⟨"java/lang/String", "coder", "()B"⟩, prog_9_method_152_code, 1, (some FieldType.byte), 0, 0),
   (8, ⟨"java/lang/String", "charAt", "(I)C"⟩, prog_9_method_56_code, 2, (some FieldType.char), 0, 0),
   (8, ⟨"java/lang/String", "isLatin1", "()Z"⟩, prog_9_method_154_code, 1, (some FieldType.boolean), 0, 0),
   (9, ⟨"java/lang/StringLatin1", "charAt", "([BI)C"⟩, prog_10_method_2_code, 2, (some FieldType.char), 0, 0),
   (8, ⟨"java/lang/String", "checkIndex", "(II)V"⟩, prog_9_method_155_code, 2, (none), 0, 0),
   (11, ⟨"jdk/internal/util/Preconditions", "checkIndex", "(IILjava/util/function/BiFunction;)I"⟩, prog_13_method_11_code, 3, (some FieldType.int), 0, 0),
   (10, ⟨"java/lang/StringUTF16", "charAt", "([BI)C"⟩, prog_11_method_83_code, 2, (some FieldType.char), 0, 0),
   (10, ⟨"java/lang/StringUTF16", "checkIndex", "(I[B)V"⟩, prog_11_method_91_code, 2, (none), 0, 0),
   (10, ⟨"java/lang/StringUTF16", "length", "([B)I"⟩, prog_11_method_6_code, 1, (some FieldType.int), 0, 0),
   (10, ⟨"java/lang/StringUTF16", "getChar", "([BI)C"⟩, prog_11_method_5_code, 2, (some FieldType.char), 0, 0),
   (1, ⟨"EnvyRust$TextReader", "readPerson", "(LEnvyRust$Town;I)V"⟩, prog_3_method_4_code, 7, (none), 7, 166),
   (1, ⟨"EnvyRust$TextReader", "readPerhaps", "(Ljava/lang/String;II)I"⟩, prog_3_method_6_code, 4, (some FieldType.int), 6, 143),
   (1, ⟨"EnvyRust$TextReader", "readNumber", "(I)I"⟩, prog_3_method_7_code, 3, (some FieldType.int), 2, 41)],
  [(1, ⟨"EnvyRust$TextReader", "fail", "()V"⟩, prog_3_method_8_code, 1, (none), 0, 0),
   (1, ⟨"EnvyRust$TextReader", "readThing", "(LEnvyRust$Town;)V"⟩, prog_3_method_5_code, 9, (none), 7, 166),
   (3, ⟨"EnvyRust", "hold", "(II)I"⟩, prog_1_method_51_code, 3, (some FieldType.int), 2, 44),
   (3, ⟨"EnvyRust", "as", "(II)I"⟩, prog_1_method_52_code, 4, (some FieldType.int), 2, 44),
   (3, ⟨"EnvyRust", "sheet", "(III)I"⟩, prog_1_method_53_code, 4, (some FieldType.int), 2, 44),
   (0, ⟨"EnvyRust$Sheet", "lay", "(II)V"⟩, prog_2_method_3_code, 4, (none), 0, 0),
   (3, ⟨"EnvyRust", "write", "(III)I"⟩, prog_1_method_54_code, 5, (some FieldType.int), 3, 63),
   (0, ⟨"EnvyRust$Sheet", "put", "(II)V"⟩, prog_2_method_4_code, 3, (none), 0, 0),
   (3, ⟨"EnvyRust", "copy", "(IIIII)I"⟩, prog_1_method_55_code, 6, (some FieldType.int), 2, 44),
   (0, ⟨"EnvyRust$Sheet", "has", "(II)Z"⟩, prog_2_method_5_code, 3, (some FieldType.boolean), 0, 0),
   (3, ⟨"EnvyRust", "load", "(I)I"⟩, prog_1_method_56_code, 6, (some FieldType.int), 3, 63),
   (3, ⟨"EnvyRust", "judge", "(I)I"⟩, prog_1_method_57_code, 4, (some FieldType.int), 3, 67),
   (3, ⟨"EnvyRust", "isLink", "(LEnvyRust$Sheet;I)Z"⟩, prog_1_method_58_code, 5, (some FieldType.boolean), 2, 43),
   (3, ⟨"EnvyRust", "image", "()I"⟩, prog_1_method_61_code, 1, (some FieldType.int), 2, 52),
   (3, ⟨"EnvyRust", "undo", "()I"⟩, prog_1_method_62_code, 1, (some FieldType.int), 2, 52),
   (3, ⟨"EnvyRust", "tear", "()I"⟩, prog_1_method_63_code, 2, (some FieldType.int), 0, 0)],
  [(3, ⟨"EnvyRust", "count", "(I)I"⟩, prog_1_method_64_code, 2, (some FieldType.int), 2, 44),
   (2, ⟨"EnvyRust$Town", "heldSpots", "()I"⟩, prog_4_method_26_code, 3, (some FieldType.int), 0, 0),
   (3, ⟨"EnvyRust", "status", "(I)I"⟩, prog_1_method_65_code, 4, (some FieldType.int), 2, 44),
   (4, ⟨"EnvyRustModel", "<init>", "()V"⟩, prog_6_method_1_code, 2, (none), 1, 20),
   (4, ⟨"EnvyRustModel", "thing", "(II)I"⟩, prog_6_method_21_code, 3, (some FieldType.int), 2, 48),
   (4, ⟨"EnvyRustModel", "within", "(III)Z"⟩, prog_6_method_3_code, 3, (some FieldType.boolean), 0, 0),
   (4, ⟨"EnvyRustModel", "isPlace", "(I)Z"⟩, prog_6_method_12_code, 1, (some FieldType.boolean), 1, 22),
   (4, ⟨"EnvyRustModel", "finding", "(I)I"⟩, prog_6_method_2_code, 2, (some FieldType.int), 0, 0),
   (4, ⟨"EnvyRustModel", "comes", "(IIIIII)I"⟩, prog_6_method_20_code, 8, (some FieldType.int), 1, 21),
   (4, ⟨"EnvyRustModel", "at", "(II)I"⟩, prog_6_method_16_code, 2, (some FieldType.int), 0, 0),
   (4, ⟨"EnvyRustModel", "thingOf", "(II)I"⟩, prog_6_method_28_code, 3, (some FieldType.int), 6, 135),
   (4, ⟨"EnvyRustModel", "isThing", "(I)Z"⟩, prog_6_method_10_code, 2, (some FieldType.boolean), 1, 22),
   (4, ⟨"EnvyRustModel", "wornNow", "(I)I"⟩, prog_6_method_27_code, 4, (some FieldType.int), 5, 112),
   (4, ⟨"EnvyRustModel", "personIs", "(II)I"⟩, prog_6_method_19_code, 3, (some FieldType.int), 1, 21),
   (4, ⟨"EnvyRustModel", "by", "(II)I"⟩, prog_6_method_18_code, 2, (some FieldType.int), 0, 0),
   (4, ⟨"EnvyRustModel", "thingIs", "(II)I"⟩, prog_6_method_17_code, 3, (some FieldType.int), 1, 21)],
  [(4, ⟨"EnvyRustModel", "envyOf", "(II)I"⟩, prog_6_method_26_code, 3, (some FieldType.int), 4, 90),
   (4, ⟨"EnvyRustModel", "envyIf", "(III)I"⟩, prog_6_method_25_code, 7, (some FieldType.int), 3, 64),
   (4, ⟨"EnvyRustModel", "isGone", "(I)Z"⟩, prog_6_method_24_code, 2, (some FieldType.boolean), 2, 43),
   (4, ⟨"EnvyRustModel", "isUnder", "(II)Z"⟩, prog_6_method_23_code, 3, (some FieldType.boolean), 1, 20),
   (4, ⟨"EnvyRustModel", "above", "(I)I"⟩, prog_6_method_22_code, 1, (some FieldType.int), 0, 0),
   (4, ⟨"EnvyRustModel", "forge", "(III)I"⟩, prog_6_method_31_code, 4, (some FieldType.int), 3, 66),
   (4, ⟨"EnvyRustModel", "mayForge", "(III)Z"⟩, prog_6_method_29_code, 4, (some FieldType.boolean), 2, 43),
   (4, ⟨"EnvyRustModel", "isThick", "(I)Z"⟩, prog_6_method_14_code, 1, (some FieldType.boolean), 1, 22),
   (4, ⟨"EnvyRustModel", "isDigit", "(I)Z"⟩, prog_6_method_15_code, 1, (some FieldType.boolean), 1, 22),
   (4, ⟨"EnvyRustModel", "isPerson", "(I)Z"⟩, prog_6_method_11_code, 2, (some FieldType.boolean), 1, 22),
   (4, ⟨"EnvyRustModel", "hangsOn", "(II)Z"⟩, prog_6_method_30_code, 4, (some FieldType.boolean), 2, 43),
   (4, ⟨"EnvyRustModel", "become", "(II)I"⟩, prog_6_method_4_code, 4, (some FieldType.int), 0, 0),
   (4, ⟨"EnvyRustModel", "person", "(II)I"⟩, prog_6_method_33_code, 3, (some FieldType.int), 2, 46),
   (4, ⟨"EnvyRustModel", "isKind", "(I)Z"⟩, prog_6_method_13_code, 1, (some FieldType.boolean), 1, 22),
   (4, ⟨"EnvyRustModel", "joins", "(III)I"⟩, prog_6_method_32_code, 6, (some FieldType.int), 1, 21),
   (4, ⟨"EnvyRustModel", "of", "(II)I"⟩, prog_6_method_35_code, 3, (some FieldType.int), 3, 66)],
  [(4, ⟨"EnvyRustModel", "ownedBy", "(I)I"⟩, prog_6_method_34_code, 4, (some FieldType.int), 2, 43),
   (4, ⟨"EnvyRustModel", "change", "(III)I"⟩, prog_6_method_36_code, 5, (some FieldType.int), 2, 43),
   (4, ⟨"EnvyRustModel", "envy", "(II)I"⟩, prog_6_method_37_code, 3, (some FieldType.int), 5, 112),
   (4, ⟨"EnvyRustModel", "go", "(I)I"⟩, prog_6_method_43_code, 2, (some FieldType.int), 8, 179),
   (4, ⟨"EnvyRustModel", "days", "(I)V"⟩, prog_6_method_40_code, 3, (none), 7, 157),
   (4, ⟨"EnvyRustModel", "day", "()V"⟩, prog_6_method_39_code, 3, (none), 6, 135),
   (4, ⟨"EnvyRustModel", "falls", "()Z"⟩, prog_6_method_38_code, 3, (some FieldType.boolean), 3, 64),
   (4, ⟨"EnvyRustModel", "goneNow", "()I"⟩, prog_6_method_41_code, 3, (some FieldType.int), 3, 64),
   (4, ⟨"EnvyRustModel", "bits", "(I)I"⟩, prog_6_method_9_code, 3, (some FieldType.int), 0, 0),
   (4, ⟨"EnvyRustModel", "now", "(I)I"⟩, prog_6_method_45_code, 4, (some FieldType.int), 6, 135),
   (4, ⟨"EnvyRustModel", "thickNow", "()I"⟩, prog_6_method_42_code, 3, (some FieldType.int), 2, 43),
   (4, ⟨"EnvyRustModel", "isSomebodyAt", "(I)Z"⟩, prog_6_method_44_code, 4, (some FieldType.boolean), 2, 43),
   (4, ⟨"EnvyRustModel", "ahead", "(II)I"⟩, prog_6_method_47_code, 3, (some FieldType.int), 9, 201),
   (4, ⟨"EnvyRustModel", "thickBehind", "(II)I"⟩, prog_6_method_46_code, 3, (some FieldType.int), 8, 179),
   (4, ⟨"EnvyRustModel", "copyRow", "([I[I)V"⟩, prog_6_method_5_code, 3, (none), 0, 0),
   (4, ⟨"EnvyRustModel", "putBack", "(I)I"⟩, prog_6_method_6_code, 2, (some FieldType.int), 1, 22)],
  [(4, ⟨"EnvyRustModel", "lasts", "(I)I"⟩, prog_6_method_48_code, 3, (some FieldType.int), 7, 157),
   (4, ⟨"EnvyRustModel", "orNone", "(I)I"⟩, prog_6_method_7_code, 2, (some FieldType.int), 1, 21),
   (4, ⟨"EnvyRustModel", "gone", "(I)I"⟩, prog_6_method_49_code, 2, (some FieldType.int), 8, 179),
   (4, ⟨"EnvyRustModel", "worn", "(I)I"⟩, prog_6_method_51_code, 2, (some FieldType.int), 9, 201),
   (4, ⟨"EnvyRustModel", "lostIn", "(I)I"⟩, prog_6_method_50_code, 3, (some FieldType.int), 8, 179),
   (4, ⟨"EnvyRustModel", "sees", "(II)I"⟩, prog_6_method_52_code, 5, (some FieldType.int), 2, 43),
   (4, ⟨"EnvyRustModel", "kindFor", "(II)I"⟩, prog_6_method_54_code, 3, (some FieldType.int), 10, 229),
   (4, ⟨"EnvyRustModel", "leastLoss", "(III)I"⟩, prog_6_method_53_code, 9, (some FieldType.int), 9, 201),
   (4, ⟨"EnvyRustModel", "walkFor", "(II)I"⟩, prog_6_method_55_code, 3, (some FieldType.int), 10, 229),
   (4, ⟨"EnvyRustModel", "placeFor", "(II)I"⟩, prog_6_method_57_code, 3, (some FieldType.int), 10, 230),
   (4, ⟨"EnvyRustModel", "thickest", "(IIII)I"⟩, prog_6_method_56_code, 10, (some FieldType.int), 9, 201),
   (4, ⟨"EnvyRustModel", "ownerFor", "(II)I"⟩, prog_6_method_58_code, 3, (some FieldType.int), 10, 230),
   (4, ⟨"EnvyRustModel", "worst", "(I)I"⟩, prog_6_method_59_code, 6, (some FieldType.int), 9, 201),
   (4, ⟨"EnvyRustModel", "paint", "(II)I"⟩, prog_6_method_61_code, 8, (some FieldType.int), 10, 225),
   (4, ⟨"EnvyRustModel", "lostPainted", "(II)I"⟩, prog_6_method_60_code, 5, (some FieldType.int), 9, 201),
   (4, ⟨"EnvyRustModel", "has", "(II)Z"⟩, prog_6_method_8_code, 2, (some FieldType.boolean), 0, 0)],
  [(4, ⟨"EnvyRustModel", "needs", "(II)I"⟩, prog_6_method_62_code, 6, (some FieldType.int), 9, 201),
   (4, ⟨"EnvyRustModel", "fallsWith", "(I)I"⟩, prog_6_method_64_code, 2, (some FieldType.int), 4, 89),
   (4, ⟨"EnvyRustModel", "fallWith", "(I)I"⟩, prog_6_method_63_code, 4, (some FieldType.int), 3, 66),
   (4, ⟨"EnvyRustModel", "depth", "(I)I"⟩, prog_6_method_65_code, 4, (some FieldType.int), 2, 43),
   (4, ⟨"EnvyRustModel", "keystone", "()I"⟩, prog_6_method_66_code, 5, (some FieldType.int), 4, 89),
   (4, ⟨"EnvyRustModel", "fells", "()I"⟩, prog_6_method_67_code, 3, (some FieldType.int), 2, 43),
   (4, ⟨"EnvyRustModel", "worth", "(II)I"⟩, prog_6_method_70_code, 3, (some FieldType.int), 5, 114),
   (4, ⟨"EnvyRustModel", "areThings", "(I)Z"⟩, prog_6_method_69_code, 2, (some FieldType.boolean), 1, 22),
   (4, ⟨"EnvyRustModel", "worthOf", "(II)I"⟩, prog_6_method_68_code, 5, (some FieldType.int), 4, 90),
   (4, ⟨"EnvyRustModel", "deal", "(III)I"⟩, prog_6_method_74_code, 6, (some FieldType.int), 6, 138),
   (4, ⟨"EnvyRustModel", "isPair", "(III)Z"⟩, prog_6_method_71_code, 4, (some FieldType.boolean), 2, 43),
   (4, ⟨"EnvyRustModel", "isDeal", "(IIII)Z"⟩, prog_6_method_72_code, 5, (some FieldType.boolean), 5, 114),
   (4, ⟨"EnvyRustModel", "deals", "(III)I"⟩, prog_6_method_75_code, 4, (some FieldType.int), 7, 163),
   (4, ⟨"EnvyRustModel", "dealsOf", "(III)I"⟩, prog_6_method_73_code, 6, (some FieldType.int), 6, 138),
   (4, ⟨"EnvyRustModel", "lesser", "(III)I"⟩, prog_6_method_76_code, 8, (some FieldType.int), 5, 114),
   (4, ⟨"EnvyRustModel", "envious", "()I"⟩, prog_6_method_77_code, 4, (some FieldType.int), 5, 114)],
  [(4, ⟨"EnvyRustModel", "fits", "(III)I"⟩, prog_6_method_81_code, 4, (some FieldType.int), 9, 209),
   (4, ⟨"EnvyRustModel", "lacks", "(I)I"⟩, prog_6_method_78_code, 2, (some FieldType.int), 2, 42),
   (4, ⟨"EnvyRustModel", "isSheet", "(I)Z"⟩, prog_6_method_103_code, 1, (some FieldType.boolean), 1, 22),
   (4, ⟨"EnvyRustModel", "fitting", "(III)I"⟩, prog_6_method_80_code, 8, (some FieldType.int), 8, 182),
   (4, ⟨"EnvyRustModel", "isWornSo", "(II)Z"⟩, prog_6_method_79_code, 6, (some FieldType.boolean), 7, 157),
   (4, ⟨"EnvyRustModel", "likes", "(III)I"⟩, prog_6_method_82_code, 6, (some FieldType.int), 9, 209),
   (4, ⟨"EnvyRustModel", "strolls", "(I)I"⟩, prog_6_method_84_code, 5, (some FieldType.int), 7, 157),
   (4, ⟨"EnvyRustModel", "drawn", "()I"⟩, prog_6_method_83_code, 1, (some FieldType.int), 0, 0),
   (4, ⟨"EnvyRustModel", "odds", "(II)J"⟩, prog_6_method_85_code, 9, (some FieldType.long), 2, 43),
   (4, ⟨"EnvyRustModel", "seed", "(I)I"⟩, prog_6_method_86_code, 2, (some FieldType.int), 1, 23),
   (4, ⟨"EnvyRustModel", "feed", "(II)I"⟩, prog_6_method_87_code, 4, (some FieldType.int), 1, 22),
   (4, ⟨"EnvyRustModel", "wipe", "()I"⟩, prog_6_method_88_code, 2, (some FieldType.int), 0, 0),
   (4, ⟨"EnvyRustModel", "text", "()I"⟩, prog_6_method_99_code, 3, (some FieldType.int), 8, 195),
   (4, ⟨"EnvyRustModel", "next", "()V"⟩, prog_6_method_90_code, 2, (none), 1, 22),
   (4, ⟨"EnvyRustModel", "byteAt", "(I)I"⟩, prog_6_method_89_code, 2, (some FieldType.int), 0, 0),
   (4, ⟨"EnvyRustModel", "readItem", "()V"⟩, prog_6_method_97_code, 8, (none), 7, 168)],
  [(4, ⟨"EnvyRustModel", "kindTold", "()I"⟩, prog_6_method_95_code, 3, (some FieldType.int), 6, 144),
   (4, ⟨"EnvyRustModel", "isWord", "(Ljava/lang/String;)Z"⟩, prog_6_method_91_code, 4, (some FieldType.boolean), 5, 121),
   (4, ⟨"EnvyRustModel", "must", "(Z)V"⟩, prog_6_method_92_code, 2, (none), 2, 43),
   (4, ⟨"EnvyRustModel", "afterWord", "(Ljava/lang/String;III)I"⟩, prog_6_method_96_code, 5, (some FieldType.int), 6, 144),
   (4, ⟨"EnvyRustModel", "number", "(II)I"⟩, prog_6_method_93_code, 4, (some FieldType.int), 3, 64),
   (4, ⟨"EnvyRustModel", "item", "(IIIIIII)V"⟩, prog_6_method_94_code, 9, (none), 0, 0),
   (4, ⟨"EnvyRustModel", "isToldSo", "(I)I"⟩, prog_6_method_98_code, 4, (some FieldType.int), 2, 48),
   (4, ⟨"EnvyRustModel", "hold", "(II)I"⟩, prog_6_method_101_code, 3, (some FieldType.int), 2, 43),
   (4, ⟨"EnvyRustModel", "isSpot", "(I)Z"⟩, prog_6_method_100_code, 1, (some FieldType.boolean), 1, 22),
   (4, ⟨"EnvyRustModel", "as", "(II)I"⟩, prog_6_method_102_code, 4, (some FieldType.int), 2, 43),
   (4, ⟨"EnvyRustModel", "sheet", "(III)I"⟩, prog_6_method_105_code, 5, (some FieldType.int), 2, 42),
   (4, ⟨"EnvyRustModel", "write", "(III)I"⟩, prog_6_method_106_code, 4, (some FieldType.int), 2, 42),
   (4, ⟨"EnvyRustModel", "cutTo", "(II)I"⟩, prog_6_method_104_code, 2, (some FieldType.int), 0, 0),
   (4, ⟨"EnvyRustModel", "copy", "(IIIII)I"⟩, prog_6_method_107_code, 7, (some FieldType.int), 2, 42),
   (4, ⟨"EnvyRustModel", "load", "(I)I"⟩, prog_6_method_108_code, 3, (some FieldType.int), 3, 63),
   (4, ⟨"EnvyRustModel", "judge", "(I)I"⟩, prog_6_method_109_code, 5, (some FieldType.int), 3, 63)],
  [(4, ⟨"EnvyRustModel", "image", "()I"⟩, prog_6_method_110_code, 1, (some FieldType.int), 1, 22),
   (4, ⟨"EnvyRustModel", "undo", "()I"⟩, prog_6_method_111_code, 1, (some FieldType.int), 1, 22),
   (4, ⟨"EnvyRustModel", "tear", "()I"⟩, prog_6_method_112_code, 2, (some FieldType.int), 0, 0),
   (4, ⟨"EnvyRustModel", "count", "(I)I"⟩, prog_6_method_113_code, 4, (some FieldType.int), 4, 86),
   (4, ⟨"EnvyRustModel", "status", "(I)I"⟩, prog_6_method_114_code, 2, (some FieldType.int), 1, 22),
   (5, x, code, 4, ret, 11, 252)]]
noncomputable def mMet (i : Nat) : Option mRow := (mMs[i / 16]?).bind fun l => l[i % 16]?
noncomputable def mCode (i : Nat) : Option (List (List (Option mEnt))) := (mKs[i / 16]?).bind fun l => l[i % 16]?
noncomputable def mFetch (i pc : Nat) : Option mEnt := (mCode i).bind fun k => (k[pc / 32]?).bind fun l => (l[pc % 32]?).bind id
noncomputable def mLT : List mLnk := [(5, 7, 4, 3, 0, 0),
  (5, 9, 14, 0, 1, 0),
  (3, 1, 20, 0, 0, 0),
  (3, 7, 4, 2, 0, 0),
  (3, 9, 15, 2, 1, 0),
  (2, 3, 20, 0, 0, 0),
  (2, 11, 6, 3, 0, 0),
  (2, 13, 0, 2, 0, 0),
  (3, 75, 1, 2, 0, 0),
  (1, 99, 1, 2, 0, 0),
  (2, 16, 0, 2, 1, 0),
  (1, 78, 1, 2, 1, 0),
  (3, 102, 1, 2, 1, 0),
  (2, 19, 0, 2, 2, 0),
  (3, 244, 1, 2, 2, 0),
  (2, 23, 0, 2, 3, 0),
  (3, 59, 1, 2, 3, 0),
  (1, 56, 1, 2, 3, 0),
  (2, 27, 0, 2, 4, 0),
  (1, 41, 1, 2, 4, 0),
  (3, 93, 1, 2, 4, 0),
  (2, 30, 0, 2, 5, 0),
  (3, 111, 1, 2, 5, 0),
  (2, 33, 0, 2, 6, 0),
  (3, 227, 1, 2, 6, 0),
  (2, 36, 0, 2, 7, 0),
  (3, 154, 1, 2, 7, 0),
  (3, 22, 4, 1, 0, 0),
  (3, 24, 15, 3, 1, 0),
  (1, 3, 20, 0, 0, 0),
  (1, 9, 0, 1, 0, 0),
  (1, 15, 0, 1, 1, 0),
  (3, 230, 1, 1, 1, 0),
  (1, 19, 0, 1, 2, 0),
  (1, 22, 0, 1, 3, 0),
  (1, 25, 0, 1, 4, 0),
  (1, 28, 0, 1, 5, 0),
  (1, 31, 0, 1, 6, 0),
  (3, 241, 1, 1, 6, 0),
  (3, 29, 5, 2, 0, 0),
  (3, 29, 4, 0, 0, 0),
  (3, 49, 15, 4, 1, 0),
  (0, 3, 20, 0, 0, 0),
  (0, 9, 0, 0, 0, 0),
  (3, 218, 1, 0, 0, 0),
  (0, 15, 0, 0, 1, 0),
  (3, 266, 1, 0, 1, 0),
  (0, 19, 0, 0, 2, 0),
  (3, 215, 1, 0, 2, 0),
  (3, 10, 0, 3, 0, 0),
  (3, 16, 0, 3, 1, 0),
  (3, 19, 0, 3, 2, 0),
  (3, 25, 0, 3, 3, 0),
  (3, 31, 0, 3, 4, 0),
  (3, 35, 0, 3, 5, 0),
  (3, 39, 0, 3, 6, 0),
  (3, 43, 0, 3, 7, 0),
  (3, 46, 0, 3, 8, 0),
  (5, 13, 10, 5, 3, 0),
  (3, 50, 12, 6, 3, 0),
  (3, 54, 2, 0, 0, (-1000001)),
  (3, 55, 10, 7, 2, 0),
  (3, 63, 2, 0, 0, (-1000002)),
  (3, 64, 11, 8, 3, 0),
  (5, 18, 10, 9, 3, 0),
  (3, 68, 11, 10, 2, 0),
  (2, 45, 13, 6, 3, 0),
  (3, 72, 11, 11, 2, 0),
  (2, 70, 10, 12, 3, 0),
  (2, 53, 10, 13, 4, 0),
  (2, 57, 13, 14, 2, 0),
  (3, 279, 7, 0, 0, 0),
  (2, 61, 24, 0, 0, 0),
  (2, 73, 25, 0, 0, 0),
  (5, 22, 10, 17, 4, 0),
  (3, 79, 10, 18, 4, 0),
  (3, 90, 11, 19, 2, 0),
  (3, 82, 11, 20, 2, 0),
  (2, 67, 13, 21, 2, 0),
  (3, 85, 12, 21, 2, 0),
  (3, 89, 2, 0, 0, (-1000005)),
  (5, 27, 10, 22, 3, 0),
  (3, 96, 11, 23, 3, 0),
  (5, 31, 10, 24, 3, 0),
  (3, 99, 11, 25, 2, 0),
  (5, 35, 10, 26, 4, 0),
  (3, 105, 12, 27, 2, 0),
  (5, 39, 10, 28, 3, 0),
  (3, 108, 11, 12, 3, 0),
  (5, 43, 10, 29, 2, 0),
  (3, 114, 2, 0, 0, 99999),
  (3, 115, 11, 30, 2, 0),
  (2, 76, 10, 11, 2, 0),
  (2, 80, 10, 31, 1, 0),
  (2, 86, 10, 32, 2, 0),
  (2, 83, 10, 33, 1, 0),
  (2, 90, 13, 34, 2, 0),
  (3, 119, 11, 35, 1, 0),
  (3, 123, 12, 36, 1, 0),
  (6, 265, 2, 0, 0, 1431655765),
  (6, 266, 2, 0, 0, 858993459),
  (6, 267, 2, 0, 0, 252645135),
  (5, 48, 10, 37, 2, 0),
  (3, 128, 11, 38, 1, 0),
  (3, 131, 11, 39, 1, 0),
  (3, 134, 11, 40, 1, 0),
  (5, 52, 10, 41, 3, 0),
  (3, 137, 10, 42, 1, 0),
  (3, 181, 11, 43, 2, 0),
  (2, 39, 21, 0, 0, 0),
  (5, 56, 10, 44, 2, 0),
  (3, 140, 11, 32, 2, 0),
  (3, 143, 2, 0, 0, (-1000004)),
  (5, 60, 10, 45, 2, 0),
  (5, 64, 10, 46, 2, 0),
  (5, 68, 10, 47, 3, 0),
  (3, 144, 12, 34, 2, 0),
  (5, 72, 10, 48, 3, 0),
  (3, 147, 10, 49, 5, 0),
  (5, 76, 10, 50, 3, 0),
  (5, 80, 10, 51, 3, 0),
  (3, 151, 10, 52, 5, 0),
  (5, 84, 10, 53, 3, 0),
  (5, 88, 10, 54, 2, 0),
  (5, 92, 10, 55, 3, 0),
  (3, 157, 25, 0, 0, 0),
  (3, 162, 10, 56, 4, 0),
  (3, 172, 21, 0, 0, 0),
  (3, 166, 11, 57, 1, 0),
  (3, 169, 10, 58, 2, 0),
  (3, 178, 11, 31, 1, 0),
  (5, 96, 10, 59, 3, 0),
  (5, 100, 10, 60, 2, 0),
  (5, 104, 10, 61, 2, 0),
  (3, 185, 11, 62, 2, 0),
  (5, 108, 10, 63, 1, 0),
  (5, 113, 10, 64, 1, 0),
  (5, 117, 10, 65, 3, 0),
  (3, 188, 11, 66, 2, 0),
  (2, 49, 10, 57, 1, 0),
  (3, 191, 11, 67, 3, 0),
  (5, 121, 10, 68, 4, 0),
  (3, 194, 10, 69, 4, 0),
  (3, 197, 12, 70, 2, 0),
  (3, 200, 10, 71, 5, 0),
  (5, 125, 10, 72, 4, 0),
  (5, 129, 10, 73, 4, 0),
  (5, 133, 10, 74, 1, 0),
  (5, 137, 10, 75, 4, 0),
  (3, 204, 10, 76, 4, 0),
  (3, 212, 10, 77, 2, 0),
  (3, 252, 12, 78, 1, 0),
  (3, 262, 11, 79, 1, 0),
  (3, 247, 2, 0, 0, (-1000006)),
  (3, 208, 10, 80, 5, 0),
  (5, 141, 10, 81, 4, 0),
  (5, 145, 10, 82, 2, 0),
  (3, 221, 11, 83, 1, 0),
  (2, 93, 2, 0, 0, 1103515245),
  (5, 149, 10, 84, 3, 0),
  (3, 224, 11, 85, 1, 0),
  (5, 154, 10, 86, 2, 0),
  (5, 158, 10, 87, 3, 0),
  (3, 233, 11, 88, 2, 0),
  (5, 162, 10, 89, 1, 0),
  (5, 166, 10, 90, 1, 0),
  (3, 237, 11, 91, 2, 0),
  (1, 34, 10, 92, 1, 0),
  (1, 129, 12, 93, 1, 0),
  (1, 133, 12, 94, 1, 0),
  (1, 136, 25, 0, 0, 0),
  (1, 37, 10, 95, 1, 0),
  (1, 102, 12, 96, 1, 0),
  (1, 106, 3, 0, 1, 0),
  (1, 108, 3, 0, 2, 0),
  (1, 110, 3, 0, 3, 0),
  (1, 112, 3, 0, 4, 0),
  (1, 114, 3, 0, 5, 0),
  (1, 116, 3, 0, 6, 0),
  (1, 118, 3, 0, 7, 0),
  (1, 52, 10, 97, 2, 0),
  (1, 120, 22, 0, 0, 0),
  (1, 125, 23, 0, 0, 0),
  (1, 46, 10, 109, 3, 0),
  (1, 66, 3, 0, 8, 0),
  (1, 68, 10, 110, 4, 0),
  (1, 84, 10, 111, 2, 0),
  (1, 63, 10, 112, 1, 0),
  (1, 72, 3, 0, 9, 0),
  (1, 74, 11, 23, 3, 0),
  (1, 82, 3, 0, 10, 0),
  (1, 50, 3, 0, 0, 0),
  (1, 59, 10, 113, 2, 0),
  (1, 88, 3, 0, 11, 0),
  (1, 90, 3, 0, 12, 0),
  (1, 92, 3, 0, 13, 0),
  (1, 94, 3, 0, 14, 0),
  (1, 96, 11, 8, 3, 0),
  (5, 170, 10, 114, 3, 0),
  (5, 174, 10, 115, 3, 0),
  (3, 248, 12, 14, 2, 0),
  (3, 251, 2, 0, 0, (-1000003)),
  (5, 178, 10, 116, 4, 0),
  (3, 255, 2, 0, 0, (-1000007)),
  (3, 256, 11, 117, 3, 0),
  (5, 182, 10, 118, 4, 0),
  (3, 260, 11, 119, 3, 0),
  (5, 186, 10, 120, 6, 0),
  (3, 269, 11, 121, 3, 0),
  (5, 191, 10, 122, 2, 0),
  (5, 195, 10, 123, 2, 0),
  (3, 272, 10, 124, 3, 0),
  (5, 199, 10, 125, 1, 0),
  (5, 203, 10, 126, 1, 0),
  (5, 207, 10, 127, 1, 0),
  (5, 211, 10, 128, 2, 0),
  (3, 276, 11, 129, 1, 0),
  (5, 215, 10, 130, 2, 0),
  (5, 10, 4, 4, 0, 0),
  (5, 12, 14, 131, 1, 0),
  (4, 1, 20, 0, 0, 0),
  (4, 35, 5, 4, 0, 0),
  (4, 37, 3, 0, 7, 0),
  (4, 39, 3, 0, 1, 0),
  (4, 41, 3, 0, 2, 0),
  (4, 43, 3, 0, 3, 0),
  (4, 45, 3, 0, 4, 0),
  (4, 47, 3, 0, 5, 0),
  (4, 49, 3, 0, 6, 0),
  (4, 9, 0, 4, 0, 0),
  (4, 13, 0, 4, 1, 0),
  (4, 16, 0, 4, 2, 0),
  (4, 346, 0, 4, 3, 0),
  (4, 19, 0, 4, 4, 0),
  (4, 22, 0, 4, 5, 0),
  (4, 25, 0, 4, 6, 0),
  (4, 29, 0, 4, 7, 0),
  (4, 32, 0, 4, 8, 0),
  (4, 254, 0, 4, 9, 0),
  (4, 260, 0, 4, 10, 0),
  (4, 257, 0, 4, 11, 0),
  (4, 269, 0, 4, 12, 0),
  (4, 266, 0, 4, 13, 0),
  (4, 279, 0, 4, 14, 0),
  (4, 51, 0, 4, 15, 0),
  (4, 55, 0, 4, 16, 0),
  (4, 290, 0, 4, 17, 0),
  (4, 321, 0, 4, 18, 0),
  (4, 303, 0, 4, 19, 0),
  (4, 58, 0, 4, 20, 0),
  (4, 61, 0, 4, 21, 0),
  (4, 64, 0, 4, 22, 0),
  (4, 67, 0, 4, 23, 0),
  (5, 17, 10, 132, 3, 0),
  (4, 80, 12, 133, 3, 0),
  (4, 91, 12, 134, 1, 0),
  (4, 70, 2, 0, 0, (-1000001)),
  (4, 76, 10, 135, 2, 0),
  (4, 95, 2, 0, 0, (-1000002)),
  (4, 96, 10, 136, 7, 0),
  (4, 84, 12, 137, 2, 0),
  (5, 21, 10, 138, 3, 0),
  (4, 131, 10, 139, 2, 0),
  (4, 134, 10, 140, 2, 0),
  (4, 109, 10, 141, 3, 0),
  (4, 88, 12, 142, 2, 0),
  (4, 103, 10, 143, 3, 0),
  (4, 125, 10, 144, 3, 0),
  (4, 121, 10, 145, 4, 0),
  (4, 106, 10, 146, 2, 0),
  (4, 112, 12, 147, 2, 0),
  (4, 100, 12, 148, 1, 0),
  (4, 116, 24, 0, 0, 0),
  (4, 128, 25, 0, 0, 0),
  (5, 26, 10, 149, 4, 0),
  (4, 146, 10, 150, 4, 0),
  (4, 137, 12, 151, 1, 0),
  (4, 140, 12, 152, 1, 0),
  (4, 143, 10, 153, 2, 0),
  (4, 149, 10, 154, 3, 0),
  (4, 152, 2, 0, 0, (-1000005)),
  (4, 153, 10, 155, 3, 0),
  (5, 30, 10, 156, 3, 0),
  (4, 156, 12, 157, 1, 0),
  (4, 159, 10, 158, 4, 0),
  (5, 34, 10, 159, 3, 0),
  (4, 162, 10, 160, 2, 0),
  (5, 38, 10, 161, 4, 0),
  (5, 42, 10, 162, 3, 0),
  (5, 47, 10, 163, 2, 0),
  (4, 172, 2, 0, 0, 99999),
  (4, 173, 10, 164, 2, 0),
  (4, 169, 10, 165, 1, 0),
  (4, 165, 10, 166, 1, 0),
  (4, 177, 10, 167, 1, 0),
  (4, 181, 12, 168, 1, 0),
  (5, 51, 10, 169, 2, 0),
  (4, 184, 10, 170, 1, 0),
  (4, 187, 10, 171, 2, 0),
  (5, 55, 10, 172, 3, 0),
  (4, 193, 10, 173, 3, 0),
  (4, 71, 12, 174, 2, 0),
  (4, 190, 10, 175, 2, 0),
  (5, 59, 10, 176, 2, 0),
  (4, 196, 10, 177, 2, 0),
  (4, 75, 2, 0, 0, (-1000004)),
  (5, 63, 10, 178, 2, 0),
  (5, 67, 10, 179, 2, 0),
  (4, 199, 10, 180, 2, 0),
  (5, 71, 10, 181, 3, 0),
  (5, 75, 10, 182, 3, 0),
  (4, 205, 10, 183, 4, 0),
  (4, 204, 2, 0, 0, 2147483647),
  (5, 79, 10, 184, 3, 0),
  (5, 83, 10, 185, 3, 0),
  (4, 208, 10, 186, 5, 0),
  (5, 87, 10, 187, 3, 0),
  (5, 91, 10, 188, 2, 0),
  (5, 95, 10, 189, 3, 0),
  (4, 215, 10, 190, 3, 0),
  (4, 212, 12, 191, 2, 0),
  (5, 99, 10, 192, 3, 0),
  (5, 103, 10, 193, 2, 0),
  (4, 218, 10, 194, 2, 0),
  (5, 107, 10, 195, 2, 0),
  (5, 112, 10, 196, 1, 0),
  (5, 116, 10, 197, 1, 0),
  (5, 120, 10, 198, 3, 0),
  (4, 221, 10, 199, 2, 0),
  (4, 224, 10, 200, 3, 0),
  (5, 124, 10, 201, 4, 0),
  (4, 231, 10, 202, 4, 0),
  (4, 227, 10, 203, 5, 0),
  (5, 128, 10, 204, 4, 0),
  (4, 234, 10, 205, 4, 0),
  (5, 132, 10, 206, 4, 0),
  (5, 136, 10, 207, 1, 0),
  (5, 140, 10, 208, 4, 0),
  (4, 244, 10, 209, 2, 0),
  (4, 237, 12, 210, 1, 0),
  (4, 240, 2, 0, 0, (-1000006)),
  (4, 247, 10, 211, 4, 0),
  (4, 241, 10, 212, 3, 0),
  (5, 144, 10, 213, 4, 0),
  (5, 148, 10, 214, 2, 0),
  (4, 251, 10, 215, 1, 0),
  (4, 250, 2, 0, 0, 1103515245),
  (5, 153, 10, 216, 3, 0),
  (5, 157, 10, 217, 2, 0),
  (5, 161, 10, 218, 3, 0),
  (5, 165, 10, 219, 1, 0),
  (5, 169, 10, 220, 1, 0),
  (4, 283, 10, 221, 1, 0),
  (4, 263, 10, 222, 2, 0),
  (4, 332, 10, 223, 1, 0),
  (4, 300, 10, 224, 1, 0),
  (4, 293, 10, 225, 2, 0),
  (4, 272, 22, 0, 0, 0),
  (4, 275, 23, 0, 0, 0),
  (4, 286, 10, 226, 2, 0),
  (4, 306, 3, 0, 8, 0),
  (4, 307, 10, 227, 5, 0),
  (4, 297, 10, 228, 3, 0),
  (4, 311, 3, 0, 9, 0),
  (4, 313, 3, 0, 10, 0),
  (4, 315, 10, 229, 8, 0),
  (4, 319, 3, 0, 0, 0),
  (4, 324, 3, 0, 11, 0),
  (4, 326, 3, 0, 12, 0),
  (4, 328, 3, 0, 13, 0),
  (4, 330, 3, 0, 14, 0),
  (4, 335, 10, 230, 2, 0),
  (5, 173, 10, 231, 3, 0),
  (4, 338, 12, 232, 1, 0),
  (5, 177, 10, 233, 3, 0),
  (4, 341, 2, 0, 0, (-1000003)),
  (5, 181, 10, 234, 4, 0),
  (4, 342, 2, 0, 0, (-1000007)),
  (5, 185, 10, 235, 4, 0),
  (4, 343, 12, 236, 2, 0),
  (5, 190, 10, 237, 6, 0),
  (5, 194, 10, 238, 2, 0),
  (5, 198, 10, 239, 2, 0),
  (5, 202, 10, 240, 1, 0),
  (5, 206, 10, 241, 1, 0),
  (5, 210, 10, 242, 1, 0),
  (5, 214, 10, 243, 2, 0),
  (5, 218, 10, 244, 2, 0)]
noncomputable def mLH : List Nat := [13, 15, 18, 21, 23, 26, 27, 29, 30, 31, 32, 33, 34, 35, 36, 37, 38, 39, 40, 41, 42, 43, 44, 45, 46, 47, 48, 67, 69, 72, 73, 74, 75, 76, 77, 78, 79, 80, 81, 98, 98, 101, 104, 105, 106, 107, 108, 109, 110, 118, 119, 120, 121, 122, 123, 124, 125, 126, 146, 150, 153, 154, 158, 159, 163, 167, 171, 172, 176, 180, 184, 187, 189, 192, 195, 199, 203, 207, 211, 214, 215, 216, 220, 224, 228, 232, 236, 239, 243, 244, 248, 249, 253, 254, 258, 262, 266, 269, 273, 276, 277, 278, 279, 283, 287, 291, 295, 299, 303, 307, 310, 314, 315, 316, 320, 324, 328, 329, 333, 337, 341, 345, 349, 353, 357, 361, 362, 366, 367, 371, 375, 376, 380, 384, 388, 392, 396, 400, 404, 408, 409, 413, 417, 421, 424, 428, 432, 436, 440, 444, 448, 452, 455, 459, 460, 464, 468, 472, 476, 477, 481, 485, 489, 493, 497, 501, 505, 509, 513, 516, 519, 520, 524, 527, 528, 529, 530, 531, 532, 533, 534, 538, 548, 586, 590, 591, 595, 599, 603, 604, 605, 606, 607, 611, 612, 613, 614, 615, 616, 620, 624, 625, 626, 630, 631, 635, 639, 643, 647, 651, 655, 659, 663, 667, 671, 675, 679, 683, 687, 689, 692, 693, 695, 696, 697, 698, 699, 700, 701, 702, 703, 704, 705, 706, 707, 708, 709, 710, 711, 712, 713, 714, 715, 716, 717, 718, 719, 720, 721, 722, 723, 724, 725, 775, 779, 782, 785, 786, 790, 791, 795, 798, 802, 806, 810, 814, 817, 821, 825, 829, 833, 836, 839, 840, 841, 845, 849, 852, 855, 859, 863, 864, 868, 872, 875, 879, 883, 887, 891, 895, 899, 900, 904, 908, 912, 916, 919, 923, 927, 931, 935, 939, 942, 946, 950, 954, 955, 959, 963, 967, 971, 975, 979, 980, 984, 988, 992, 996, 1000, 1004, 1008, 1011, 1015, 1019, 1023, 1027, 1031, 1035, 1039, 1043, 1047, 1051, 1055, 1059, 1063, 1067, 1071, 1075, 1079, 1083, 1086, 1087, 1091, 1095, 1099, 1103, 1107, 1108, 1112, 1116, 1120, 1124, 1128, 1132, 1136, 1140, 1144, 1148, 1149, 1150, 1154, 1155, 1159, 1163, 1164, 1165, 1169, 1170, 1171, 1172, 1173, 1174, 1178, 1182, 1185, 1189, 1190, 1194, 1195, 1199, 1202, 1206, 1210, 1214, 1218, 1222, 1226, 1230]
noncomputable def mTx : List (List Nat) := [[116, 104, 105, 110, 103], [109, 111, 100, 101, 115, 116], [114, 105, 118, 97, 108], [112, 114, 97, 105, 115, 101, 114], [116, 104, 105, 101, 102], [99, 104, 105, 108, 100], [98, 101, 103, 103, 97, 114], [108, 111, 111, 107, 101, 114], [97, 116], [119, 97, 108, 107, 115], [108, 105, 107, 101, 115], [116, 104, 105, 99, 107], [112, 97, 105, 110, 116], [111, 102], [111, 110]]
noncomputable def mTs : List String := ["thing", "modest", "rival", "praiser", "thief", "child", "beggar", "looker", "at", "walks", "likes", "thick", "paint", "of", "on"]
noncomputable def mIS : List (Nat × Nat × Nat) := [(16, 0, 0), (24, 2, 0), (70, 3, 0), (102, 4, 0), (147, 5, 0), (151, 6, 1), (156, 7, 0), (161, 8, 0), (164, 9, 0), (169, 10, 0), (174, 11, 0), (178, 12, 0), (182, 13, 0), (185, 14, 1), (196, 17, 0), (201, 18, 0), (205, 19, 0), (209, 20, 0), (212, 21, 1), (217, 22, 0), (222, 23, 0), (225, 24, 0), (230, 25, 0), (233, 26, 0), (237, 27, 1), (240, 28, 0), (245, 29, 0), (251, 30, 0), (256, 31, 0), (260, 32, 0), (264, 33, 0), (267, 34, 1), (271, 35, 0), (274, 36, 1), (280, 37, 0), (285, 38, 0), (289, 39, 0), (293, 40, 0), (296, 41, 0), (301, 42, 0), (305, 43, 0), (311, 44, 0), (317, 45, 0), (321, 46, 0), (325, 47, 0), (330, 48, 0), (335, 49, 0), (338, 50, 0), (342, 51, 0), (347, 52, 0), (350, 53, 0), (354, 54, 0), (358, 55, 0), (364, 56, 0), (369, 57, 0), (373, 58, 0), (377, 59, 0), (381, 60, 0), (385, 61, 0), (390, 62, 0), (393, 63, 0), (397, 64, 0), (401, 65, 0), (406, 66, 0), (411, 67, 0), (414, 68, 0), (419, 69, 0), (422, 70, 1), (426, 71, 0), (429, 72, 0), (433, 73, 0), (437, 74, 0), (441, 75, 0), (446, 76, 0), (450, 77, 0), (453, 78, 1), (457, 79, 0), (462, 80, 0), (465, 81, 0), (469, 82, 0), (474, 83, 0), (478, 84, 0), (483, 85, 0), (486, 86, 0), (490, 87, 0), (495, 88, 0), (498, 89, 0), (502, 90, 0), (507, 91, 0), (511, 92, 0), (514, 93, 1), (517, 94, 1), (522, 95, 0), (525, 96, 1), (536, 97, 0), (588, 109, 0), (593, 110, 0), (597, 111, 0), (601, 112, 0), (609, 113, 0), (617, 114, 0), (621, 115, 0), (627, 116, 0), (633, 117, 0), (636, 118, 0), (641, 119, 0), (644, 120, 0), (649, 121, 0), (652, 122, 0), (656, 123, 0), (661, 124, 0), (664, 125, 0), (668, 126, 0), (672, 127, 0), (676, 128, 0), (681, 129, 0), (684, 130, 0), (690, 131, 0), (776, 132, 0), (780, 133, 1), (783, 134, 1), (788, 135, 0), (793, 136, 0), (796, 137, 1), (799, 138, 0), (804, 139, 0), (808, 140, 0), (812, 141, 0), (815, 142, 1), (819, 143, 0), (823, 144, 0), (827, 145, 0), (831, 146, 0), (834, 147, 1), (837, 148, 1), (842, 149, 0), (847, 150, 0), (850, 151, 1), (853, 152, 1), (857, 153, 0), (861, 154, 0), (866, 155, 0), (869, 156, 0), (873, 157, 1), (877, 158, 0), (880, 159, 0), (885, 160, 0), (888, 161, 0), (892, 162, 0), (896, 163, 0), (902, 164, 0), (906, 165, 0), (910, 166, 0), (914, 167, 0), (917, 168, 1), (920, 169, 0), (925, 170, 0), (929, 171, 0), (932, 172, 0), (937, 173, 0), (940, 174, 1), (944, 175, 0), (947, 176, 0), (952, 177, 0), (956, 178, 0), (960, 179, 0), (965, 180, 0), (968, 181, 0), (972, 182, 0), (977, 183, 0), (981, 184, 0), (985, 185, 0), (990, 186, 0), (993, 187, 0), (997, 188, 0), (1001, 189, 0), (1006, 190, 0), (1009, 191, 1), (1012, 192, 0), (1016, 193, 0), (1021, 194, 0), (1024, 195, 0), (1028, 196, 0), (1032, 197, 0), (1036, 198, 0), (1041, 199, 0), (1045, 200, 0), (1048, 201, 0), (1053, 202, 0), (1057, 203, 0), (1060, 204, 0), (1065, 205, 0), (1068, 206, 0), (1072, 207, 0), (1076, 208, 0), (1081, 209, 0), (1084, 210, 1), (1089, 211, 0), (1093, 212, 0), (1096, 213, 0), (1100, 214, 0), (1105, 215, 0), (1109, 216, 0), (1113, 217, 0), (1117, 218, 0), (1121, 219, 0), (1125, 220, 0), (1130, 221, 0), (1134, 222, 0), (1138, 223, 0), (1142, 224, 0), (1146, 225, 0), (1152, 226, 0), (1157, 227, 0), (1161, 228, 0), (1167, 229, 0), (1176, 230, 0), (1179, 231, 0), (1183, 232, 1), (1186, 233, 0), (1191, 234, 0), (1196, 235, 0), (1200, 236, 1), (1203, 237, 0), (1207, 238, 0), (1211, 239, 0), (1215, 240, 0), (1219, 241, 0), (1223, 242, 0), (1227, 243, 0), (1231, 244, 0)]
noncomputable def mSE1 : List (Nat × Nat) := [(0, 7), (1, 8), (2, 10), (3, 11), (4, 12), (5, 13), (6, 18), (7, 19), (8, 20), (9, 23), (10, 25), (11, 30), (12, 31), (13, 32), (14, 33), (15, 35), (16, 38), (17, 39), (18, 40), (19, 42), (20, 43), (21, 49), (22, 52), (23, 56), (24, 57), (25, 58), (26, 62), (27, 66), (28, 67), (29, 69), (30, 71), (31, 76), (32, 77), (33, 79), (34, 80), (35, 83), (36, 85), (37, 88), (38, 91), (39, 92), (40, 95), (41, 97), (42, 109), (43, 110), (44, 111), (45, 112), (46, 113), (47, 117), (48, 119), (49, 121), (50, 124), (51, 129), (52, 135), (53, 136), (54, 139), (55, 140), (56, 141), (57, 143), (58, 144), (59, 145), (60, 146), (61, 150), (62, 153), (63, 154), (64, 155), (65, 158), (66, 160), (67, 164), (68, 165), (69, 166), (70, 167), (71, 170), (72, 171), (73, 173), (74, 175), (75, 177), (76, 180), (77, 183), (78, 186), (79, 190), (80, 194), (81, 199), (82, 200), (83, 202), (84, 203), (85, 205), (86, 209), (87, 211), (88, 212), (89, 215), (90, 221), (91, 222), (92, 223), (93, 224), (94, 225), (95, 226), (96, 227), (97, 228), (98, 229), (99, 230)]
noncomputable def mSE2 : List (Nat × Nat) := [(148, 5), (165, 9), (197, 17), (218, 22), (226, 24), (234, 26), (241, 28), (246, 29), (281, 37), (297, 41), (312, 44), (318, 45), (322, 46), (326, 47), (331, 48), (339, 50), (343, 51), (351, 53), (355, 54), (359, 55), (378, 59), (382, 60), (386, 61), (394, 63), (398, 64), (402, 65), (415, 68), (430, 72), (434, 73), (438, 74), (442, 75), (466, 81), (470, 82), (479, 84), (487, 86), (491, 87), (499, 89), (503, 90), (618, 114), (622, 115), (628, 116), (637, 118), (645, 120), (653, 122), (657, 123), (665, 125), (669, 126), (673, 127), (677, 128), (685, 130), (777, 132), (800, 138), (843, 149), (870, 156), (881, 159), (889, 161), (893, 162), (897, 163), (921, 169), (933, 172), (948, 176), (957, 178), (961, 179), (969, 181), (973, 182), (982, 184), (986, 185), (994, 187), (998, 188), (1002, 189), (1013, 192), (1017, 193), (1025, 195), (1029, 196), (1033, 197), (1037, 198), (1049, 201), (1061, 204), (1069, 206), (1073, 207), (1077, 208), (1097, 213), (1101, 214), (1110, 216), (1114, 217), (1118, 218), (1122, 219), (1126, 220), (1180, 231), (1187, 233), (1192, 234), (1197, 235), (1204, 237), (1208, 238), (1212, 239), (1216, 240), (1220, 241), (1224, 242), (1228, 243), (1232, 244)]
noncomputable def mIN : List (Nat × Nat) := [(0, 5), (1, 3), (2, 2), (3, 1), (4, 0), (5, 4), (7, 6)]
noncomputable def mUL : List (Nat × Nat × Nat) := [(49, 2, 0), (51, 2, 1), (53, 2, 2), (55, 2, 3), (57, 2, 4), (59, 2, 5), (61, 2, 6), (63, 2, 7), (82, 1, 0), (84, 1, 1), (86, 1, 2), (88, 1, 3), (90, 1, 4), (92, 1, 5), (94, 1, 6), (111, 0, 0), (113, 0, 1), (115, 0, 2), (127, 3, 0), (129, 3, 1), (131, 3, 2), (133, 3, 3), (135, 3, 4), (137, 3, 5), (139, 3, 6), (141, 3, 7), (143, 3, 8), (726, 4, 0), (728, 4, 1), (730, 4, 2), (732, 4, 3), (734, 4, 4), (736, 4, 5), (738, 4, 6), (740, 4, 7), (742, 4, 8), (744, 4, 9), (746, 4, 10), (748, 4, 11), (750, 4, 12), (752, 4, 13), (754, 4, 14), (756, 4, 15), (758, 4, 16), (760, 4, 17), (762, 4, 18), (764, 4, 19), (766, 4, 20), (768, 4, 21), (770, 4, 22), (772, 4, 23)]
noncomputable def mNI : List (Nat × Nat) := [(14, 3), (22, 2), (68, 1), (100, 0), (688, 4)]
noncomputable def mTk : List Nat := [50, 106, 108, 110, 112, 114, 116, 118, 66, 72, 82, 88, 90, 92, 94]
noncomputable def mTk4 : List Nat := [319, 39, 41, 43, 45, 47, 49, 37, 306, 311, 313, 324, 326, 328, 330]
noncomputable def mNr : List (Nat × Nat × Nat × Nat) := [(19, 0, 1, 0), (20, 1, 1, 0), (21, 2, 1, 0), (22, 3, 1, 0), (23, 4, 1, 0), (24, 4, 1, 1), (25, 4, 1, 2), (26, 4, 1, 3), (27, 4, 1, 4), (28, 4, 1, 5), (29, 0, 2, 0), (30, 1, 2, 0), (31, 2, 2, 0), (32, 3, 2, 0), (33, 4, 2, 0), (34, 4, 2, 1), (35, 4, 2, 2), (36, 4, 2, 3), (37, 4, 2, 4), (38, 0, 3, 0), (39, 1, 3, 0), (40, 2, 3, 0), (41, 3, 3, 0), (42, 4, 3, 0), (43, 4, 3, 1), (44, 4, 3, 2), (45, 4, 3, 3), (46, 4, 3, 4), (47, 4, 3, 5), (48, 4, 3, 6), (49, 0, 4, 0), (50, 1, 4, 0), (51, 2, 4, 0), (52, 3, 4, 0), (53, 4, 4, 0), (54, 4, 4, 1), (55, 4, 4, 2), (56, 4, 4, 3), (57, 4, 4, 4), (58, 0, 5, 0), (59, 1, 5, 0), (60, 2, 5, 0), (61, 3, 5, 0), (62, 4, 5, 0), (63, 4, 5, 1), (64, 4, 5, 2), (65, 4, 5, 3), (66, 4, 5, 4), (67, 0, 6, 0), (68, 1, 6, 0), (69, 2, 6, 0), (70, 3, 6, 0), (71, 4, 6, 0), (72, 4, 6, 1), (73, 4, 6, 2), (74, 4, 6, 3), (75, 4, 6, 4), (76, 4, 6, 5), (77, 0, 7, 0), (78, 1, 7, 0), (79, 2, 7, 0), (80, 3, 7, 0), (81, 4, 7, 0), (82, 4, 7, 1), (83, 4, 7, 2), (84, 4, 7, 3), (85, 4, 7, 4), (86, 4, 7, 5), (87, 0, 8, 0), (88, 1, 8, 0), (89, 2, 8, 0), (90, 3, 8, 0), (91, 4, 8, 0), (92, 4, 8, 1), (93, 0, 9, 0), (94, 1, 9, 0), (95, 2, 9, 0), (96, 3, 9, 0), (97, 4, 9, 0), (98, 4, 9, 1), (99, 4, 9, 2), (100, 4, 9, 3), (101, 4, 9, 4), (102, 0, 10, 0), (103, 1, 10, 0), (104, 2, 10, 0), (105, 3, 10, 0), (106, 4, 10, 0), (107, 4, 10, 1), (108, 4, 10, 2), (109, 4, 10, 3), (110, 4, 10, 4), (111, 0, 0, 0), (112, 1, 0, 0), (113, 2, 0, 0), (114, 3, 0, 0), (115, 4, 0, 0), (116, 4, 0, 1), (117, 4, 0, 2), (118, 4, 0, 3), (119, 4, 0, 4), (120, 0, 11, 0), (121, 1, 11, 0), (122, 2, 11, 0), (123, 3, 11, 0), (124, 4, 11, 0), (125, 4, 11, 1), (126, 4, 11, 2), (127, 4, 11, 3), (128, 4, 11, 4), (129, 0, 12, 0), (130, 1, 12, 0), (131, 2, 12, 0), (132, 3, 12, 0), (133, 4, 12, 0), (134, 4, 12, 1), (135, 4, 12, 2), (136, 4, 12, 3), (137, 4, 12, 4), (138, 0, 13, 0), (139, 1, 13, 0), (140, 2, 13, 0), (141, 3, 13, 0), (142, 4, 13, 0), (143, 4, 13, 1), (144, 0, 14, 0), (145, 1, 14, 0), (146, 2, 14, 0), (147, 3, 14, 0), (148, 4, 14, 0), (149, 4, 14, 1), (160, 5, 7, 37), (171, 5, 1, 39), (181, 5, 2, 41), (193, 5, 3, 43), (203, 5, 4, 45), (213, 5, 5, 47), (224, 5, 6, 49), (231, 5, 8, 306), (241, 5, 9, 311), (251, 5, 10, 313), (261, 5, 0, 319), (271, 5, 11, 324), (281, 5, 12, 326), (288, 5, 13, 328), (295, 5, 14, 330)]
abbrev mIdLaw : Nat := 245
abbrev mIdLen : Nat := 98
abbrev mIdChr : Nat := 100
abbrev mIdCod : Nat := 99
abbrev mIdLat : Nat := 101
abbrev mIdChk : Nat := 103
abbrev mIdLch : Nat := 102
abbrev mIdPre : Nat := 104
abbrev mNM : Nat := 246
noncomputable def mDf (k : Nat) : List Value := ([[.null, .int 0, .int 0],
  [.null, .int 0, .int 0, .int 0, .int 0, .int 0, .int 0],
  [.null, .null, .null, .int 0, .int 0, .int 0, .int 0, .int 0],
  [.null, .null, .null, .null, .null, .null, .int 0, .null, .null],
  [.null, .null, .null, .int 0, .null, .null, .int 0, .null, .null, .int 0, .int 0, .int 0, .int 0, .int 0, .int 0, .null, .null, .int 0, .int 0, .int 0, .null, .null, .null, .null]] : List (List Value)).getD k []
noncomputable def mFT (k : Nat) : u_T := match k with
  | 0 => TX0
  | 1 => TX1
  | 2 => TX2
  | 3 => TX3
  | _ => TX4
noncomputable def mFy (k : Nat) : (Nat → FieldType) := match k with
  | 0 => tyX0
  | 1 => tyX1
  | 2 => tyX2
  | 3 => tyX3
  | _ => tyX4
noncomputable def mFN (k : Nat) : Nat := match k with
  | 0 => 3
  | 1 => 7
  | 2 => 8
  | 3 => 9
  | _ => 24
end
section
/-! ===== a small machine over worlds: a cell is a place in a list, a reference is such a place ===== -/
abbrev mLoc : Type := List (Option Value)
abbrev mHp : Type := List va_E
abbrev mSc : Type := Nat × (Nat → Int32)
abbrev mRes : Type := (Nat × mLoc × List Value × mHp) ⊕ (Option Value ⊕ (Nat × List Value × List Value))
noncomputable def mSz (c : va_E) : Nat := match c with
  | .inl a => a.2.1
  | .inr o => o.2.length
noncomputable def mSl (D : mHp) : Nat := (D.map mSz).sum
noncomputable def mOk (ls : mLoc) (i : Nat) : Bool := match i with
  | 0 => true
  | j + 1 => match ls[j]? with
    | some (some w) => Nat.beq w.category 1
    | _ => true
noncomputable def mS1 (ls : mLoc) (i : Nat) (v : Value) : Option mLoc := cond (Nat.blt i ls.length && mOk ls i) (some (ls.set i (some v))) none
noncomputable def mS2 (ls : mLoc) (i : Nat) (v : Value) : Option mLoc := cond (Nat.blt (i + 1) ls.length && mOk ls i) (some ((ls.set i (some v)).set (i + 1) none)) none
noncomputable def mTo (pc : Nat) (off : Int) : Option Nat := if (0 : Int) ≤ (pc : Int) + off then some ((pc : Int) + off).toNat else none
noncomputable def mGo (pc : Nat) (off : Int) (ls : mLoc) (st : List Value) (D : mHp) : Option mRes := (mTo pc off).map fun t => .inl (t, ls, st, D)
noncomputable def mBr (b : Bool) (pc : Nat) (off : Int) (ls : mLoc) (st : List Value) (D : mHp) : Option mRes := (mTo pc off).map fun t => .inl (cond b t (pc + 3), ls, st, D)
noncomputable def mNx (pc : Nat) (ls : mLoc) (st : List Value) (D : mHp) : Option mRes := some (.inl (pc, ls, st, D))
noncomputable def mKA : Nat → Int32 := fun j => ([-1, 0, 0, 2, 3, 0, 1] : List Int32).getD j 0
noncomputable def mRo (X : mSc) (i : Nat) : Option (Nat × (Nat → Int32)) := cond (Nat.beq i 1000100) (some (7, mKA)) (cond (Nat.beq i 1000200) (some X) none)
noncomputable def mOut (j : Int32) (n : Nat) : Bool := decide (j < 0 ∨ n ≤ j.toNatClampNeg)
/-- an element of an array of whole numbers, of type code t -/
noncomputable def mLd (X : mSc) (t : Nat) (D : mHp) (i : Nat) (j : Int32) : Option Value := match D[i]? with
  | some (.inl (t', n, .inl f)) => cond (Nat.beq t' t && !mOut j n) (some (.int (f j.toNatClampNeg))) none
  | some _ => none
  | none => cond (Nat.beq t 0) (match mRo X i with
    | some (n, f) => cond (!mOut j n) (some (.int (f j.toNatClampNeg))) none
    | none => none) none
noncomputable def mLdq (D : mHp) (i : Nat) (j : Int32) : Option Value := match D[i]? with
  | some (.inl (t, n, .inr (.inr (.inr (.inr f))))) => cond (Nat.ble 2 t && Nat.ble t 4 && !mOut j n) (some (va_rf (f j.toNatClampNeg))) none
  | _ => none
noncomputable def mNar (t : Nat) (x : Int32) : Int32 := match t with
  | 0 => x
  | _ => x.toInt8.toInt32
noncomputable def mStI (t : Nat) (D : mHp) (i : Nat) (j x : Int32) : Option mHp := match D[i]? with
  | some (.inl (t', n, .inl f)) => cond (Nat.beq t' t && !mOut j n) (some (D.set i (.inl (t', n, .inl (upd f j.toNatClampNeg (mNar t x)))))) none
  | _ => none
/-- a reference's class suits the array's type code: 2 sheets, 4 texts -/
noncomputable def mAk (D : mHp) (t v : Nat) : Bool := match t with
  | 2 => match D[v]? with
    | some (.inr (c, _)) => Nat.beq c 0
    | _ => false
  | 4 => Nat.ble 1000000 v && Nat.blt v 1000015
  | _ => false
noncomputable def mStQ (D : mHp) (i : Nat) (j : Int32) (v : Nat) : Option mHp := match D[i]? with
  | some (.inl (t, n, .inr (.inr (.inr (.inr f))))) => cond (mAk D t v && !mOut j n) (some (D.set i (.inl (t, n, .inr (.inr (.inr (.inr (va_up f j.toNatClampNeg (some v))))))))) none
  | _ => none
noncomputable def mLen (X : mSc) (D : mHp) (i : Nat) : Option Int32 := match D[i]? with
  | some (.inl (t, a)) => cond (Nat.ble t 4) (some (Int32.ofNat a.1)) none
  | some _ => none
  | none => (mRo X i).map fun q => Int32.ofNat q.1
noncomputable def mGet (D : mHp) (i a b : Nat) : Option Value := match D[i]? with
  | some (.inr (c, fs)) => cond (Nat.beq c a) (fs[b]?) none
  | _ => none
noncomputable def mFit (ty : FieldType) (v : Value) : Bool := match v with
  | .int x => decide (narrow ty (.int x) = .int x) && fits ty (.int x)
  | .ref _ => match ty with
    | .object _ => true
    | .array _ => true
    | _ => false
  | _ => false
noncomputable def mPut (row : mRow) (kd : Nat) (D : mHp) (i a b : Nat) (v : Value) : Option mHp := match D[i]? with
  | some (.inr (c, fs)) => cond (Nat.beq c a && Nat.blt b (mFN a) && Nat.blt b fs.length && mFit (mFy a b) v && (!(mFT a b).2.2.2 || Nat.beq kd 0 && decide (row.2.1.name = "<init>" ∧ (mFT a b).1 = mNm row.1))) (some (D.set i (.inr (c, fs.set b v)))) none
  | _ => none
noncomputable def mWt (r : List Value) : Nat := (r.map fun v => v.category).sum
noncomputable def mC1 (as : List Value) : Bool := as.all fun v => Nat.beq v.category 1
/-- the receiver's class is the method's -/
noncomputable def mRcv (D : mHp) (as : List Value) (mid : Nat) : Bool := match as with
  | .ref i :: _ => match D[i]?, mMet mid with
    | some (.inr (c, _)), some r => Nat.beq c r.1
    | _, _ => false
  | _ => false
noncomputable def mChr (i : Nat) : Option (List Nat) := cond (Nat.ble 1000000 i) (mTx[i - 1000000]?) none
noncomputable def mCall (e : mEnt) (v : Bool) (pc : Nat) (ls : mLoc) (st : List Value) (D : mHp) : Option mRes := match e.2.2.2.1 with
  | 20 => match st with
    | .ref _ :: r => cond (Nat.ble (mWt r) 8) (mNx (pc + 3) ls r D) none
    | _ => none
  | 21 => match st with
    | .int n :: .int dp :: .ref i1 :: .int sp :: .ref i0 :: r => match D[i0]?, D[i1]? with
      | some (.inl (t0, n0, .inl f)), some (.inl (t1, n1, .inl g)) => cond (Nat.beq t0 0 && Nat.beq t1 0 && !decide (sp < 0) && !decide (dp < 0) && !decide (n < 0) && Nat.ble (sp.toNatClampNeg + n.toNatClampNeg) n0 && Nat.ble (dp.toNatClampNeg + n.toNatClampNeg) n1 && Nat.ble (mWt r) 8)
          (mNx (pc + 3) ls r (D.set i1 (.inl (t1, n1, .inl (va_cpy f g sp.toNatClampNeg dp.toNatClampNeg n.toNatClampNeg))))) none
      | _, _ => none
    | _ => none
  | 22 => match st with
    | .ref i :: r => match mChr i with
      | some tx => cond (Nat.ble (mWt r) 8) (mNx (pc + 3) ls (.int (nI tx.length) :: r) D) none
      | none => none
    | _ => none
  | 23 => match st with
    | .int k :: .ref i :: r => match mChr i with
      | some tx => cond (Nat.ble (mWt r) 8 && !mOut k tx.length) (mNx (pc + 3) ls (.int (nI (tx.getD k.toNatClampNeg 0)) :: r) D) none
      | none => none
    | _ => none
  | 24 => match st with
    | .int y :: .int x :: r => cond (Nat.ble (mWt r) 8) (mNx (pc + 3) ls (.int (if x < y then y else x) :: r) D) none
    | _ => none
  | 25 => match st with
    | .int y :: .int x :: r => cond (Nat.ble (mWt r) 8) (mNx (pc + 3) ls (.int (if y < x then y else x) :: r) D) none
    | _ => none
  | _ => cond (Nat.ble e.2.2.2.2.2.1 st.length && mC1 (st.take e.2.2.2.2.2.1) && Nat.ble (mWt (st.drop e.2.2.2.2.2.1)) 8 && (!v || mRcv D (st.take e.2.2.2.2.2.1).reverse e.2.2.2.2.1)) (some (.inr (.inr (e.2.2.2.2.1, (st.take e.2.2.2.2.2.1).reverse, st.drop e.2.2.2.2.2.1)))) none
noncomputable def mStep (X : mSc) (row : mRow) (e : mEnt) (pc : Nat) (ls : mLoc) (st : List Value) (D : mHp) : Option mRes := match e.1 with
  | .iconst n => mNx (pc + 1) ls (.int (Int32.ofInt n) :: st) D
  | .bipush n => mNx (pc + 2) ls (.int (Int8.ofInt n).toInt32 :: st) D
  | .sipush n => mNx (pc + 3) ls (.int (Int16.ofInt n).toInt32 :: st) D
  | .lconst n => mNx (pc + 1) ls (.long (Int64.ofNat n.val) :: st) D
  | .ldc _ => match e.2.2.2.1 with
    | 2 => mNx (pc + 2) ls (.int (Int32.ofInt e.2.2.2.2.2.2) :: st) D
    | 3 => mNx (pc + 2) ls (.ref (1000000 + e.2.2.2.2.2.1) :: st) D
    | _ => none
  | .ldc_w _ => match e.2.2.2.1 with
    | 2 => mNx (pc + 3) ls (.int (Int32.ofInt e.2.2.2.2.2.2) :: st) D
    | 3 => mNx (pc + 3) ls (.ref (1000000 + e.2.2.2.2.2.1) :: st) D
    | _ => none
  | .iload_n k => match ls[k.val]? with
    | some (some (.int x)) => mNx (pc + 1) ls (.int x :: st) D
    | _ => none
  | .iload i => match ls[i]? with
    | some (some (.int x)) => mNx (pc + 2) ls (.int x :: st) D
    | _ => none
  | .lload_n k => match ls[k.val]? with
    | some (some (.long x)) => mNx (pc + 1) ls (.long x :: st) D
    | _ => none
  | .lload i => match ls[i]? with
    | some (some (.long x)) => mNx (pc + 2) ls (.long x :: st) D
    | _ => none
  | .aload_n k => match ls[k.val]? with
    | some (some (.ref x)) => mNx (pc + 1) ls (.ref x :: st) D
    | _ => none
  | .aload i => match ls[i]? with
    | some (some (.ref x)) => mNx (pc + 2) ls (.ref x :: st) D
    | _ => none
  | .istore_n k => match st with
    | .int x :: r => (mS1 ls k.val (.int x)).bind fun l => mNx (pc + 1) l r D
    | _ => none
  | .istore i => match st with
    | .int x :: r => (mS1 ls i (.int x)).bind fun l => mNx (pc + 2) l r D
    | _ => none
  | .lstore_n k => match st with
    | .long x :: r => (mS2 ls k.val (.long x)).bind fun l => mNx (pc + 1) l r D
    | _ => none
  | .lstore i => match st with
    | .long x :: r => (mS2 ls i (.long x)).bind fun l => mNx (pc + 2) l r D
    | _ => none
  | .astore_n k => match st with
    | .ref x :: r => (mS1 ls k.val (.ref x)).bind fun l => mNx (pc + 1) l r D
    | _ => none
  | .astore i => match st with
    | .ref x :: r => (mS1 ls i (.ref x)).bind fun l => mNx (pc + 2) l r D
    | _ => none
  | .iinc i n => match ls[i]? with
    | some (some (.int x)) => (mS1 ls i (.int (x + Int32.ofInt n))).bind fun l => mNx (pc + 3) l st D
    | _ => none
  | .iadd => match st with
    | .int y :: .int x :: r => mNx (pc + 1) ls (.int (x + y) :: r) D
    | _ => none
  | .isub => match st with
    | .int y :: .int x :: r => mNx (pc + 1) ls (.int (x - y) :: r) D
    | _ => none
  | .imul => match st with
    | .int y :: .int x :: r => mNx (pc + 1) ls (.int (x * y) :: r) D
    | _ => none
  | .iand => match st with
    | .int y :: .int x :: r => mNx (pc + 1) ls (.int (x &&& y) :: r) D
    | _ => none
  | .ior => match st with
    | .int y :: .int x :: r => mNx (pc + 1) ls (.int (x ||| y) :: r) D
    | _ => none
  | .ixor => match st with
    | .int y :: .int x :: r => mNx (pc + 1) ls (.int (x ^^^ y) :: r) D
    | _ => none
  | .idiv => match st with
    | .int y :: .int x :: r => if y = 0 then none else mNx (pc + 1) ls (.int (x / y) :: r) D
    | _ => none
  | .irem => match st with
    | .int y :: .int x :: r => if y = 0 then none else mNx (pc + 1) ls (.int (x - x / y * y) :: r) D
    | _ => none
  | .ishl => match st with
    | .int y :: .int x :: r => mNx (pc + 1) ls (.int (x <<< (y &&& 31)) :: r) D
    | _ => none
  | .ishr => match st with
    | .int y :: .int x :: r => mNx (pc + 1) ls (.int (x >>> (y &&& 31)) :: r) D
    | _ => none
  | .iushr => match st with
    | .int y :: .int x :: r => mNx (pc + 1) ls (.int (x.toUInt32 >>> (y.toUInt32 &&& Int32.toUInt32 31)).toInt32 :: r) D
    | _ => none
  | .i2l => match st with
    | .int x :: r => mNx (pc + 1) ls (.long x.toInt64 :: r) D
    | _ => none
  | .i2b => match st with
    | .int x :: r => mNx (pc + 1) ls (.int x.toInt8.toInt32 :: r) D
    | _ => none
  | .i2s => match st with
    | .int x :: r => mNx (pc + 1) ls (.int x.toInt16.toInt32 :: r) D
    | _ => none
  | .ladd => match st with
    | .long y :: .long x :: r => mNx (pc + 1) ls (.long (x + y) :: r) D
    | _ => none
  | .lmul => match st with
    | .long y :: .long x :: r => mNx (pc + 1) ls (.long (x * y) :: r) D
    | _ => none
  | .lcmp => match st with
    | .long y :: .long x :: r => mNx (pc + 1) ls (.int (lg_cmp x y) :: r) D
    | _ => none
  | .dup => match st with
    | v :: r => cond (Nat.beq v.category 1) (mNx (pc + 1) ls (v :: v :: r) D) none
    | _ => none
  | .pop => match st with
    | v :: r => cond (Nat.beq v.category 1) (mNx (pc + 1) ls r D) none
    | _ => none
  | .dup2 => match st with
    | v :: w :: r => cond (Nat.beq v.category 1 && Nat.beq w.category 1) (mNx (pc + 1) ls (v :: w :: v :: w :: r) D) none
    | _ => none
  | .pop2 => match st with
    | .long _ :: r => mNx (pc + 1) ls r D
    | _ => none
  | .ifCond .eq off => match st with
    | .int x :: r => mBr (decide (x = 0)) pc off ls r D
    | _ => none
  | .ifCond .ne off => match st with
    | .int x :: r => mBr (!decide (x = 0)) pc off ls r D
    | _ => none
  | .ifCond .lt off => match st with
    | .int x :: r => mBr (decide (x < 0)) pc off ls r D
    | _ => none
  | .ifCond .ge off => match st with
    | .int x :: r => mBr (decide (0 ≤ x)) pc off ls r D
    | _ => none
  | .ifCond .gt off => match st with
    | .int x :: r => mBr (decide (0 < x)) pc off ls r D
    | _ => none
  | .ifCond .le off => match st with
    | .int x :: r => mBr (decide (x ≤ 0)) pc off ls r D
    | _ => none
  | .if_icmp .eq off => match st with
    | .int y :: .int x :: r => mBr (decide (x = y)) pc off ls r D
    | _ => none
  | .if_icmp .ne off => match st with
    | .int y :: .int x :: r => mBr (!decide (x = y)) pc off ls r D
    | _ => none
  | .if_icmp .lt off => match st with
    | .int y :: .int x :: r => mBr (decide (x < y)) pc off ls r D
    | _ => none
  | .if_icmp .ge off => match st with
    | .int y :: .int x :: r => mBr (decide (y ≤ x)) pc off ls r D
    | _ => none
  | .if_icmp .gt off => match st with
    | .int y :: .int x :: r => mBr (decide (y < x)) pc off ls r D
    | _ => none
  | .if_icmp .le off => match st with
    | .int y :: .int x :: r => mBr (decide (x ≤ y)) pc off ls r D
    | _ => none
  | .goto off => mGo pc off ls st D
  | .tableswitch dflt lo hi offs => match st with
    | .int x :: r => if x.toInt < lo ∨ hi < x.toInt then mGo pc dflt ls r D else match offs[(x.toInt - lo).toNat]? with
      | some off => mGo pc off ls r D
      | none => none
    | _ => none
  | .getfield _ => match st with
    | .ref i :: r => (mGet D i e.2.2.2.2.1 e.2.2.2.2.2.1).bind fun v => mNx (pc + 3) ls (v :: r) D
    | _ => none
  | .putfield _ => match st with
    | v :: .ref i :: r => (mPut row e.2.2.2.1 D i e.2.2.2.2.1 e.2.2.2.2.2.1 v).bind fun D1 => mNx (pc + 3) ls r D1
    | _ => none
  | .getstatic _ => mNx (pc + 3) ls (.ref 1000100 :: st) D
  | .iaload => match st with
    | .int j :: .ref i :: r => (mLd X 0 D i j).bind fun v => mNx (pc + 1) ls (v :: r) D
    | _ => none
  | .baload => match st with
    | .int j :: .ref i :: r => (mLd X 1 D i j).bind fun v => mNx (pc + 1) ls (v :: r) D
    | _ => none
  | .aaload => match st with
    | .int j :: .ref i :: r => (mLdq D i j).bind fun v => mNx (pc + 1) ls (v :: r) D
    | _ => none
  | .iastore => match st with
    | .int x :: .int j :: .ref i :: r => (mStI 0 D i j x).bind fun D1 => mNx (pc + 1) ls r D1
    | _ => none
  | .bastore => match st with
    | .int x :: .int j :: .ref i :: r => (mStI 1 D i j x).bind fun D1 => mNx (pc + 1) ls r D1
    | _ => none
  | .aastore => match st with
    | .ref v :: .int j :: .ref i :: r => (mStQ D i j v).bind fun D1 => mNx (pc + 1) ls r D1
    | _ => none
  | .arraylength => match st with
    | .ref i :: r => (mLen X D i).bind fun n => mNx (pc + 1) ls (.int n :: r) D
    | _ => none
  | .newarray .int => match st with
    | .int n :: r => if n < 0 ∨ 1000 < n.toNatClampNeg then none else mNx (pc + 2) ls (.ref D.length :: r) (D ++ [.inl (0, n.toNatClampNeg, .inl (fun _ => 0))])
    | _ => none
  | .newarray .byte => match st with
    | .int n :: r => if n < 0 ∨ 1000 < n.toNatClampNeg then none else mNx (pc + 2) ls (.ref D.length :: r) (D ++ [.inl (1, n.toNatClampNeg, .inl (fun _ => 0))])
    | _ => none
  | .anewarray _ => match st with
    | .int n :: r => if n < 0 ∨ 1000 < n.toNatClampNeg then none else mNx (pc + 3) ls (.ref D.length :: r) (D ++ [.inl (e.2.2.2.2.1, n.toNatClampNeg, .inr (.inr (.inr (.inr (fun _ => none)))))])
    | _ => none
  | .multianewarray _ 2 => match st with
    | .int k :: .int n :: r => if n < 0 ∨ k < 0 ∨ 1000 < n.toNatClampNeg ∨ 1000 < k.toNatClampNeg then none else mNx (pc + 4) ls (.ref D.length :: r)
        (D ++ (.inl (3, n.toNatClampNeg, .inr (.inr (.inr (.inr (fun i => if i < n.toNatClampNeg then some (D.length + 1 + i) else none))))) :: List.replicate n.toNatClampNeg (.inl (0, k.toNatClampNeg, .inl (fun _ => 0)))))
    | _ => none
  | .new _ => mNx (pc + 3) ls (.ref D.length :: st) (D ++ [.inr (e.2.2.2.2.1, mDf e.2.2.2.2.1)])
  | .ireturn => match st with
    | [.int v] => match row.2.2.2.2.1 with
      | some ty => cond (decide (narrow ty (.int v) = .int v)) (some (.inr (.inl (some (.int v))))) none
      | none => none
    | _ => none
  | .lreturn => match st with
    | [.long v] => cond (decide (row.2.2.2.2.1 = some .long)) (some (.inr (.inl (some (.long v))))) none
    | _ => none
  | .areturn => match st with
    | [.ref v] => match row.2.2.2.2.1 with
      | some (.object _) => some (.inr (.inl (some (.ref v))))
      | _ => none
    | _ => none
  | .return_ => match st with
    | [] => cond (decide (row.2.2.2.2.1 = none)) (some (.inr (.inl none))) none
    | _ => none
  | .invokestatic _ => mCall e false pc ls st D
  | .invokespecial _ => mCall e true pc ls st D
  | .invokevirtual _ => mCall e true pc ls st D
  | _ => none
noncomputable def mEnv (maxL : Nat) (as : List Value) : mLoc := as.map some ++ List.replicate (maxL - as.length) none
noncomputable def mRun (X : mSc) : Nat → Nat → Nat → mLoc → List Value → mHp → Option (Option Value × mHp)
  | 0, _, _, _, _, _ => none
  | n + 1, mid, pc, ls, st, D => match mMet mid, mFetch mid pc with
    | some row, some e => match mStep X row e pc ls st D with
      | some (.inl q) => mRun X n mid q.1 q.2.1 q.2.2.1 q.2.2.2
      | some (.inr (.inl v)) => some (v, D)
      | some (.inr (.inr q)) => match mMet q.1 with
        | some r => cond (Nat.ble q.2.1.length r.2.2.2.1) (match mRun X n q.1 0 (mEnv r.2.2.2.1 q.2.1) [] D with
          | some z => mRun X n mid (pc + 3) ls (z.1.toList ++ q.2.2) z.2
          | none => none) none
        | none => none
      | none => none
    | _, _ => none
end
section
/-! ===== the small machine's worlds in the real heap ===== -/
abbrev mG : Type := Nat × (Nat → Nat) × va_G × (Nat → ClassId) × mSc
def mAd (G : mG) (i : Nat) : Nat := if i < 1000000 then G.1 + i else G.2.1 (i - 1000000)
def mV (G : mG) (v : Value) : Value := match v with
  | .ref i => .ref (mAd G i)
  | v => v
def mCA (G : mG) (a : vp_A) : vp_A := match a with
  | (n, .inr (.inr (.inr (.inr f)))) => (n, .inr (.inr (.inr (.inr (fun i => (f i).map (mAd G))))))
  | a => a
def mCE (G : mG) (c : va_E) : va_E := match c with
  | .inl a => .inl (G.2.2.2.1 a.1, mCA G a.2)
  | .inr o => .inr (o.1, o.2.map (mV G))
def mW (G : mG) : Nat → mHp → va_W
  | _, [] => []
  | k, c :: D => (G.1 + k, mCE G c) :: mW G (k + 1) D
theorem mV_cat (G : mG) (v : Value) : (mV G v).category = v.category := by cases v <;> rfl
theorem mV_rf (G : mG) (r : Option Nat) : mV G (va_rf r) = va_rf (r.map (mAd G)) := by cases r <;> rfl
theorem mAd_lt {G : mG} {i : Nat} (h : i < 1000000) : mAd G i = G.1 + i := if_pos h
theorem mW_get (G : mG) : ∀ (D : mHp) (k i : Nat), (mW G k D)[i]? = (D[i]?).map (fun c => (G.1 + (k + i), mCE G c)) := by
  intro D
  induction D with
  | nil => intro k i; simp [mW]
  | cons c D ih =>
    intro k i
    cases i with
    | zero => simp [mW]
    | succ i =>
      simp only [mW, List.getElem?_cons_succ]
      rw [ih, show k + 1 + i = k + (i + 1) by omega]
theorem mW_at {G : mG} {D : mHp} {i : Nat} {c : va_E} (h : D[i]? = some c) : (mW G 0 D)[i]? = some (G.1 + i, mCE G c) := by
  rw [mW_get, h, Option.map_some, Nat.zero_add]
theorem mW_set (G : mG) (c : va_E) : ∀ (D : mHp) (k i : Nat), mW G k (D.set i c) = (mW G k D).set i (G.1 + (k + i), mCE G c) := by
  intro D
  induction D with
  | nil => intro k i; simp [mW]
  | cons d D ih =>
    intro k i
    cases i with
    | zero => simp [mW]
    | succ i =>
      simp only [mW, List.set_cons_succ]
      rw [ih, show k + 1 + i = k + (i + 1) by omega]
theorem mW_set0 (G : mG) (D : mHp) (i : Nat) (c : va_E) : mW G 0 (D.set i c) = (mW G 0 D).set i (G.1 + i, mCE G c) := by rw [mW_set, Nat.zero_add]
theorem mW_app (G : mG) (E : mHp) : ∀ (D : mHp) (k : Nat), mW G k (D ++ E) = mW G k D ++ mW G (k + D.length) E := by
  intro D
  induction D with
  | nil => intro k; simp [mW]
  | cons d D ih =>
    intro k
    simp only [List.cons_append, mW, List.length_cons]
    rw [ih, show k + 1 + D.length = k + (D.length + 1) by omega]
abbrev mA (G : mG) : Nat → Prop := fun q => G.1 ≤ q
theorem mW_D (G : mG) (D : mHp) : va_D (mA G) (mW G 0 D) := by
  refine ⟨fun i j p q hi hj h => ?_, fun k q hk => ?_⟩
  · rw [mW_get] at hi hj
    obtain ⟨c, -, rfl⟩ := Option.map_eq_some_iff.mp hi
    obtain ⟨d, -, rfl⟩ := Option.map_eq_some_iff.mp hj
    have h9 : G.1 + (0 + i) = G.1 + (0 + j) := h
    omega
  · rw [mW_get] at hk
    obtain ⟨c, -, rfl⟩ := Option.map_eq_some_iff.mp hk
    show G.1 ≤ G.1 + (0 + k)
    omega
def mMS (G : mG) (D : mHp) (H : Heap) : Prop := va_P G.2.2.1 vwCl (mW G 0 D) H
theorem mMS.low {G : mG} {D : mHp} {H : Heap} (h : mMS G D H) (h0 : G.1 ≤ H.size) : G.1 + D.length ≤ H.size := by
  cases hD : D.length with
  | zero => omega
  | succ n =>
    obtain ⟨c, hc⟩ : ∃ c, D[n]? = some c := ⟨D[n]'(by omega), List.getElem?_eq_getElem (by omega)⟩
    have := (h n _ (mW_at hc)).lt
    have h9 : G.1 + n < H.size := this
    omega
abbrev mTys (G : mG) : List (ClassId × FieldType) := [(G.2.2.2.1 0, .int), (G.2.2.2.1 1, .byte), (G.2.2.2.1 2, .object "EnvyRust$Sheet"), (G.2.2.2.1 3, .array .int), (G.2.2.2.1 4, .object "java/lang/String")]
/-- the words that every table keeps -/
noncomputable def mGW : List Cond := lw_tbl.filter goodWord
def mNest (w : Cond) : Bool := match w with
  | .fieldLinkNest .. => true
  | .methodLinkNest .. => true
  | _ => false
noncomputable def mNW : List Cond := lw_tbl.filter mNest
theorem mGW_good : GoodIn mGW mGW := fun w h => ⟨h, good_of_word (List.mem_filter.mp h).2⟩
theorem mGW_in {i : Nat} {w : Cond} (h : lw_tbl[i]? = some w) (hg : goodWord w = true) : w ∈ mGW := List.mem_filter.mpr ⟨List.mem_of_getElem? h, hg⟩
theorem mNW_in {i : Nat} {w : Cond} (h : lw_tbl[i]? = some w) (hg : mNest w = true) : w ∈ mNW := List.mem_filter.mpr ⟨List.mem_of_getElem? h, hg⟩
/-- what holds of the tables and of the cells that nobody writes: classes, links, texts, the kinds' table, the script -/
noncomputable def mE (G : mG) (U : State) (H : Heap) : Prop :=
  va_K G.2.2.1 vwCl (mTys G) U ∧ (∀ w ∈ mNW, va_Nw w U) ∧ (va_AO "EnvyRust$Sheet" U ∧ va_AO "java/lang/String" U ∧ (Cond.arrayOver (.array .int)).before #[] U = true) ∧
  (∀ t, t < 15 → va_O "java/lang/String" (G.2.1 t) (mA G) U H ∧ va_OF "java/lang/String" "coder" "B" (.int 0) (G.2.1 t) (mA G) U H ∧ va_OF "java/lang/String" "value" "[B" (.ref (G.2.1 (300 + t))) (G.2.1 t) (mA G) U H ∧ va_T .byte (G.2.1 (300 + t)) (mTx.getD t []).length (fun j => .int (nI ((mTx.getD t []).getD j 0))) (mA G) U H) ∧ (∀ q ∈ mLT, q.2.2.1 = 3 → vk_R (mNm q.1) q.2.1 (mTs.getD q.2.2.2.2.1 "") (G.2.1 q.2.2.2.2.1) U) ∧
  va_Z "EnvyRust" "KIND_ABOVE" "[I" (.ref (G.2.1 100)) (mA G) U H ∧ va_T .int (G.2.1 100) 7 (fun j => .int (mKA j)) (mA G) U H ∧ va_T .int (G.2.1 200) G.2.2.2.2.1 (fun j => .int (G.2.2.2.2.2 j)) (mA G) U H ∧
  (va_Z "java/lang/String" "COMPACT_STRINGS" "Z" (.int 1) (mA G) U H ∧ va_Zq "jdk/internal/util/Preconditions" "SIOOBE_FORMATTER" "Ljava/util/function/BiFunction;" (mA G) U H)
theorem mAO_moved {t : FieldType} {u U : State} (hvm : u.vm.Alike U.vm) (h : (Cond.arrayOver (.array t)).before #[] u = true) : (Cond.arrayOver (.array t)).before #[] U = true := by
  have h0 : (Cond.arrayOver (.array t)).before #[] u = true := h
  simp only [Cond.before, Cond.holds, Cond.value, beq_iff_eq] at h
  cases hc : u.vm.findClass (FieldType.array t).toString with
  | none => simp [hc] at h
  | some comp =>
    simp only [hc, Option.bind_some, Option.bind_eq_some_iff, Option.map_eq_some_iff] at h
    obtain ⟨c, h2, k, h3, hb⟩ := h
    obtain ⟨k', hk', he⟩ := hvm.2.2 _ _ h3
    have hi := (va_idx_bare U.vm comp).symm.trans ((congrArg (fun b : Vm => (b.classes.findIdx? fun (x : Class) => match x.kind with | .array component _ => component == comp | _ => false)) hvm.bare_eq).trans ((va_idx_bare u.vm comp).trans h2))
    have hkind : k'.kind = k.kind := by rw [he]
    have f1 : U.vm.findClass (FieldType.array t).toString = some comp := by rw [hvm.findClass]; exact hc
    unfold Cond.before Cond.holds
    simp only [Cond.value]
    rw [f1, Option.bind_some]
    refine (congrArg (fun o : Option Nat => (o.bind (fun c => (U.vm.classes[c]?).map fun (k : Class) => match k.kind with | .array _ ty => decide (ty = FieldType.array t) && decide (U.vm.findClass ("[" ++ (FieldType.array t).toString) = some c) | _ => false) == some true)) hi).trans ?_
    cases hkk : k.kind with
    | array c0 ty =>
      rw [hkk] at hb hkind
      simp only [Bool.and_eq_true, decide_eq_true_eq] at hb
      simp [hk', hkind, hvm.findClass, hb.1, hb.2]
    | _ => rw [hkk] at hb; simp at hb
theorem mE_to {G : mG} {s U : State} {H H1 : Heap} (hA : s.vm.Alike U.vm) (hN : ∀ w ∈ mNW, va_Nw w s → va_Nw w U) (hR : ∀ own k tx a, vk_R own k tx a s → vk_R own k tx a U) (hq : ∀ a : Nat, a < H.size → ¬ mA G a → H1[a]? = H[a]?) (h : mE G s H) : mE G U H1 := by
  obtain ⟨h1, h2, ⟨h3, h4, h5⟩, h6, h7, h8, h9, h10, h11, h12⟩ := h
  exact ⟨h1.moved hA, fun w hw => hN w hw (h2 w hw), ⟨h3.moved hA, h4.moved hA, mAO_moved hA h5⟩, fun t ht => ⟨((h6 t ht).1.moved hA).kept hq, ((h6 t ht).2.1.moved hA).kept hq, ((h6 t ht).2.2.1.moved hA).kept hq, ((h6 t ht).2.2.2.moved hA).kept hq⟩, fun q hq hk => hR _ _ _ _ (h7 q hq hk), (h8.moved hA).kept hq, (h9.moved hA).kept hq, (h10.moved hA).kept hq, (h11.moved hA).kept hq, (h12.moved hA).kept hq⟩
theorem mE_call {G : mG} {s U : State} {H : Heap} {locs : List Loc} (h : mE G s s.heap) (hW : s.WarmedH U.vm) (hU : U.heap = H) (hS : va_S (mA G) s.heap H locs) : mE G U U.heap := by
  rw [hU]
  refine mE_to hW.alike (fun w hw hn => ?_) (fun _ _ _ _ => vk_R.warm hW) (fun a ha hna => hS.2.1 a ha hna) h
  have hk := (List.mem_filter.mp hw).2
  unfold mNest at hk
  split at hk
  · exact va_Nw.warmF hW hn
  · exact va_Nw.warmM hW hn
  · cases hk
theorem mE_calling {G : mG} {U : State} {g : JFrame} {mk : MethodId} {a : Array Value} (h : mE G U U.heap) : mE G (U.calling g mk a) (U.calling g mk a).heap := by
  refine mE_to (H := U.heap) (H1 := U.heap) (Vm.Alike.refl U.vm) (fun w hw hn => ?_) (fun _ _ _ _ h => vk_R.same (u := U) rfl h) (fun _ _ _ => rfl) h
  have hk := (List.mem_filter.mp hw).2
  unfold mNest at hk
  split at hk
  · exact va_Nw.same rfl (u := U) rfl hn
  · exact va_Nw.same rfl (u := U) rfl hn
  · cases hk
/-- the locals -/
def mLR (G : mG) (ls : Array Slot) (nL : Nat) (L : mLoc) : Prop := L.length = nL ∧ ls.size = nL ∧ lv_wf ls ∧ ∀ (i : Nat) (v : Value), L[i]? = some (some v) → ls[i]? = some (.val (mV G v))
def mPr (G : mG) (L : mLoc) : List (Nat × Value) := (List.range L.length).filterMap fun i => match L[i]? with
  | some (some v) => some (i, mV G v)
  | _ => none
theorem mPr_mem {G : mG} {L : mLoc} {i : Nat} {v : Value} (h : L[i]? = some (some v)) : (i, mV G v) ∈ mPr G L := by
  refine List.mem_filterMap.mpr ⟨i, List.mem_range.mpr (List.getElem?_eq_some_iff.mp h).1, ?_⟩
  rw [h]
theorem mLR.has {G : mG} {ls : Array Slot} {nL : Nat} {L : mLoc} (h : mLR G ls nL L) : lv_has ls nL (mPr G L) := by
  refine ⟨h.2.1, h.2.2.1, fun q hq => ?_⟩
  obtain ⟨i, -, hi⟩ := List.mem_filterMap.mp hq
  split at hi
  · rename_i v hv
    cases hi
    exact h.2.2.2 i v hv
  · cases hi
theorem mS1_spec {L L' : mLoc} {i : Nat} {v : Value} (h : mS1 L i v = some L') : i < L.length ∧ mOk L i = true ∧ L' = L.set i (some v) := by
  unfold mS1 at h
  cases hb : (Nat.blt i L.length && mOk L i) with
  | false => rw [hb] at h; cases h
  | true =>
    rw [hb] at h
    simp only [Bool.and_eq_true] at hb
    exact ⟨Nat.blt_eq.mp hb.1, hb.2, (Option.some.inj h).symm⟩
theorem mS2_spec {L L' : mLoc} {i : Nat} {v : Value} (h : mS2 L i v = some L') : i + 1 < L.length ∧ mOk L i = true ∧ L' = (L.set i (some v)).set (i + 1) none := by
  unfold mS2 at h
  cases hb : (Nat.blt (i + 1) L.length && mOk L i) with
  | false => rw [hb] at h; cases h
  | true =>
    rw [hb] at h
    simp only [Bool.and_eq_true] at hb
    exact ⟨Nat.blt_eq.mp hb.1, hb.2, (Option.some.inj h).symm⟩
theorem mOk_cat {L : mLoc} {i j : Nat} {w : Value} (h : mOk L i = true) (hj : L[j]? = some (some w)) (hji : j + 1 = i) : w.category = 1 := by
  subst hji
  unfold mOk at h
  simp only [hj] at h
  exact Nat.eq_of_beq_eq_true h
theorem mLR.put1 {G : mG} {ls ls' : Array Slot} {nL : Nat} {L L' : mLoc} {i : Nat} {v : Value} (h : mLR G ls nL L) (hs : mS1 L i v = some L') (hl : lv_has ls' nL ((i, mV G v) :: (mPr G L).filter (fun q => !(q.1 == i) && !(q.1 + 1 == i && q.2.category == 2)))) : mLR G ls' nL L' := by
  obtain ⟨h1, h2, rfl⟩ := mS1_spec hs
  refine ⟨by rw [List.length_set]; exact h.1, hl.1, hl.2.1, fun j w hj => ?_⟩
  by_cases hji : i = j
  · subst hji
    rw [List.getElem?_set_self h1] at hj
    cases hj
    exact hl.2.2 _ List.mem_cons_self
  · rw [List.getElem?_set_ne hji] at hj
    refine hl.2.2 (j, mV G w) (List.mem_cons_of_mem _ (List.mem_filter.mpr ⟨mPr_mem hj, ?_⟩))
    have e1 : (j == i) = false := by simpa using fun e => hji e.symm
    have e2 : (j + 1 == i && (mV G w).category == 2) = false := by
      by_cases hk : j + 1 = i
      · rw [mV_cat, mOk_cat h2 hj hk]; simp
      · simp [hk]
    show (!(j == i) && !(j + 1 == i && (mV G w).category == 2)) = true
    rw [e1, e2]; rfl
theorem mLR.put2 {G : mG} {ls ls' : Array Slot} {nL : Nat} {L L' : mLoc} {i : Nat} {v : Value} (h : mLR G ls nL L) (hs : mS2 L i v = some L') (hl : lv_has ls' nL ((i, mV G v) :: (mPr G L).filter (fun q => !(q.1 == i) && (!(q.1 == i + 1) && !(q.1 + 1 == i && q.2.category == 2))))) : mLR G ls' nL L' := by
  obtain ⟨h1, h2, rfl⟩ := mS2_spec hs
  refine ⟨by rw [List.length_set, List.length_set]; exact h.1, hl.1, hl.2.1, fun j w hj => ?_⟩
  by_cases hj1 : i + 1 = j
  · subst hj1
    rw [List.getElem?_set_self (by rw [List.length_set]; exact h1)] at hj
    cases hj
  · rw [List.getElem?_set_ne hj1] at hj
    by_cases hji : i = j
    · subst hji
      rw [List.getElem?_set_self (by omega)] at hj
      cases hj
      exact hl.2.2 _ List.mem_cons_self
    · rw [List.getElem?_set_ne hji] at hj
      refine hl.2.2 (j, mV G w) (List.mem_cons_of_mem _ (List.mem_filter.mpr ⟨mPr_mem hj, ?_⟩))
      have e1 : (j == i) = false := by simpa using fun e => hji e.symm
      have e3 : (j == i + 1) = false := by simpa using fun e => hj1 e.symm
      have e2 : (j + 1 == i && (mV G w).category == 2) = false := by
        by_cases hk : j + 1 = i
        · rw [mV_cat, mOk_cat h2 hj hk]; simp
        · simp [hk]
      show (!(j == i) && (!(j == i + 1) && !(j + 1 == i && (mV G w).category == 2))) = true
      rw [e1, e2, e3]; rfl
theorem mSl_set {D : mHp} {i : Nat} {c c' : va_E} (h : D[i]? = some c) (hz : mSz c' = mSz c) : mSl (D.set i c') = mSl D := by
  induction D generalizing i with
  | nil => simp at h
  | cons d D ih =>
    cases i with
    | zero =>
      simp only [List.getElem?_cons_zero, Option.some.injEq] at h
      subst h
      simp [mSl, hz]
    | succ i =>
      simp only [List.getElem?_cons_succ] at h
      have := ih h
      simp only [mSl, List.set_cons_succ, List.map_cons, List.sum_cons] at this ⊢
      omega
theorem mSl_app (D E : mHp) : mSl (D ++ E) = mSl D + mSl E := by simp [mSl]
end
section
/-! ===== what a program decides of the tables ===== -/
/-- of the pairs at the list's head all that have the number k name the word w; the rest -/
def mTake (k : Nat) (w : Cond) : List (Nat × Cond) → Option (List (Nat × Cond))
  | [] => some []
  | q :: r => cond (Nat.beq q.1 k) (cond (decide (q.2 = w)) (mTake k w r) none) (some (q :: r))
def mWalk : Nat → List Cond → List (Nat × Cond) → Bool
  | _, [], r => r.isEmpty
  | k, w :: ws, r => match mTake k w r with
    | some r' => mWalk (k + 1) ws r'
    | none => false
theorem mTake_spec {k : Nat} {w : Cond} : ∀ {r r' : List (Nat × Cond)}, mTake k w r = some r' → ∀ q ∈ r, q.2 = w ∨ q ∈ r' := by
  intro r
  induction r with
  | nil => intro r' _ q hq; cases hq
  | cons d r ih =>
    intro r' h q hq
    unfold mTake at h
    cases hb : Nat.beq d.1 k with
    | false =>
      rw [hb] at h
      cases h
      exact Or.inr hq
    | true =>
      rw [hb] at h
      by_cases hw : d.2 = w
      · simp only [hw, decide_true, cond_true] at h
        rcases List.mem_cons.mp hq with rfl | hq
        · exact Or.inl hw
        · exact ih h q hq
      · simp [hw] at h
theorem mWalk_spec : ∀ {ws : List Cond} {k : Nat} {r : List (Nat × Cond)}, mWalk k ws r = true → ∀ q ∈ r, q.2 ∈ ws := by
  intro ws
  induction ws with
  | nil =>
    intro k r h q hq
    have : r = [] := by simpa [mWalk] using h
    subst this
    cases hq
  | cons w ws ih =>
    intro k r h q hq
    unfold mWalk at h
    cases ht : mTake k w r with
    | none => rw [ht] at h; cases h
    | some r' =>
      rw [ht] at h
      rcases mTake_spec ht q hq with h1 | h1
      · rw [h1]; exact List.mem_cons_self
      · exact List.mem_cons_of_mem _ (ih h q h1)
noncomputable def mY (i : Nat) : MethodName := ((mMet i).map fun r => r.2.1).getD ⟨"", "", ""⟩
def mCo (t : Nat) : String := match t with
  | 2 => "EnvyRust$Sheet"
  | _ => "java/lang/String"
def mStrLen : MethodName := ⟨"java/lang/String", "length", "()I"⟩
def mStrChr : MethodName := ⟨"java/lang/String", "charAt", "(I)C"⟩
noncomputable def mLwd (q : mLnk) : Cond := match q.2.2.1 with
  | 0 => .fieldLink (mNm q.1) q.2.1 (mNm q.2.2.2.1) (mFT q.2.2.2.1 q.2.2.2.2.1).2.1 (mFT q.2.2.2.1 q.2.2.2.2.1).2.2.1
  | 1 => .fieldLinkNest (mNm q.1) q.2.1 (mNm q.2.2.2.1) (mFT q.2.2.2.1 q.2.2.2.2.1).2.1 (mFT q.2.2.2.1 q.2.2.2.2.1).2.2.1 "EnvyRust"
  | 2 => .constant (mNm q.1) q.2.1 (Int32.ofInt q.2.2.2.2.2)
  | 3 => .stringRef (mNm q.1) q.2.1 (mTs.getD q.2.2.2.2.1 "")
  | 4 => .classLink (mNm q.1) q.2.1 (mNm q.2.2.2.1)
  | 5 => .classLink (mNm q.1) q.2.1 (mCo q.2.2.2.1)
  | 6 => .classLink (mNm q.1) q.2.1 "[[I"
  | 7 => .fieldLink (mNm q.1) q.2.1 "EnvyRust" "KIND_ABOVE" "[I"
  | 10 => .methodLink (mNm q.1) q.2.1 (mY q.2.2.2.1)
  | 12 => .methodLink (mNm q.1) q.2.1 (mY q.2.2.2.1)
  | 14 => .methodLink (mNm q.1) q.2.1 (mY q.2.2.2.1)
  | 11 => .methodLinkNest (mNm q.1) q.2.1 (mY q.2.2.2.1) "EnvyRust"
  | 13 => .methodLinkNest (mNm q.1) q.2.1 (mY q.2.2.2.1) "EnvyRust"
  | 15 => .methodLinkNest (mNm q.1) q.2.1 (mY q.2.2.2.1) "EnvyRust"
  | 20 => .methodLink (mNm q.1) q.2.1 Lib.objectInit
  | 21 => .methodLink (mNm q.1) q.2.1 arraycopyName
  | 22 => .methodLink (mNm q.1) q.2.1 mStrLen
  | 24 => .methodLink (mNm q.1) q.2.1 Lib.Math.max.name
  | 25 => .methodLink (mNm q.1) q.2.1 Lib.Math.min.name
  | _ => .methodLink (mNm q.1) q.2.1 mStrChr
noncomputable def mLck (q : mLnk) : Bool := match q.2.2.1 with
  | 0 => goodWord (mLwd q) && Nat.blt q.2.2.2.1 5 && Nat.blt q.2.2.2.2.1 (mFN q.2.2.2.1) && decide ((mFT q.2.2.2.1 q.2.2.2.2.1).1 = mNm q.2.2.2.1)
  | 1 => mNest (mLwd q) && Nat.blt q.2.2.2.1 5 && Nat.blt q.2.2.2.2.1 (mFN q.2.2.2.1) && decide ((mFT q.2.2.2.1 q.2.2.2.2.1).1 = mNm q.2.2.2.1)
  | 3 => Nat.blt q.2.2.2.2.1 15
  | 4 => goodWord (mLwd q) && Nat.blt q.2.2.2.1 5
  | 5 => goodWord (mLwd q) && (Nat.beq q.2.2.2.1 2 || Nat.beq q.2.2.2.1 4)
  | 10 => goodWord (mLwd q) && decide ((parseMethodDescriptor (mY q.2.2.2.1).desc).map (fun d => d.parameters.length + 1) = some q.2.2.2.2.1)
  | 11 => mNest (mLwd q) && decide ((parseMethodDescriptor (mY q.2.2.2.1).desc).map (fun d => d.parameters.length + 1) = some q.2.2.2.2.1)
  | 12 => goodWord (mLwd q) && decide ((parseMethodDescriptor (mY q.2.2.2.1).desc).map (fun d => d.parameters.length) = some q.2.2.2.2.1)
  | 13 => mNest (mLwd q) && decide ((parseMethodDescriptor (mY q.2.2.2.1).desc).map (fun d => d.parameters.length) = some q.2.2.2.2.1)
  | 14 => goodWord (mLwd q) && decide ((parseMethodDescriptor (mY q.2.2.2.1).desc).map (fun d => d.parameters.length + 1) = some q.2.2.2.2.1) && decide ((mY q.2.2.2.1).name = "<init>")
  | 15 => mNest (mLwd q) && decide ((parseMethodDescriptor (mY q.2.2.2.1).desc).map (fun d => d.parameters.length + 1) = some q.2.2.2.2.1) && decide ((mY q.2.2.2.1).name = "<init>")
  | _ => goodWord (mLwd q)
theorem mLT_ck : mLT.all mLck = true := by decide +kernel
theorem mLT_wk : mWalk 0 tables_1 (mLH.zip (mLT.map mLwd)) = true := by decide +kernel
theorem mLT_len : mLT.length = mLH.length := by decide +kernel
theorem mTb_in {w : Cond} (h : w ∈ tables_1) : w ∈ lw_tbl := List.mem_append_right _ h
theorem mTb_gw {w : Cond} (h : w ∈ tables_1) (hg : goodWord w = true) : w ∈ mGW := List.mem_filter.mpr ⟨mTb_in h, hg⟩
theorem mTb_nw {w : Cond} (h : w ∈ tables_1) (hg : mNest w = true) : w ∈ mNW := List.mem_filter.mpr ⟨mTb_in h, hg⟩
theorem mLT_at {j : Nat} {q : mLnk} (h : mLT[j]? = some q) : mLwd q ∈ tables_1 ∧ mLck q = true := by
  have hj : j < mLT.length := (List.getElem?_eq_some_iff.mp h).1
  have hk : j < mLH.length := by rw [← mLT_len]; exact hj
  refine ⟨?_, List.all_eq_true.mp mLT_ck _ (List.mem_of_getElem? h)⟩
  refine mWalk_spec mLT_wk (mLH[j], mLwd q) (List.mem_of_getElem? (i := j) ?_)
  rw [List.getElem?_zip_eq_some]
  exact ⟨List.getElem?_eq_getElem hk, by rw [List.getElem?_map, h]; rfl⟩
noncomputable def mCw (r : mRow) : MethodName × ByteArray × Nat × Option FieldType := (r.2.1, r.2.2.1, r.2.2.2.1, r.2.2.2.2.1)
set_option maxRecDepth 100000 in
theorem mM_cw : tables_1.filterMap (fun w => match w with
    | .code y b n r => some (y, b, n, r)
    | _ => none) = mMs.flatten.dropLast.map mCw := by rfl
end
section
theorem mIS_wk : mWalk 0 tables_1 (mIS.map fun q => (q.1, cond (Nat.beq q.2.2 1) (.static (mY q.2.1)) (.instanceMethod (mY q.2.1)))) = true := by decide +kernel
theorem mSE2_wk : mWalk 0 tables_1 (mSE2.map fun q => (q.1, .selects (mY q.2).cls (mY q.2) (mY q.2))) = true := by decide +kernel
theorem mSE1_wk : mWalk 0 (k2_sels lw_privs) (mSE1.map fun q => (q.1, .selects (mY q.2).cls (mY q.2) (mY q.2))) = true := by decide +kernel
theorem mIN_wk : mWalk 0 tables_1 (mIN.map fun q => (q.1, .initialized (mNm q.2))) = true := by decide +kernel
noncomputable def mMck (i : Nat) (r : mRow) : Bool := Nat.beq r.1 5 || Nat.ble 7 r.1 || (plainName r.2.1.cls && decide (r.2.1.cls = mNm r.1) && decide (r.2.1.cls ≠ "java/lang/invoke/MethodHandle" ∧ r.2.1.cls ≠ "java/lang/invoke/VarHandle")
  && mIN.any (fun q => Nat.beq q.2 r.1) && (mIS.any (fun q => Nat.beq q.2.1 i && Nat.beq q.2.2 1) || (mIS.any (fun q => Nat.beq q.2.1 i && !Nat.beq q.2.2 1) && (decide (r.2.1.name = "<init>") || mSE1.any (fun q => Nat.beq q.2 i) || mSE2.any (fun q => Nat.beq q.2 i)))))
theorem mM_ck : (List.range 256).all (fun i => match mMet i with
    | some r => mMck i r
    | none => true) = true := by decide +kernel
theorem mMs_len : mMs.length ≤ 16 := by decide +kernel
theorem mMs_last : mMs.flatten.getLast?.map (fun r => r.1) = some 5 := by decide +kernel
theorem mMet_lt {i : Nat} {r : mRow} (h : mMet i = some r) : i < 256 := by
  unfold mMet at h
  cases hl : mMs[i / 16]? with
  | none => rw [hl] at h; cases h
  | some l =>
    have := (List.getElem?_eq_some_iff.mp hl).1
    have := mMs_len
    omega
theorem mMet_in {i : Nat} {r : mRow} (h : mMet i = some r) : r ∈ mMs.flatten := by
  unfold mMet at h
  cases hl : mMs[i / 16]? with
  | none => rw [hl] at h; cases h
  | some l =>
    rw [hl, Option.bind_some] at h
    exact List.mem_flatten.mpr ⟨l, List.mem_of_getElem? hl, List.mem_of_getElem? h⟩
theorem mY_of {i : Nat} {r : mRow} (h : mMet i = some r) : mY i = r.2.1 := by unfold mY; rw [h]; rfl
theorem mM_code {i : Nat} {r : mRow} (h : mMet i = some r) (h5 : r.1 ≠ 5) : Cond.code r.2.1 r.2.2.1 r.2.2.2.1 r.2.2.2.2.1 ∈ tables_1 := by
  have hr := mMet_in h
  have hd : r ∈ mMs.flatten.dropLast := by
    have hn : mMs.flatten ≠ [] := fun e => by rw [e] at hr; cases hr
    rw [← List.dropLast_concat_getLast hn] at hr
    rcases List.mem_append.mp hr with q | q
    · exact q
    · exfalso
      have hl := mMs_last
      rw [List.getLast?_eq_some_getLast hn] at hl
      rw [List.mem_singleton.mp q] at h5
      exact h5 (Option.some.inj hl)
  have hm : mCw r ∈ mMs.flatten.dropLast.map mCw := List.mem_map.mpr ⟨r, hd, rfl⟩
  rw [← mM_cw] at hm
  obtain ⟨w, hw, he⟩ := List.mem_filterMap.mp hm
  split at he
  · cases he
    exact hw
  · cases he
theorem mM_at {i : Nat} {r : mRow} (h : mMet i = some r) (h5 : Nat.ble r.1 6 = true) (h6 : r.1 ≠ 5) : plainName r.2.1.cls = true ∧ r.2.1.cls = mNm r.1 ∧ (r.2.1.cls ≠ "java/lang/invoke/MethodHandle" ∧ r.2.1.cls ≠ "java/lang/invoke/VarHandle")
    ∧ Cond.initialized r.2.1.cls ∈ tables_1 ∧ (Cond.static r.2.1 ∈ tables_1 ∨ (Cond.instanceMethod r.2.1 ∈ tables_1 ∧ (r.2.1.name = "<init>" ∨ Cond.selects r.2.1.cls r.2.1 r.2.1 ∈ lw_tbl))) := by
  have hc := List.all_eq_true.mp mM_ck i (List.mem_range.mpr (mMet_lt h))
  simp only [h] at hc
  unfold mMck at hc
  have e5 : Nat.beq r.1 5 = false := by
    cases hb : Nat.beq r.1 5 with
    | false => rfl
    | true => exact absurd (Nat.eq_of_beq_eq_true hb) h6
  have e7 : Nat.ble 7 r.1 = false := by
    cases hb : Nat.ble 7 r.1 with
    | false => rfl
    | true =>
      have := Nat.le_of_ble_eq_true hb
      have := Nat.le_of_ble_eq_true h5
      omega
  rw [e5, e7] at hc
  simp only [Bool.false_or, Bool.and_eq_true, decide_eq_true_eq, Bool.or_eq_true, List.any_eq_true] at hc
  obtain ⟨⟨⟨⟨h1, h2⟩, h3⟩, qi, hqi, hqe⟩, h8⟩ := hc
  have hY := mY_of h
  refine ⟨h1, h2, h3, ?_, ?_⟩
  · have hm := mWalk_spec mIN_wk _ (List.mem_map.mpr ⟨qi, hqi, rfl⟩)
    rw [h2]
    have : qi.2 = r.1 := Nat.eq_of_beq_eq_true hqe
    rw [← this]
    exact hm
  · rcases h8 with ⟨q, hq, hqa, hqb⟩ | ⟨⟨q, hq, hqa, hqb⟩, h9⟩
    · left
      have hm := mWalk_spec mIS_wk _ (List.mem_map.mpr ⟨q, hq, rfl⟩)
      simp only [hqb, cond_true] at hm
      rw [Nat.eq_of_beq_eq_true hqa, hY] at hm
      exact hm
    · right
      refine ⟨?_, ?_⟩
      · have hm := mWalk_spec mIS_wk _ (List.mem_map.mpr ⟨q, hq, rfl⟩)
        have hqb' : Nat.beq q.2.2 1 = false := by simpa using hqb
        simp only [hqb', cond_false] at hm
        rw [Nat.eq_of_beq_eq_true hqa, hY] at hm
        exact hm
      · rcases h9 with (h9 | ⟨q, hq, hqa⟩) | ⟨q, hq, hqa⟩
        · exact Or.inl h9
        · right
          have hm := mWalk_spec mSE1_wk _ (List.mem_map.mpr ⟨q, hq, rfl⟩)
          simp only [Nat.eq_of_beq_eq_true hqa, hY] at hm
          exact List.mem_append_left _ hm
        · right
          have hm := mWalk_spec mSE2_wk _ (List.mem_map.mpr ⟨q, hq, rfl⟩)
          simp only [Nat.eq_of_beq_eq_true hqa, hY] at hm
          exact mTb_in hm
def mKi (i : Instr) : Option Nat := match i with
  | .getfield k => some k
  | .putfield k => some k
  | .getstatic k => some k
  | .ldc k => some k
  | .ldc_w k => some k
  | .new k => some k
  | .anewarray k => some k
  | .multianewarray k _ => some k
  | .invokestatic k => some k
  | .invokevirtual k => some k
  | .invokespecial k => some k
  | _ => none
def mKd (i : Instr) (k : Nat) : Bool := match i with
  | .getfield _ => Nat.ble k 1
  | .putfield _ => Nat.ble k 1
  | .getstatic _ => Nat.beq k 7
  | .ldc _ => Nat.beq k 2 || Nat.beq k 3
  | .ldc_w _ => Nat.beq k 2 || Nat.beq k 3
  | .new _ => Nat.beq k 4
  | .anewarray _ => Nat.beq k 5
  | .multianewarray _ _ => Nat.beq k 6
  | .invokestatic _ => Nat.beq k 12 || Nat.beq k 13 || Nat.beq k 21 || Nat.beq k 24 || Nat.beq k 25
  | .invokevirtual _ => Nat.beq k 10 || Nat.beq k 11 || Nat.beq k 22 || Nat.beq k 23
  | .invokespecial _ => Nat.beq k 14 || Nat.beq k 15 || Nat.beq k 20
  | _ => true
/-- the callee's room fits, and it is no law -/
noncomputable def mRm (row : mRow) (k a : Nat) : Bool := match k with
  | 20 => Nat.ble 1 row.2.2.2.2.2.1 && Nat.ble 20 row.2.2.2.2.2.2
  | 21 => Nat.ble 1 row.2.2.2.2.2.1 && Nat.ble 30 row.2.2.2.2.2.2
  | 22 => Nat.ble 2 row.2.2.2.2.2.1 && Nat.ble 40 row.2.2.2.2.2.2
  | 23 => Nat.ble 5 row.2.2.2.2.2.1 && Nat.ble 121 row.2.2.2.2.2.2
  | 24 => Nat.ble 1 row.2.2.2.2.2.1 && Nat.ble 21 row.2.2.2.2.2.2
  | 25 => Nat.ble 1 row.2.2.2.2.2.1 && Nat.ble 21 row.2.2.2.2.2.2
  | _ => match mMet a with
    | some r => Nat.ble (r.2.2.2.2.2.1 + 1) row.2.2.2.2.2.1 && Nat.ble (8 + (r.2.2.2.1 + 11) + r.2.2.2.2.2.2) row.2.2.2.2.2.2 && !Nat.beq r.1 5 && Nat.ble r.1 6
    | none => false
def mLn (i : Instr) : Nat := match i with
  | .bipush _ => 2
  | .sipush _ => 3
  | .ldc _ => 2
  | .ldc_w _ => 3
  | .iload _ => 2
  | .lload _ => 2
  | .aload _ => 2
  | .istore _ => 2
  | .lstore _ => 2
  | .astore _ => 2
  | .iinc _ _ => 3
  | .ifCond _ _ => 3
  | .if_icmp _ _ => 3
  | .goto _ => 3
  | .getfield _ => 3
  | .putfield _ => 3
  | .getstatic _ => 3
  | .invokestatic _ => 3
  | .invokevirtual _ => 3
  | .invokespecial _ => 3
  | .new _ => 3
  | .newarray _ => 2
  | .anewarray _ => 3
  | .multianewarray _ _ => 4
  | _ => 1
def mLnk' (i : Instr) (n : Nat) : Bool := match i with
  | .tableswitch _ _ _ _ => true
  | i => Nat.beq n (mLn i)
noncomputable def mEck (row : mRow) (e : mEnt) : Bool := mLnk' e.1 e.2.1 && match mKi e.1 with
  | none => true
  | some idx => mKd e.1 e.2.2.2.1 && decide (mLT[e.2.2.1]? = some (row.1, idx, e.2.2.2.1, e.2.2.2.2.1, e.2.2.2.2.2.1, e.2.2.2.2.2.2)) && (Nat.blt e.2.2.2.1 10 || mRm row e.2.2.2.1 e.2.2.2.2.1)
/-- the code at one place -/
noncomputable def mPck (row : mRow) (pc : Nat) (e : Option mEnt) : Bool := match e with
  | none => true
  | some e => decide (decode row.2.2.1 pc = .ok (e.1, e.2.1)) && mEck row e
noncomputable def mLc (row : mRow) : Nat → List (Option mEnt) → Bool
  | _, [] => true
  | pc, e :: l => mPck row pc e && mLc row (pc + 1) l
noncomputable def mLcc (row : mRow) : Nat → List (List (Option mEnt)) → Bool
  | _, [] => true
  | k, c :: l => mLc row (32 * k) c && mLcc row (k + 1) l
noncomputable def mCk (i : Nat) : Bool := match mMet i, mCode i with
  | some row, some k => mLcc row 0 k
  | none, none => true
  | _, _ => false
theorem mLc_at {row : mRow} : ∀ (l : List (Option mEnt)) (pc i : Nat) (e : Option mEnt), mLc row pc l = true → l[i]? = some e → mPck row (pc + i) e = true := by
  intro l
  induction l with
  | nil => intro pc i e h hi; simp at hi
  | cons d l ih =>
    intro pc i e h hi
    simp only [mLc, Bool.and_eq_true] at h
    cases i with
    | zero => simp only [List.getElem?_cons_zero, Option.some.injEq] at hi; subst hi; exact h.1
    | succ i =>
      simp only [List.getElem?_cons_succ] at hi
      have := ih (pc + 1) i e h.2 hi
      rwa [show pc + 1 + i = pc + (i + 1) by omega] at this
theorem mLcc_at {row : mRow} : ∀ (l : List (List (Option mEnt))) (k i : Nat) (c : List (Option mEnt)), mLcc row k l = true → l[i]? = some c → mLc row (32 * (k + i)) c = true := by
  intro l
  induction l with
  | nil => intro k i c h hi; simp at hi
  | cons d l ih =>
    intro k i c h hi
    simp only [mLcc, Bool.and_eq_true] at h
    cases i with
    | zero => simp only [List.getElem?_cons_zero, Option.some.injEq] at hi; subst hi; exact h.1
    | succ i =>
      simp only [List.getElem?_cons_succ] at hi
      have := ih (k + 1) i c h.2 hi
      rwa [show k + 1 + i = k + (i + 1) by omega] at this
theorem mCk_at {i pc : Nat} {row : mRow} {e : mEnt} (h : mCk i = true) (hr : mMet i = some row) (he : mFetch i pc = some e) : decode row.2.2.1 pc = .ok (e.1, e.2.1) ∧ mEck row e = true := by
  unfold mCk at h
  unfold mFetch at he
  cases hk : mCode i with
  | none => rw [hk] at he; cases he
  | some k =>
    rw [hk] at he
    simp only [hr, hk] at h
    simp only [Option.bind_some, Option.bind_eq_some_iff] at he
    obtain ⟨c, hc, o, ho, ho2⟩ := he
    have ho3 : o = some e := ho2
    subst ho3
    have h1 := mLcc_at k 0 (pc / 32) c h hc
    have h2 := mLc_at c _ (pc % 32) _ h1 ho
    rw [show 32 * (0 + pc / 32) + pc % 32 = pc by omega] at h2
    simp only [mPck, Bool.and_eq_true, decide_eq_true_eq] at h2
    exact h2
end
section
theorem mCk_all (i : Nat) (h : i < 256) : mCk i = true := sorry
end
section
section MRW
variable {p : Program} {l : Launch} {e : Env} {R : Room} {s : State} {m : MethodId} {args : Array Value} {below : List Frame} {meth : Method} {c : Code} {Q : State → Prop} {G : mG} {row : mRow} {d0 s0 : Nat} {pc : Nat} {L : mLoc} {st : List Value} {D : mHp} {q : Nat × mLoc × List Value × mHp}
def mCx (p : Program) (R : Room) (s : State) (m : MethodId) (args : Array Value) (meth : Method) (c : Code) (G : mG) (row : mRow) (d0 : Nat) : Prop :=
  p.tables.exec = Jvm.exec ∧ c.code = row.2.2.1 ∧ c.maxLocals = row.2.2.2.1 ∧ s.vm.findClass (mNm row.1) = some m.cls ∧ (∀ w ∈ mGW, w.before args s = true) ∧ mE G s s.heap ∧ (row.2.1.name = "<init>" → meth.name = "<init>") ∧ s.heap.size = G.1 + d0 ∧ row.2.2.2.2.2.1 ≤ R.frames ∧ row.2.2.2.2.2.2 ≤ R.locals
def mK (p : Program) (l : Launch) (e : Env) (R : Room) (s : State) (m : MethodId) (args : Array Value) (below : List Frame) (meth : Method) (c : Code) (Q : State → Prop) (G : mG) (nL d0 s0 : Nat) (pc : Nat) (L : mLoc) (st : List Value) (D : mHp) : Prop :=
  ∀ (ls : Array Slot) (H : Heap) (locs : List Loc) (cells slots : Nat), mLR G ls nL L → mMS G D H → va_S (mA G) s.heap H locs → cells + d0 = D.length → slots + s0 = mSl D → W p l e R s m args below meth c H locs cells slots Q (F0 m pc ls (st.map (mV G)))
theorem mNx_eq {pc : Nat} {ls : mLoc} {st : List Value} {D : mHp} {q : Nat × mLoc × List Value × mHp} (h : mNx pc ls st D = some (.inl q)) : q = (pc, ls, st, D) := by
  simp only [mNx, Option.some.injEq, Sum.inl.injEq] at h
  exact h.symm
theorem mTo_eq {pc : Nat} {off : Int} {t : Nat} (h : mTo pc off = some t) : (pc : Int) + off = (t : Int) := by
  unfold mTo at h
  split at h
  · rename_i h0
    rw [← Option.some.inj h]
    exact (Int.toNat_of_nonneg h0).symm
  · cases h
theorem mGo_eq {pc : Nat} {off : Int} {ls : mLoc} {st : List Value} {D : mHp} {q : Nat × mLoc × List Value × mHp} (h : mGo pc off ls st D = some (.inl q)) : ∃ t : Nat, (pc : Int) + off = (t : Int) ∧ q = (t, ls, st, D) := by
  unfold mGo at h
  obtain ⟨t, ht, hq⟩ := Option.map_eq_some_iff.mp h
  exact ⟨t, mTo_eq ht, (Sum.inl.inj hq).symm⟩
theorem mBr_eq {b : Bool} {pc : Nat} {off : Int} {ls : mLoc} {st : List Value} {D : mHp} {q : Nat × mLoc × List Value × mHp} (h : mBr b pc off ls st D = some (.inl q)) : ∃ t : Nat, (pc : Int) + off = (t : Int) ∧ q = (cond b t (pc + 3), ls, st, D) := by
  unfold mBr at h
  obtain ⟨t, ht, hq⟩ := Option.map_eq_some_iff.mp h
  exact ⟨t, mTo_eq ht, (Sum.inl.inj hq).symm⟩
theorem mBind_eq {α β : Type} {o : Option α} {f : α → Option β} {b : β} (h : o.bind f = some b) : ∃ a, o = some a ∧ f a = some b := Option.bind_eq_some_iff.mp h
theorem mCond_eq {α : Type} {b : Bool} {o : Option α} {a : α} (h : cond b o none = some a) : b = true ∧ o = some a := by
  cases b with
  | true => exact ⟨rfl, h⟩
  | false => cases h
theorem mOut_in {j : Int32} {n : Nat} (h : (!mOut j n) = true) : vp_in j n := by
  unfold mOut at h
  simpa [vp_in] using h

theorem r_iconst (C : mCx p R s m args meth c G row d0) {n : Int} (hd : decode row.2.2.1 pc = .ok (.iconst n, 1)) (h : (mNx (pc + 1) L (.int (Int32.ofInt n) :: st) D) = some (.inl q)) (k : mK p l e R s m args below meth c Q G row.2.2.2.1 d0 s0 q.1 q.2.1 q.2.2.1 q.2.2.2) : mK p l e R s m args below meth c Q G row.2.2.2.1 d0 s0 pc L st D := by
  intro ls H locs cells slots hL hP hS hc hs
  obtain rfl := mNx_eq h
  exact lv_iconst C.1 C.2.1 hd rfl (k ls H locs cells slots hL hP hS hc hs)
theorem r_bipush (C : mCx p R s m args meth c G row d0) {n : Int} (hd : decode row.2.2.1 pc = .ok (.bipush n, 2)) (h : (mNx (pc + 2) L (.int (Int8.ofInt n).toInt32 :: st) D) = some (.inl q)) (k : mK p l e R s m args below meth c Q G row.2.2.2.1 d0 s0 q.1 q.2.1 q.2.2.1 q.2.2.2) : mK p l e R s m args below meth c Q G row.2.2.2.1 d0 s0 pc L st D := by
  intro ls H locs cells slots hL hP hS hc hs
  obtain rfl := mNx_eq h
  exact lv_bipush C.1 C.2.1 hd rfl (k ls H locs cells slots hL hP hS hc hs)
theorem r_sipush (C : mCx p R s m args meth c G row d0) {n : Int} (hd : decode row.2.2.1 pc = .ok (.sipush n, 3)) (h : (mNx (pc + 3) L (.int (Int16.ofInt n).toInt32 :: st) D) = some (.inl q)) (k : mK p l e R s m args below meth c Q G row.2.2.2.1 d0 s0 q.1 q.2.1 q.2.2.1 q.2.2.2) : mK p l e R s m args below meth c Q G row.2.2.2.1 d0 s0 pc L st D := by
  intro ls H locs cells slots hL hP hS hc hs
  obtain rfl := mNx_eq h
  exact lv_sipush C.1 C.2.1 hd rfl (k ls H locs cells slots hL hP hS hc hs)
theorem r_lconst (C : mCx p R s m args meth c G row d0) {n : Fin 2} (hd : decode row.2.2.1 pc = .ok (.lconst n, 1)) (h : (mNx (pc + 1) L (.long (Int64.ofNat n.val) :: st) D) = some (.inl q)) (k : mK p l e R s m args below meth c Q G row.2.2.2.1 d0 s0 q.1 q.2.1 q.2.2.1 q.2.2.2) : mK p l e R s m args below meth c Q G row.2.2.2.1 d0 s0 pc L st D := by
  intro ls H locs cells slots hL hP hS hc hs
  obtain rfl := mNx_eq h
  exact lv_lconst C.1 C.2.1 hd rfl (k ls H locs cells slots hL hP hS hc hs)
theorem r_iload_n (C : mCx p R s m args meth c G row d0) {i : Fin 4} (hd : decode row.2.2.1 pc = .ok (.iload_n i, 1)) (h : (match L[i.val]? with
    | some (some (.int x)) => mNx (pc + 1) L (.int x :: st) D
    | _ => none) = some (.inl q)) (k : mK p l e R s m args below meth c Q G row.2.2.2.1 d0 s0 q.1 q.2.1 q.2.2.1 q.2.2.2) : mK p l e R s m args below meth c Q G row.2.2.2.1 d0 s0 pc L st D := by
  intro ls H locs cells slots hL hP hS hc hs
  split at h
  · rename_i x hx
    obtain rfl := mNx_eq h
    exact lv_iload_n C.1 C.2.1 hd rfl (hL.2.2.2 _ _ hx) (k ls H locs cells slots hL hP hS hc hs)
  · cases h
theorem r_iload (C : mCx p R s m args meth c G row d0) {i : Nat} (hd : decode row.2.2.1 pc = .ok (.iload i, 2)) (h : (match L[i]? with
    | some (some (.int x)) => mNx (pc + 2) L (.int x :: st) D
    | _ => none) = some (.inl q)) (k : mK p l e R s m args below meth c Q G row.2.2.2.1 d0 s0 q.1 q.2.1 q.2.2.1 q.2.2.2) : mK p l e R s m args below meth c Q G row.2.2.2.1 d0 s0 pc L st D := by
  intro ls H locs cells slots hL hP hS hc hs
  split at h
  · rename_i x hx
    obtain rfl := mNx_eq h
    exact lv_iload C.1 C.2.1 hd (hL.2.2.2 _ _ hx) (k ls H locs cells slots hL hP hS hc hs)
  · cases h
theorem r_lload_n (C : mCx p R s m args meth c G row d0) {i : Fin 4} (hd : decode row.2.2.1 pc = .ok (.lload_n i, 1)) (h : (match L[i.val]? with
    | some (some (.long x)) => mNx (pc + 1) L (.long x :: st) D
    | _ => none) = some (.inl q)) (k : mK p l e R s m args below meth c Q G row.2.2.2.1 d0 s0 q.1 q.2.1 q.2.2.1 q.2.2.2) : mK p l e R s m args below meth c Q G row.2.2.2.1 d0 s0 pc L st D := by
  intro ls H locs cells slots hL hP hS hc hs
  split at h
  · rename_i x hx
    obtain rfl := mNx_eq h
    exact lv_lload_n C.1 C.2.1 hd rfl (hL.2.2.2 _ _ hx) (k ls H locs cells slots hL hP hS hc hs)
  · cases h
theorem r_lload (C : mCx p R s m args meth c G row d0) {i : Nat} (hd : decode row.2.2.1 pc = .ok (.lload i, 2)) (h : (match L[i]? with
    | some (some (.long x)) => mNx (pc + 2) L (.long x :: st) D
    | _ => none) = some (.inl q)) (k : mK p l e R s m args below meth c Q G row.2.2.2.1 d0 s0 q.1 q.2.1 q.2.2.1 q.2.2.2) : mK p l e R s m args below meth c Q G row.2.2.2.1 d0 s0 pc L st D := by
  intro ls H locs cells slots hL hP hS hc hs
  split at h
  · rename_i x hx
    obtain rfl := mNx_eq h
    exact lv_lload C.1 C.2.1 hd (hL.2.2.2 _ _ hx) (k ls H locs cells slots hL hP hS hc hs)
  · cases h
theorem r_aload_n (C : mCx p R s m args meth c G row d0) {i : Fin 4} (hd : decode row.2.2.1 pc = .ok (.aload_n i, 1)) (h : (match L[i.val]? with
    | some (some (.ref x)) => mNx (pc + 1) L (.ref x :: st) D
    | _ => none) = some (.inl q)) (k : mK p l e R s m args below meth c Q G row.2.2.2.1 d0 s0 q.1 q.2.1 q.2.2.1 q.2.2.2) : mK p l e R s m args below meth c Q G row.2.2.2.1 d0 s0 pc L st D := by
  intro ls H locs cells slots hL hP hS hc hs
  split at h
  · rename_i x hx
    obtain rfl := mNx_eq h
    exact lv_aload_n C.1 C.2.1 hd rfl (hL.2.2.2 _ _ hx) (k ls H locs cells slots hL hP hS hc hs)
  · cases h
theorem r_aload (C : mCx p R s m args meth c G row d0) {i : Nat} (hd : decode row.2.2.1 pc = .ok (.aload i, 2)) (h : (match L[i]? with
    | some (some (.ref x)) => mNx (pc + 2) L (.ref x :: st) D
    | _ => none) = some (.inl q)) (k : mK p l e R s m args below meth c Q G row.2.2.2.1 d0 s0 q.1 q.2.1 q.2.2.1 q.2.2.2) : mK p l e R s m args below meth c Q G row.2.2.2.1 d0 s0 pc L st D := by
  intro ls H locs cells slots hL hP hS hc hs
  split at h
  · rename_i x hx
    obtain rfl := mNx_eq h
    exact lv_aload C.1 C.2.1 hd (hL.2.2.2 _ _ hx) (k ls H locs cells slots hL hP hS hc hs)
  · cases h
theorem r_istore_n (C : mCx p R s m args meth c G row d0) {i : Fin 4} (hd : decode row.2.2.1 pc = .ok (.istore_n i, 1)) (h : (match st with
    | .int x :: r => (mS1 L i.val (.int x)).bind fun l => mNx (pc + 1) l r D
    | _ => none) = some (.inl q)) (k : mK p l e R s m args below meth c Q G row.2.2.2.1 d0 s0 q.1 q.2.1 q.2.2.1 q.2.2.2) : mK p l e R s m args below meth c Q G row.2.2.2.1 d0 s0 pc L st D := by
  intro ls H locs cells slots hL hP hS hc hs
  split at h
  · obtain ⟨L1, h1, h2⟩ := mBind_eq h
    obtain rfl := mNx_eq h2
    exact lv_istore_n C.1 C.2.1 hd rfl hL.has (by have := (mS1_spec h1).1; rw [hL.1] at this; exact this) rfl (fun ls1 hl1 => k ls1 H locs cells slots (hL.put1 h1 hl1) hP hS hc hs)
  · cases h
theorem r_istore (C : mCx p R s m args meth c G row d0) {i : Nat} (hd : decode row.2.2.1 pc = .ok (.istore i, 2)) (h : (match st with
    | .int x :: r => (mS1 L i (.int x)).bind fun l => mNx (pc + 2) l r D
    | _ => none) = some (.inl q)) (k : mK p l e R s m args below meth c Q G row.2.2.2.1 d0 s0 q.1 q.2.1 q.2.2.1 q.2.2.2) : mK p l e R s m args below meth c Q G row.2.2.2.1 d0 s0 pc L st D := by
  intro ls H locs cells slots hL hP hS hc hs
  split at h
  · obtain ⟨L1, h1, h2⟩ := mBind_eq h
    obtain rfl := mNx_eq h2
    exact lv_istore C.1 C.2.1 hd hL.has (by have := (mS1_spec h1).1; rw [hL.1] at this; exact this) rfl (fun ls1 hl1 => k ls1 H locs cells slots (hL.put1 h1 hl1) hP hS hc hs)
  · cases h
theorem r_lstore_n (C : mCx p R s m args meth c G row d0) {i : Fin 4} (hd : decode row.2.2.1 pc = .ok (.lstore_n i, 1)) (h : (match st with
    | .long x :: r => (mS2 L i.val (.long x)).bind fun l => mNx (pc + 1) l r D
    | _ => none) = some (.inl q)) (k : mK p l e R s m args below meth c Q G row.2.2.2.1 d0 s0 q.1 q.2.1 q.2.2.1 q.2.2.2) : mK p l e R s m args below meth c Q G row.2.2.2.1 d0 s0 pc L st D := by
  intro ls H locs cells slots hL hP hS hc hs
  split at h
  · obtain ⟨L1, h1, h2⟩ := mBind_eq h
    obtain rfl := mNx_eq h2
    exact lv_lstore_n C.1 C.2.1 hd rfl hL.has (by have := (mS2_spec h1).1; rw [hL.1] at this; exact this) rfl (fun ls1 hl1 => k ls1 H locs cells slots (hL.put2 h1 hl1) hP hS hc hs)
  · cases h
theorem r_lstore (C : mCx p R s m args meth c G row d0) {i : Nat} (hd : decode row.2.2.1 pc = .ok (.lstore i, 2)) (h : (match st with
    | .long x :: r => (mS2 L i (.long x)).bind fun l => mNx (pc + 2) l r D
    | _ => none) = some (.inl q)) (k : mK p l e R s m args below meth c Q G row.2.2.2.1 d0 s0 q.1 q.2.1 q.2.2.1 q.2.2.2) : mK p l e R s m args below meth c Q G row.2.2.2.1 d0 s0 pc L st D := by
  intro ls H locs cells slots hL hP hS hc hs
  split at h
  · obtain ⟨L1, h1, h2⟩ := mBind_eq h
    obtain rfl := mNx_eq h2
    exact lv_lstore C.1 C.2.1 hd hL.has (by have := (mS2_spec h1).1; rw [hL.1] at this; exact this) rfl (fun ls1 hl1 => k ls1 H locs cells slots (hL.put2 h1 hl1) hP hS hc hs)
  · cases h
theorem r_astore_n (C : mCx p R s m args meth c G row d0) {i : Fin 4} (hd : decode row.2.2.1 pc = .ok (.astore_n i, 1)) (h : (match st with
    | .ref x :: r => (mS1 L i.val (.ref x)).bind fun l => mNx (pc + 1) l r D
    | _ => none) = some (.inl q)) (k : mK p l e R s m args below meth c Q G row.2.2.2.1 d0 s0 q.1 q.2.1 q.2.2.1 q.2.2.2) : mK p l e R s m args below meth c Q G row.2.2.2.1 d0 s0 pc L st D := by
  intro ls H locs cells slots hL hP hS hc hs
  split at h
  · obtain ⟨L1, h1, h2⟩ := mBind_eq h
    obtain rfl := mNx_eq h2
    exact lv_astore_n C.1 C.2.1 hd rfl hL.has (by have := (mS1_spec h1).1; rw [hL.1] at this; exact this) rfl (fun ls1 hl1 => k ls1 H locs cells slots (hL.put1 h1 hl1) hP hS hc hs)
  · cases h
theorem r_astore (C : mCx p R s m args meth c G row d0) {i : Nat} (hd : decode row.2.2.1 pc = .ok (.astore i, 2)) (h : (match st with
    | .ref x :: r => (mS1 L i (.ref x)).bind fun l => mNx (pc + 2) l r D
    | _ => none) = some (.inl q)) (k : mK p l e R s m args below meth c Q G row.2.2.2.1 d0 s0 q.1 q.2.1 q.2.2.1 q.2.2.2) : mK p l e R s m args below meth c Q G row.2.2.2.1 d0 s0 pc L st D := by
  intro ls H locs cells slots hL hP hS hc hs
  split at h
  · obtain ⟨L1, h1, h2⟩ := mBind_eq h
    obtain rfl := mNx_eq h2
    exact lv_astore C.1 C.2.1 hd hL.has (by have := (mS1_spec h1).1; rw [hL.1] at this; exact this) rfl (fun ls1 hl1 => k ls1 H locs cells slots (hL.put1 h1 hl1) hP hS hc hs)
  · cases h
theorem mPr_at {G : mG} {L : mLoc} {i : Nat} {v : Value} (h : L[i]? = some (some v)) : ∃ k : Nat, (mPr G L)[k]? = some (i, mV G v) := List.getElem?_of_mem (mPr_mem h)

theorem r_iinc (C : mCx p R s m args meth c G row d0) {i : Nat} {n : Int} (hd : decode row.2.2.1 pc = .ok (.iinc i n, 3)) (h : (match L[i]? with
    | some (some (.int x)) => (mS1 L i (.int (x + Int32.ofInt n))).bind fun l => mNx (pc + 3) l st D
    | _ => none) = some (.inl q)) (k : mK p l e R s m args below meth c Q G row.2.2.2.1 d0 s0 q.1 q.2.1 q.2.2.1 q.2.2.2) : mK p l e R s m args below meth c Q G row.2.2.2.1 d0 s0 pc L st D := by
  intro ls H locs cells slots hL hP hS hc hs
  split at h
  · rename_i x hx
    obtain ⟨L1, h1, h2⟩ := mBind_eq h
    obtain rfl := mNx_eq h2
    obtain ⟨k9, hk9⟩ := mPr_at (G := G) hx
    exact lv_iinc C.1 C.2.1 hd hL.has hk9 rfl (by have := (mS1_spec h1).1; rw [hL.1] at this; exact this) rfl (fun ls1 hl1 => k ls1 H locs cells slots (hL.put1 h1 hl1) hP hS hc hs)
  · cases h
theorem r_iadd (C : mCx p R s m args meth c G row d0) (hd : decode row.2.2.1 pc = .ok (.iadd, 1)) (h : (match st with
    | .int y :: .int x :: r => mNx (pc + 1) L (.int (x + y) :: r) D
    | _ => none) = some (.inl q)) (k : mK p l e R s m args below meth c Q G row.2.2.2.1 d0 s0 q.1 q.2.1 q.2.2.1 q.2.2.2) : mK p l e R s m args below meth c Q G row.2.2.2.1 d0 s0 pc L st D := by
  intro ls H locs cells slots hL hP hS hc hs
  split at h
  · obtain rfl := mNx_eq h
    exact lv_iadd C.1 C.2.1 hd (k ls H locs cells slots hL hP hS hc hs)
  · cases h
theorem r_isub (C : mCx p R s m args meth c G row d0) (hd : decode row.2.2.1 pc = .ok (.isub, 1)) (h : (match st with
    | .int y :: .int x :: r => mNx (pc + 1) L (.int (x - y) :: r) D
    | _ => none) = some (.inl q)) (k : mK p l e R s m args below meth c Q G row.2.2.2.1 d0 s0 q.1 q.2.1 q.2.2.1 q.2.2.2) : mK p l e R s m args below meth c Q G row.2.2.2.1 d0 s0 pc L st D := by
  intro ls H locs cells slots hL hP hS hc hs
  split at h
  · obtain rfl := mNx_eq h
    exact lv_isub C.1 C.2.1 hd (k ls H locs cells slots hL hP hS hc hs)
  · cases h
theorem r_imul (C : mCx p R s m args meth c G row d0) (hd : decode row.2.2.1 pc = .ok (.imul, 1)) (h : (match st with
    | .int y :: .int x :: r => mNx (pc + 1) L (.int (x * y) :: r) D
    | _ => none) = some (.inl q)) (k : mK p l e R s m args below meth c Q G row.2.2.2.1 d0 s0 q.1 q.2.1 q.2.2.1 q.2.2.2) : mK p l e R s m args below meth c Q G row.2.2.2.1 d0 s0 pc L st D := by
  intro ls H locs cells slots hL hP hS hc hs
  split at h
  · obtain rfl := mNx_eq h
    exact lv_imul C.1 C.2.1 hd (k ls H locs cells slots hL hP hS hc hs)
  · cases h
theorem r_iand (C : mCx p R s m args meth c G row d0) (hd : decode row.2.2.1 pc = .ok (.iand, 1)) (h : (match st with
    | .int y :: .int x :: r => mNx (pc + 1) L (.int (x &&& y) :: r) D
    | _ => none) = some (.inl q)) (k : mK p l e R s m args below meth c Q G row.2.2.2.1 d0 s0 q.1 q.2.1 q.2.2.1 q.2.2.2) : mK p l e R s m args below meth c Q G row.2.2.2.1 d0 s0 pc L st D := by
  intro ls H locs cells slots hL hP hS hc hs
  split at h
  · obtain rfl := mNx_eq h
    exact lv_iand C.1 C.2.1 hd (k ls H locs cells slots hL hP hS hc hs)
  · cases h
theorem r_ior (C : mCx p R s m args meth c G row d0) (hd : decode row.2.2.1 pc = .ok (.ior, 1)) (h : (match st with
    | .int y :: .int x :: r => mNx (pc + 1) L (.int (x ||| y) :: r) D
    | _ => none) = some (.inl q)) (k : mK p l e R s m args below meth c Q G row.2.2.2.1 d0 s0 q.1 q.2.1 q.2.2.1 q.2.2.2) : mK p l e R s m args below meth c Q G row.2.2.2.1 d0 s0 pc L st D := by
  intro ls H locs cells slots hL hP hS hc hs
  split at h
  · obtain rfl := mNx_eq h
    exact lv_ior C.1 C.2.1 hd (k ls H locs cells slots hL hP hS hc hs)
  · cases h
theorem r_ixor (C : mCx p R s m args meth c G row d0) (hd : decode row.2.2.1 pc = .ok (.ixor, 1)) (h : (match st with
    | .int y :: .int x :: r => mNx (pc + 1) L (.int (x ^^^ y) :: r) D
    | _ => none) = some (.inl q)) (k : mK p l e R s m args below meth c Q G row.2.2.2.1 d0 s0 q.1 q.2.1 q.2.2.1 q.2.2.2) : mK p l e R s m args below meth c Q G row.2.2.2.1 d0 s0 pc L st D := by
  intro ls H locs cells slots hL hP hS hc hs
  split at h
  · obtain rfl := mNx_eq h
    exact lv_ixor C.1 C.2.1 hd (k ls H locs cells slots hL hP hS hc hs)
  · cases h
theorem r_ishl (C : mCx p R s m args meth c G row d0) (hd : decode row.2.2.1 pc = .ok (.ishl, 1)) (h : (match st with
    | .int y :: .int x :: r => mNx (pc + 1) L (.int (x <<< (y &&& 31)) :: r) D
    | _ => none) = some (.inl q)) (k : mK p l e R s m args below meth c Q G row.2.2.2.1 d0 s0 q.1 q.2.1 q.2.2.1 q.2.2.2) : mK p l e R s m args below meth c Q G row.2.2.2.1 d0 s0 pc L st D := by
  intro ls H locs cells slots hL hP hS hc hs
  split at h
  · obtain rfl := mNx_eq h
    exact lv_ishl C.1 C.2.1 hd (k ls H locs cells slots hL hP hS hc hs)
  · cases h
theorem r_ishr (C : mCx p R s m args meth c G row d0) (hd : decode row.2.2.1 pc = .ok (.ishr, 1)) (h : (match st with
    | .int y :: .int x :: r => mNx (pc + 1) L (.int (x >>> (y &&& 31)) :: r) D
    | _ => none) = some (.inl q)) (k : mK p l e R s m args below meth c Q G row.2.2.2.1 d0 s0 q.1 q.2.1 q.2.2.1 q.2.2.2) : mK p l e R s m args below meth c Q G row.2.2.2.1 d0 s0 pc L st D := by
  intro ls H locs cells slots hL hP hS hc hs
  split at h
  · obtain rfl := mNx_eq h
    exact lv_ishr C.1 C.2.1 hd (k ls H locs cells slots hL hP hS hc hs)
  · cases h
theorem r_ladd (C : mCx p R s m args meth c G row d0) (hd : decode row.2.2.1 pc = .ok (.ladd, 1)) (h : (match st with
    | .long y :: .long x :: r => mNx (pc + 1) L (.long (x + y) :: r) D
    | _ => none) = some (.inl q)) (k : mK p l e R s m args below meth c Q G row.2.2.2.1 d0 s0 q.1 q.2.1 q.2.2.1 q.2.2.2) : mK p l e R s m args below meth c Q G row.2.2.2.1 d0 s0 pc L st D := by
  intro ls H locs cells slots hL hP hS hc hs
  split at h
  · obtain rfl := mNx_eq h
    exact lv_ladd C.1 C.2.1 hd (k ls H locs cells slots hL hP hS hc hs)
  · cases h
theorem r_lmul (C : mCx p R s m args meth c G row d0) (hd : decode row.2.2.1 pc = .ok (.lmul, 1)) (h : (match st with
    | .long y :: .long x :: r => mNx (pc + 1) L (.long (x * y) :: r) D
    | _ => none) = some (.inl q)) (k : mK p l e R s m args below meth c Q G row.2.2.2.1 d0 s0 q.1 q.2.1 q.2.2.1 q.2.2.2) : mK p l e R s m args below meth c Q G row.2.2.2.1 d0 s0 pc L st D := by
  intro ls H locs cells slots hL hP hS hc hs
  split at h
  · obtain rfl := mNx_eq h
    exact lv_lmul C.1 C.2.1 hd (k ls H locs cells slots hL hP hS hc hs)
  · cases h
theorem r_iushr (C : mCx p R s m args meth c G row d0) (hd : decode row.2.2.1 pc = .ok (.iushr, 1)) (h : (match st with
    | .int y :: .int x :: r => mNx (pc + 1) L (.int (x.toUInt32 >>> (y.toUInt32 &&& Int32.toUInt32 31)).toInt32 :: r) D
    | _ => none) = some (.inl q)) (k : mK p l e R s m args below meth c Q G row.2.2.2.1 d0 s0 q.1 q.2.1 q.2.2.1 q.2.2.2) : mK p l e R s m args below meth c Q G row.2.2.2.1 d0 s0 pc L st D := by
  intro ls H locs cells slots hL hP hS hc hs
  split at h
  · obtain rfl := mNx_eq h
    exact lv_iushr C.1 C.2.1 hd rfl (k ls H locs cells slots hL hP hS hc hs)
  · cases h
theorem r_lcmp (C : mCx p R s m args meth c G row d0) (hd : decode row.2.2.1 pc = .ok (.lcmp, 1)) (h : (match st with
    | .long y :: .long x :: r => mNx (pc + 1) L (.int (lg_cmp x y) :: r) D
    | _ => none) = some (.inl q)) (k : mK p l e R s m args below meth c Q G row.2.2.2.1 d0 s0 q.1 q.2.1 q.2.2.1 q.2.2.2) : mK p l e R s m args below meth c Q G row.2.2.2.1 d0 s0 pc L st D := by
  intro ls H locs cells slots hL hP hS hc hs
  split at h
  · obtain rfl := mNx_eq h
    exact W.lcmp C.1 C.2.1 hd (k ls H locs cells slots hL hP hS hc hs)
  · cases h
theorem r_idiv (C : mCx p R s m args meth c G row d0) (hd : decode row.2.2.1 pc = .ok (.idiv, 1)) (h : (match st with
    | .int y :: .int x :: r => if y = 0 then none else mNx (pc + 1) L (.int (x / y) :: r) D
    | _ => none) = some (.inl q)) (k : mK p l e R s m args below meth c Q G row.2.2.2.1 d0 s0 q.1 q.2.1 q.2.2.1 q.2.2.2) : mK p l e R s m args below meth c Q G row.2.2.2.1 d0 s0 pc L st D := by
  intro ls H locs cells slots hL hP hS hc hs
  split at h
  · split at h
    · cases h
    · rename_i hne
      obtain rfl := mNx_eq h
      exact lv_idiv C.1 C.2.1 hd hne (k ls H locs cells slots hL hP hS hc hs)
  · cases h
theorem r_irem (C : mCx p R s m args meth c G row d0) (hd : decode row.2.2.1 pc = .ok (.irem, 1)) (h : (match st with
    | .int y :: .int x :: r => if y = 0 then none else mNx (pc + 1) L (.int (x - x / y * y) :: r) D
    | _ => none) = some (.inl q)) (k : mK p l e R s m args below meth c Q G row.2.2.2.1 d0 s0 q.1 q.2.1 q.2.2.1 q.2.2.2) : mK p l e R s m args below meth c Q G row.2.2.2.1 d0 s0 pc L st D := by
  intro ls H locs cells slots hL hP hS hc hs
  split at h
  · split at h
    · cases h
    · rename_i hne
      obtain rfl := mNx_eq h
      exact lv_irem C.1 C.2.1 hd hne (k ls H locs cells slots hL hP hS hc hs)
  · cases h
theorem r_i2l (C : mCx p R s m args meth c G row d0) (hd : decode row.2.2.1 pc = .ok (.i2l, 1)) (h : (match st with
    | .int x :: r => mNx (pc + 1) L (.long x.toInt64 :: r) D
    | _ => none) = some (.inl q)) (k : mK p l e R s m args below meth c Q G row.2.2.2.1 d0 s0 q.1 q.2.1 q.2.2.1 q.2.2.2) : mK p l e R s m args below meth c Q G row.2.2.2.1 d0 s0 pc L st D := by
  intro ls H locs cells slots hL hP hS hc hs
  split at h
  · obtain rfl := mNx_eq h
    exact lv_i2l C.1 C.2.1 hd rfl (k ls H locs cells slots hL hP hS hc hs)
  · cases h
theorem r_i2b (C : mCx p R s m args meth c G row d0) (hd : decode row.2.2.1 pc = .ok (.i2b, 1)) (h : (match st with
    | .int x :: r => mNx (pc + 1) L (.int x.toInt8.toInt32 :: r) D
    | _ => none) = some (.inl q)) (k : mK p l e R s m args below meth c Q G row.2.2.2.1 d0 s0 q.1 q.2.1 q.2.2.1 q.2.2.2) : mK p l e R s m args below meth c Q G row.2.2.2.1 d0 s0 pc L st D := by
  intro ls H locs cells slots hL hP hS hc hs
  split at h
  · obtain rfl := mNx_eq h
    exact lv_i2b C.1 C.2.1 hd rfl (k ls H locs cells slots hL hP hS hc hs)
  · cases h
theorem r_i2s (C : mCx p R s m args meth c G row d0) (hd : decode row.2.2.1 pc = .ok (.i2s, 1)) (h : (match st with
    | .int x :: r => mNx (pc + 1) L (.int x.toInt16.toInt32 :: r) D
    | _ => none) = some (.inl q)) (k : mK p l e R s m args below meth c Q G row.2.2.2.1 d0 s0 q.1 q.2.1 q.2.2.1 q.2.2.2) : mK p l e R s m args below meth c Q G row.2.2.2.1 d0 s0 pc L st D := by
  intro ls H locs cells slots hL hP hS hc hs
  split at h
  · obtain rfl := mNx_eq h
    exact lv_i2s C.1 C.2.1 hd rfl (k ls H locs cells slots hL hP hS hc hs)
  · cases h
theorem r_dup (C : mCx p R s m args meth c G row d0) (hd : decode row.2.2.1 pc = .ok (.dup, 1)) (h : (match st with
    | v :: r => cond (Nat.beq v.category 1) (mNx (pc + 1) L (v :: v :: r) D) none
    | _ => none) = some (.inl q)) (k : mK p l e R s m args below meth c Q G row.2.2.2.1 d0 s0 q.1 q.2.1 q.2.2.1 q.2.2.2) : mK p l e R s m args below meth c Q G row.2.2.2.1 d0 s0 pc L st D := by
  intro ls H locs cells slots hL hP hS hc hs
  split at h
  · obtain ⟨h1, h⟩ := mCond_eq h
    obtain rfl := mNx_eq h
    exact lv_dup C.1 C.2.1 hd (by rw [mV_cat]; exact Nat.eq_of_beq_eq_true h1) (k ls H locs cells slots hL hP hS hc hs)
  · cases h
theorem r_pop (C : mCx p R s m args meth c G row d0) (hd : decode row.2.2.1 pc = .ok (.pop, 1)) (h : (match st with
    | v :: r => cond (Nat.beq v.category 1) (mNx (pc + 1) L r D) none
    | _ => none) = some (.inl q)) (k : mK p l e R s m args below meth c Q G row.2.2.2.1 d0 s0 q.1 q.2.1 q.2.2.1 q.2.2.2) : mK p l e R s m args below meth c Q G row.2.2.2.1 d0 s0 pc L st D := by
  intro ls H locs cells slots hL hP hS hc hs
  split at h
  · obtain ⟨h1, h⟩ := mCond_eq h
    obtain rfl := mNx_eq h
    exact lv_pop C.1 C.2.1 hd (by rw [mV_cat]; exact Nat.eq_of_beq_eq_true h1) (k ls H locs cells slots hL hP hS hc hs)
  · cases h
theorem r_dup2 (C : mCx p R s m args meth c G row d0) (hd : decode row.2.2.1 pc = .ok (.dup2, 1)) (h : (match st with
    | v :: w :: r => cond (Nat.beq v.category 1 && Nat.beq w.category 1) (mNx (pc + 1) L (v :: w :: v :: w :: r) D) none
    | _ => none) = some (.inl q)) (k : mK p l e R s m args below meth c Q G row.2.2.2.1 d0 s0 q.1 q.2.1 q.2.2.1 q.2.2.2) : mK p l e R s m args below meth c Q G row.2.2.2.1 d0 s0 pc L st D := by
  intro ls H locs cells slots hL hP hS hc hs
  split at h
  · obtain ⟨h1, h⟩ := mCond_eq h
    obtain rfl := mNx_eq h
    rw [Bool.and_eq_true] at h1
    exact lv_dup2_11 C.1 C.2.1 hd (by rw [mV_cat]; exact Nat.eq_of_beq_eq_true h1.1) (by rw [mV_cat]; exact Nat.eq_of_beq_eq_true h1.2) (k ls H locs cells slots hL hP hS hc hs)
  · cases h
theorem r_pop2 (C : mCx p R s m args meth c G row d0) (hd : decode row.2.2.1 pc = .ok (.pop2, 1)) (h : (match st with
    | .long _ :: r => mNx (pc + 1) L r D
    | _ => none) = some (.inl q)) (k : mK p l e R s m args below meth c Q G row.2.2.2.1 d0 s0 q.1 q.2.1 q.2.2.1 q.2.2.2) : mK p l e R s m args below meth c Q G row.2.2.2.1 d0 s0 pc L st D := by
  intro ls H locs cells slots hL hP hS hc hs
  split at h
  · obtain rfl := mNx_eq h
    exact lv_pop2_2 C.1 C.2.1 hd rfl (k ls H locs cells slots hL hP hS hc hs)
  · cases h
theorem r_if_eq (C : mCx p R s m args meth c G row d0) {off : Int} (hd : decode row.2.2.1 pc = .ok (.ifCond .eq off, 3)) (h : (match st with
    | .int x :: r => mBr (decide (x = 0)) pc off L r D
    | _ => none) = some (.inl q)) (k : mK p l e R s m args below meth c Q G row.2.2.2.1 d0 s0 q.1 q.2.1 q.2.2.1 q.2.2.2) : mK p l e R s m args below meth c Q G row.2.2.2.1 d0 s0 pc L st D := by
  intro ls H locs cells slots hL hP hS hc hs
  split at h
  · obtain ⟨t, ht, rfl⟩ := mBr_eq h
    have k1 := k ls H locs cells slots hL hP hS hc hs
    refine lv_if_eq C.1 C.2.1 hd ht (fun hP => ?_) (fun hP => ?_)
    · simpa only [decide_eq_true hP, cond_true] using k1
    · simpa only [decide_eq_false hP, cond_false] using k1
  · cases h
theorem r_icmp_eq (C : mCx p R s m args meth c G row d0) {off : Int} (hd : decode row.2.2.1 pc = .ok (.if_icmp .eq off, 3)) (h : (match st with
    | .int y :: .int x :: r => mBr (decide (x = y)) pc off L r D
    | _ => none) = some (.inl q)) (k : mK p l e R s m args below meth c Q G row.2.2.2.1 d0 s0 q.1 q.2.1 q.2.2.1 q.2.2.2) : mK p l e R s m args below meth c Q G row.2.2.2.1 d0 s0 pc L st D := by
  intro ls H locs cells slots hL hP hS hc hs
  split at h
  · obtain ⟨t, ht, rfl⟩ := mBr_eq h
    have k1 := k ls H locs cells slots hL hP hS hc hs
    refine lv_icmp_eq C.1 C.2.1 hd ht (fun hP => ?_) (fun hP => ?_)
    · simpa only [decide_eq_true hP, cond_true] using k1
    · simpa only [decide_eq_false hP, cond_false] using k1
  · cases h
theorem r_if_ne (C : mCx p R s m args meth c G row d0) {off : Int} (hd : decode row.2.2.1 pc = .ok (.ifCond .ne off, 3)) (h : (match st with
    | .int x :: r => mBr (!decide (x = 0)) pc off L r D
    | _ => none) = some (.inl q)) (k : mK p l e R s m args below meth c Q G row.2.2.2.1 d0 s0 q.1 q.2.1 q.2.2.1 q.2.2.2) : mK p l e R s m args below meth c Q G row.2.2.2.1 d0 s0 pc L st D := by
  intro ls H locs cells slots hL hP hS hc hs
  split at h
  · obtain ⟨t, ht, rfl⟩ := mBr_eq h
    have k1 := k ls H locs cells slots hL hP hS hc hs
    refine lv_if_ne C.1 C.2.1 hd ht (fun hP => ?_) (fun hP => ?_)
    · simpa only [decide_eq_false hP, Bool.not_false, cond_true] using k1
    · simpa only [decide_eq_true hP, Bool.not_true, cond_false] using k1
  · cases h
theorem r_icmp_ne (C : mCx p R s m args meth c G row d0) {off : Int} (hd : decode row.2.2.1 pc = .ok (.if_icmp .ne off, 3)) (h : (match st with
    | .int y :: .int x :: r => mBr (!decide (x = y)) pc off L r D
    | _ => none) = some (.inl q)) (k : mK p l e R s m args below meth c Q G row.2.2.2.1 d0 s0 q.1 q.2.1 q.2.2.1 q.2.2.2) : mK p l e R s m args below meth c Q G row.2.2.2.1 d0 s0 pc L st D := by
  intro ls H locs cells slots hL hP hS hc hs
  split at h
  · obtain ⟨t, ht, rfl⟩ := mBr_eq h
    have k1 := k ls H locs cells slots hL hP hS hc hs
    refine lv_icmp_ne C.1 C.2.1 hd ht (fun hP => ?_) (fun hP => ?_)
    · simpa only [decide_eq_false hP, Bool.not_false, cond_true] using k1
    · simpa only [decide_eq_true hP, Bool.not_true, cond_false] using k1
  · cases h
theorem r_if_lt (C : mCx p R s m args meth c G row d0) {off : Int} (hd : decode row.2.2.1 pc = .ok (.ifCond .lt off, 3)) (h : (match st with
    | .int x :: r => mBr (decide (x < 0)) pc off L r D
    | _ => none) = some (.inl q)) (k : mK p l e R s m args below meth c Q G row.2.2.2.1 d0 s0 q.1 q.2.1 q.2.2.1 q.2.2.2) : mK p l e R s m args below meth c Q G row.2.2.2.1 d0 s0 pc L st D := by
  intro ls H locs cells slots hL hP hS hc hs
  split at h
  · obtain ⟨t, ht, rfl⟩ := mBr_eq h
    have k1 := k ls H locs cells slots hL hP hS hc hs
    refine lv_if_lt C.1 C.2.1 hd ht (fun hP => ?_) (fun hP => ?_)
    · simpa only [decide_eq_true hP, cond_true] using k1
    · simpa only [decide_eq_false hP, cond_false] using k1
  · cases h
theorem r_icmp_lt (C : mCx p R s m args meth c G row d0) {off : Int} (hd : decode row.2.2.1 pc = .ok (.if_icmp .lt off, 3)) (h : (match st with
    | .int y :: .int x :: r => mBr (decide (x < y)) pc off L r D
    | _ => none) = some (.inl q)) (k : mK p l e R s m args below meth c Q G row.2.2.2.1 d0 s0 q.1 q.2.1 q.2.2.1 q.2.2.2) : mK p l e R s m args below meth c Q G row.2.2.2.1 d0 s0 pc L st D := by
  intro ls H locs cells slots hL hP hS hc hs
  split at h
  · obtain ⟨t, ht, rfl⟩ := mBr_eq h
    have k1 := k ls H locs cells slots hL hP hS hc hs
    refine lv_icmp_lt C.1 C.2.1 hd ht (fun hP => ?_) (fun hP => ?_)
    · simpa only [decide_eq_true hP, cond_true] using k1
    · simpa only [decide_eq_false hP, cond_false] using k1
  · cases h
theorem r_if_ge (C : mCx p R s m args meth c G row d0) {off : Int} (hd : decode row.2.2.1 pc = .ok (.ifCond .ge off, 3)) (h : (match st with
    | .int x :: r => mBr (decide (0 ≤ x)) pc off L r D
    | _ => none) = some (.inl q)) (k : mK p l e R s m args below meth c Q G row.2.2.2.1 d0 s0 q.1 q.2.1 q.2.2.1 q.2.2.2) : mK p l e R s m args below meth c Q G row.2.2.2.1 d0 s0 pc L st D := by
  intro ls H locs cells slots hL hP hS hc hs
  split at h
  · obtain ⟨t, ht, rfl⟩ := mBr_eq h
    have k1 := k ls H locs cells slots hL hP hS hc hs
    refine lv_if_ge C.1 C.2.1 hd ht (fun hP => ?_) (fun hP => ?_)
    · simpa only [decide_eq_true hP, cond_true] using k1
    · simpa only [decide_eq_false hP, cond_false] using k1
  · cases h
theorem r_icmp_ge (C : mCx p R s m args meth c G row d0) {off : Int} (hd : decode row.2.2.1 pc = .ok (.if_icmp .ge off, 3)) (h : (match st with
    | .int y :: .int x :: r => mBr (decide (y ≤ x)) pc off L r D
    | _ => none) = some (.inl q)) (k : mK p l e R s m args below meth c Q G row.2.2.2.1 d0 s0 q.1 q.2.1 q.2.2.1 q.2.2.2) : mK p l e R s m args below meth c Q G row.2.2.2.1 d0 s0 pc L st D := by
  intro ls H locs cells slots hL hP hS hc hs
  split at h
  · obtain ⟨t, ht, rfl⟩ := mBr_eq h
    have k1 := k ls H locs cells slots hL hP hS hc hs
    refine lv_icmp_ge C.1 C.2.1 hd ht (fun hP => ?_) (fun hP => ?_)
    · simpa only [decide_eq_true hP, cond_true] using k1
    · simpa only [decide_eq_false hP, cond_false] using k1
  · cases h
theorem r_if_gt (C : mCx p R s m args meth c G row d0) {off : Int} (hd : decode row.2.2.1 pc = .ok (.ifCond .gt off, 3)) (h : (match st with
    | .int x :: r => mBr (decide (0 < x)) pc off L r D
    | _ => none) = some (.inl q)) (k : mK p l e R s m args below meth c Q G row.2.2.2.1 d0 s0 q.1 q.2.1 q.2.2.1 q.2.2.2) : mK p l e R s m args below meth c Q G row.2.2.2.1 d0 s0 pc L st D := by
  intro ls H locs cells slots hL hP hS hc hs
  split at h
  · obtain ⟨t, ht, rfl⟩ := mBr_eq h
    have k1 := k ls H locs cells slots hL hP hS hc hs
    refine lv_if_gt C.1 C.2.1 hd ht (fun hP => ?_) (fun hP => ?_)
    · simpa only [decide_eq_true hP, cond_true] using k1
    · simpa only [decide_eq_false hP, cond_false] using k1
  · cases h
theorem r_icmp_gt (C : mCx p R s m args meth c G row d0) {off : Int} (hd : decode row.2.2.1 pc = .ok (.if_icmp .gt off, 3)) (h : (match st with
    | .int y :: .int x :: r => mBr (decide (y < x)) pc off L r D
    | _ => none) = some (.inl q)) (k : mK p l e R s m args below meth c Q G row.2.2.2.1 d0 s0 q.1 q.2.1 q.2.2.1 q.2.2.2) : mK p l e R s m args below meth c Q G row.2.2.2.1 d0 s0 pc L st D := by
  intro ls H locs cells slots hL hP hS hc hs
  split at h
  · obtain ⟨t, ht, rfl⟩ := mBr_eq h
    have k1 := k ls H locs cells slots hL hP hS hc hs
    refine lv_icmp_gt C.1 C.2.1 hd ht (fun hP => ?_) (fun hP => ?_)
    · simpa only [decide_eq_true hP, cond_true] using k1
    · simpa only [decide_eq_false hP, cond_false] using k1
  · cases h
theorem r_if_le (C : mCx p R s m args meth c G row d0) {off : Int} (hd : decode row.2.2.1 pc = .ok (.ifCond .le off, 3)) (h : (match st with
    | .int x :: r => mBr (decide (x ≤ 0)) pc off L r D
    | _ => none) = some (.inl q)) (k : mK p l e R s m args below meth c Q G row.2.2.2.1 d0 s0 q.1 q.2.1 q.2.2.1 q.2.2.2) : mK p l e R s m args below meth c Q G row.2.2.2.1 d0 s0 pc L st D := by
  intro ls H locs cells slots hL hP hS hc hs
  split at h
  · obtain ⟨t, ht, rfl⟩ := mBr_eq h
    have k1 := k ls H locs cells slots hL hP hS hc hs
    refine lv_if_le C.1 C.2.1 hd ht (fun hP => ?_) (fun hP => ?_)
    · simpa only [decide_eq_true hP, cond_true] using k1
    · simpa only [decide_eq_false hP, cond_false] using k1
  · cases h
theorem r_icmp_le (C : mCx p R s m args meth c G row d0) {off : Int} (hd : decode row.2.2.1 pc = .ok (.if_icmp .le off, 3)) (h : (match st with
    | .int y :: .int x :: r => mBr (decide (x ≤ y)) pc off L r D
    | _ => none) = some (.inl q)) (k : mK p l e R s m args below meth c Q G row.2.2.2.1 d0 s0 q.1 q.2.1 q.2.2.1 q.2.2.2) : mK p l e R s m args below meth c Q G row.2.2.2.1 d0 s0 pc L st D := by
  intro ls H locs cells slots hL hP hS hc hs
  split at h
  · obtain ⟨t, ht, rfl⟩ := mBr_eq h
    have k1 := k ls H locs cells slots hL hP hS hc hs
    refine lv_icmp_le C.1 C.2.1 hd ht (fun hP => ?_) (fun hP => ?_)
    · simpa only [decide_eq_true hP, cond_true] using k1
    · simpa only [decide_eq_false hP, cond_false] using k1
  · cases h
theorem r_goto (C : mCx p R s m args meth c G row d0) {off : Int} (hd : decode row.2.2.1 pc = .ok (.goto off, 3)) (h : (mGo pc off L st D) = some (.inl q)) (k : mK p l e R s m args below meth c Q G row.2.2.2.1 d0 s0 q.1 q.2.1 q.2.2.1 q.2.2.2) : mK p l e R s m args below meth c Q G row.2.2.2.1 d0 s0 pc L st D := by
  intro ls H locs cells slots hL hP hS hc hs
  obtain ⟨t, ht, rfl⟩ := mGo_eq h
  exact lv_goto C.1 C.2.1 hd ht (k ls H locs cells slots hL hP hS hc hs)
theorem r_tsw (C : mCx p R s m args meth c G row d0) {dflt lo hi : Int} {offs : Array Int} {len : Nat} (hd : decode row.2.2.1 pc = .ok (.tableswitch dflt lo hi offs, len)) (h : (match st with
    | .int x :: r => if x.toInt < lo ∨ hi < x.toInt then mGo pc dflt L r D else match offs[(x.toInt - lo).toNat]? with
      | some off => mGo pc off L r D
      | none => none
    | _ => none) = some (.inl q)) (k : mK p l e R s m args below meth c Q G row.2.2.2.1 d0 s0 q.1 q.2.1 q.2.2.1 q.2.2.2) : mK p l e R s m args below meth c Q G row.2.2.2.1 d0 s0 pc L st D := by
  intro ls H locs cells slots hL hP hS hc hs
  split at h
  · split at h
    · rename_i hx
      obtain ⟨t, ht, rfl⟩ := mGo_eq h
      exact lv_tableOut C.1 C.2.1 hd hx ht (k ls H locs cells slots hL hP hS hc hs)
    · rename_i hx
      split at h
      · rename_i off ho
        obtain ⟨t, ht, rfl⟩ := mGo_eq h
        exact lv_tableIn C.1 C.2.1 hd (fun z => hx (Or.inl z)) (fun z => hx (Or.inr z)) ho ht (k ls H locs cells slots hL hP hS hc hs)
      · cases h
  · cases h
end MRW
end
section
/-! ===== the rows that read, write and make cells ===== -/
theorem mCl_ok {a : Nat} (h : a < 5) : vwCl[a]? = some (mNm a, mFT a, mFN a) := by
  rcases (by omega : a = 0 ∨ a = 1 ∨ a = 2 ∨ a = 3 ∨ a = 4) with rfl | rfl | rfl | rfl | rfl <;> rfl
theorem mUL_wk : mWalk 0 tables_1 (mUL.map fun q => (q.1, u_lay (mNm q.2.1) (mFT q.2.1) q.2.2)) = true := by decide +kernel
theorem mUL_ck : (List.range 5).all (fun a => (List.range (mFN a)).all fun k => goodWord (u_lay (mNm a) (mFT a) k) && mUL.any fun q => Nat.beq q.2.1 a && Nat.beq q.2.2 k) = true := by decide +kernel
theorem mU_in {a : Nat} (h : a < 5) : ∀ w ∈ u_ws (mNm a) (mFT a) (mFN a), w ∈ mGW := by
  intro w hw
  obtain ⟨k, hk, rfl⟩ := List.mem_map.mp hw
  have h1 := List.all_eq_true.mp (List.all_eq_true.mp mUL_ck a (List.mem_range.mpr h)) k hk
  rw [Bool.and_eq_true, List.any_eq_true] at h1
  obtain ⟨hg, q, hq, h2⟩ := h1
  rw [Bool.and_eq_true] at h2
  have hm := mWalk_spec mUL_wk _ (List.mem_map.mpr ⟨q, hq, rfl⟩)
  simp only [Nat.eq_of_beq_eq_true h2.1, Nat.eq_of_beq_eq_true h2.2] at hm
  exact mTb_gw hm hg
theorem mNI_wk : mWalk 0 tables_1 (mNI.map fun q => (q.1, .instantiable (mNm q.2) (mFN q.2))) = true := by decide +kernel
theorem mNI_ck : (List.range 5).all (fun a => goodWord (.instantiable (mNm a) (mFN a)) && goodWord (.initialized (mNm a)) && mNI.any (fun q => Nat.beq q.2 a) && mIN.any (fun q => Nat.beq q.2 a)) = true := by decide +kernel
theorem mNI_in {a : Nat} (h : a < 5) : Cond.instantiable (mNm a) (mFN a) ∈ mGW ∧ Cond.initialized (mNm a) ∈ mGW := by
  have h1 := List.all_eq_true.mp mNI_ck a (List.mem_range.mpr h)
  simp only [Bool.and_eq_true, List.any_eq_true] at h1
  obtain ⟨⟨⟨g1, g2⟩, q, hq, h2⟩, q', hq', h2'⟩ := h1
  have hm := mWalk_spec mNI_wk _ (List.mem_map.mpr ⟨q, hq, rfl⟩)
  simp only [Nat.eq_of_beq_eq_true h2] at hm
  have hm' := mWalk_spec mIN_wk _ (List.mem_map.mpr ⟨q', hq', rfl⟩)
  simp only [Nat.eq_of_beq_eq_true h2'] at hm'
  exact ⟨mTb_gw hm g1, mTb_gw hm' g2⟩
theorem mTy_ok {a : Nat} (h : a < 5) : ∀ k, k < mFN a → parseFieldDescriptor (mFT a k).2.2.1 = some (mFy a k) := by
  rcases (by omega : a = 0 ∨ a = 1 ∨ a = 2 ∨ a = 3 ∨ a = 4) with rfl | rfl | rfl | rfl | rfl
  · exact tyX0_ok
  · exact tyX1_ok
  · exact tyX2_ok
  · exact tyX3_ok
  · exact tyX4_ok
theorem mNn_ok {a : Nat} (h : a < 5) : ∀ x, x < mFN a → ∀ y, y < mFN a → x ≠ y → (mFT a x).2.1 ≠ (mFT a y).2.1 := by
  rcases (by omega : a = 0 ∨ a = 1 ∨ a = 2 ∨ a = 3 ∨ a = 4) with rfl | rfl | rfl | rfl | rfl
  · exact nmX0
  · exact nmX1
  · exact nmX2
  · exact nmX3
  · exact nmX4
theorem mDf_ok {a : Nat} (h : a < 5) : (mDf a).length = mFN a ∧ ∀ k, k < mFN a → defaultValue (mFy a k) = vp_V (mDf a) k := by
  rcases (by omega : a = 0 ∨ a = 1 ∨ a = 2 ∨ a = 3 ∨ a = 4) with rfl | rfl | rfl | rfl | rfl <;> decide +kernel
theorem mDf_mV {a : Nat} (h : a < 5) (G : mG) : (mDf a).map (mV G) = mDf a := by
  rcases (by omega : a = 0 ∨ a = 1 ∨ a = 2 ∨ a = 3 ∨ a = 4) with rfl | rfl | rfl | rfl | rfl <;> rfl
theorem mEck_at {row : mRow} {e : mEnt} {idx : Nat} (h : mEck row e = true) (hi : mKi e.1 = some idx) : mKd e.1 e.2.2.2.1 = true ∧ mLT[e.2.2.1]? = some (row.1, idx, e.2.2.2.1, e.2.2.2.2.1, e.2.2.2.2.2.1, e.2.2.2.2.2.2) ∧ (Nat.blt e.2.2.2.1 10 = true ∨ mRm row e.2.2.2.1 e.2.2.2.2.1 = true) := by
  unfold mEck at h
  rw [Bool.and_eq_true, hi] at h
  replace h := h.2
  simp only [Bool.and_eq_true, decide_eq_true_eq, Bool.or_eq_true] at h
  exact ⟨h.1.1, h.1.2, h.2⟩
theorem mGet_eq {D : mHp} {i a b : Nat} {v : Value} (h : mGet D i a b = some v) : ∃ fs : List Value, D[i]? = some (.inr (a, fs)) ∧ fs[b]? = some v := by
  unfold mGet at h
  split at h
  · rename_i c fs hD
    obtain ⟨h1, h2⟩ := mCond_eq h
    rw [Nat.eq_of_beq_eq_true h1] at hD
    exact ⟨fs, hD, h2⟩
  · cases h
theorem mLt_of {D : mHp} {i : Nat} {c : va_E} (h : D[i]? = some c) : i < D.length := (List.getElem?_eq_some_iff.mp h).1
section MHR
variable {p : Program} {l : Launch} {e : Env} {R : Room} {s : State} {m : MethodId} {args : Array Value} {below : List Frame} {meth : Method} {c : Code} {Q : State → Prop} {G : mG} {row : mRow} {d0 s0 : Nat} {pc : Nat} {L : mLoc} {st : List Value} {D : mHp} {q : Nat × mLoc × List Value × mHp} {j a b : Nat} {z : Int} {idx : Nat}
theorem r_getfield (C : mCx p R s m args meth c G row d0) (hlim : D.length ≤ 1000000) {kind : Nat} (hk : Nat.ble kind 1 = true) (hL0 : mLT[j]? = some (row.1, idx, kind, a, b, z)) (hd : decode row.2.2.1 pc = .ok (.getfield idx, 3))
    (h : (match st with
    | .ref i :: r => (mGet D i a b).bind fun v => mNx (pc + 3) L (v :: r) D
    | _ => none) = some (.inl q)) (k : mK p l e R s m args below meth c Q G row.2.2.2.1 d0 s0 q.1 q.2.1 q.2.2.1 q.2.2.2) : mK p l e R s m args below meth c Q G row.2.2.2.1 d0 s0 pc L st D := by
  intro ls H locs cells slots hL hP hS hc hs
  obtain ⟨hx, hb, hml, hown, hts, hE, -, -, -, -⟩ := C
  split at h
  · rename_i i r
    obtain ⟨v, h1, h2⟩ := mBind_eq h
    obtain rfl := mNx_eq h2
    obtain ⟨fs, hDi, hv⟩ := mGet_eq h1
    have k1 := k ls H locs cells slots hL hP hS hc hs
    have hi : i < 1000000 := Nat.lt_of_lt_of_le (mLt_of hDi) hlim
    show W p l e R s m args below meth c H locs cells slots Q (F0 m pc ls (.ref (mAd G i) :: r.map (mV G)))
    rw [mAd_lt hi]
    have hv' : (fs.map (mV G))[b]? = some (mV G v) := by rw [List.getElem?_map, hv]; rfl
    obtain ⟨hw, hck⟩ := mLT_at hL0
    rcases (by have := Nat.le_of_ble_eq_true hk; omega : kind = 0 ∨ kind = 1) with rfl | rfl
    · simp only [mLck, Bool.and_eq_true, decide_eq_true_eq] at hck
      obtain ⟨⟨⟨hg, ha⟩, hb5⟩, he⟩ := hck
      have ha := Nat.blt_eq.mp ha
      exact va_get (D := G.2.2.1) (cl := vwCl) (tys := mTys G) (ci := a) (v := mV G v) (C := mNm a) (T := mFT a) (N := mFN a) (own := mNm row.1) (ref := mNm a) hx hb hts (mU_in ha) hown hE.1 hP i (fs := fs.map (mV G)) (mW_at hDi) (mCl_ok ha) b (Nat.blt_eq.mp hb5) (hts _ (mTb_gw hw hg)) (fun x hx => by rw [he] at hx; exact hx) hv' hd k1
    · simp only [mLck, Bool.and_eq_true, decide_eq_true_eq] at hck
      obtain ⟨⟨⟨hg, ha⟩, hb5⟩, he⟩ := hck
      have ha := Nat.blt_eq.mp ha
      exact va_getN (D := G.2.2.1) (cl := vwCl) (tys := mTys G) (ci := a) (v := mV G v) (C := mNm a) (T := mFT a) (N := mFN a) (own := mNm row.1) (ref := mNm a) (host := "EnvyRust") hx hb hts (mU_in ha) hown hE.1 hP i (fs := fs.map (mV G)) (mW_at hDi) (mCl_ok ha) b (Nat.blt_eq.mp hb5) (va_Nw.use rfl (hE.2.1 _ (mTb_nw hw hg))) (fun x hx => by rw [he] at hx; exact hx) hv' hd k1
  · cases h
theorem mFit_mV {ty : FieldType} {v : Value} (h : mFit ty v = true) (G : mG) : narrow ty (mV G v) = mV G v ∧ fits ty (mV G v) = true := by
  unfold mFit at h
  split at h
  · rename_i x
    simp only [Bool.and_eq_true, decide_eq_true_eq] at h
    exact h
  · split at h
    · exact ⟨rfl, rfl⟩
    · exact ⟨rfl, rfl⟩
    · cases h
  · cases h
theorem mPut_eq {D D1 : mHp} {i a b kind : Nat} {v : Value} (h : mPut row kind D i a b v = some D1) : ∃ fs : List Value, D[i]? = some (.inr (a, fs)) ∧ b < mFN a ∧ b < fs.length ∧ mFit (mFy a b) v = true ∧ ((mFT a b).2.2.2 = false ∨ ((mFT a b).2.2.2 = true ∧ kind = 0 ∧ row.2.1.name = "<init>" ∧ (mFT a b).1 = mNm row.1)) ∧ D1 = D.set i (.inr (a, fs.set b v)) := by
  unfold mPut at h
  split at h
  · rename_i c fs hD
    obtain ⟨h1, h2⟩ := mCond_eq h
    simp only [Bool.and_eq_true, Bool.or_eq_true, decide_eq_true_eq] at h1
    obtain ⟨⟨⟨⟨h3, h4⟩, h5⟩, h6⟩, h7⟩ := h1
    have e := Nat.eq_of_beq_eq_true h3
    subst e
    refine ⟨fs, hD, Nat.blt_eq.mp h4, Nat.blt_eq.mp h5, h6, ?_, (Option.some.inj h2).symm⟩
    cases hf : (mFT c b).2.2.2 with
    | false => exact Or.inl rfl
    | true =>
      rw [hf] at h7
      rcases h7 with h7 | ⟨h8, h7⟩
      · cases h7
      · exact Or.inr ⟨rfl, Nat.eq_of_beq_eq_true h8, h7⟩
  · cases h
theorem mSz_obj (a b : Nat) (fs : List Value) (v : Value) : mSz (.inr (a, fs.set b v)) = mSz (.inr (a, fs)) := List.length_set
theorem r_putfield (C : mCx p R s m args meth c G row d0) (hlim : D.length ≤ 1000000) {kind : Nat} (hk : Nat.ble kind 1 = true) (hL0 : mLT[j]? = some (row.1, idx, kind, a, b, z)) (hd : decode row.2.2.1 pc = .ok (.putfield idx, 3))
    (h : (match st with
    | v :: .ref i :: r => (mPut row kind D i a b v).bind fun D1 => mNx (pc + 3) L r D1
    | _ => none) = some (.inl q)) (k : mK p l e R s m args below meth c Q G row.2.2.2.1 d0 s0 q.1 q.2.1 q.2.2.1 q.2.2.2) : mK p l e R s m args below meth c Q G row.2.2.2.1 d0 s0 pc L st D := by
  intro ls H locs cells slots hL hP hS hc hs
  obtain ⟨hx, hb, hml, hown, hts, hE, hini, -, -, -⟩ := C
  split at h
  · rename_i v i r
    obtain ⟨D1, h1, h2⟩ := mBind_eq h
    obtain rfl := mNx_eq h2
    obtain ⟨fs, hDi, hbN, hbl, hfit, hfin, rfl⟩ := mPut_eq h1
    have hi : i < 1000000 := Nat.lt_of_lt_of_le (mLt_of hDi) hlim
    show W p l e R s m args below meth c H locs cells slots Q (F0 m pc ls (mV G v :: .ref (mAd G i) :: r.map (mV G)))
    rw [mAd_lt hi]
    obtain ⟨hw, hck⟩ := mLT_at hL0
    obtain ⟨f1, f2⟩ := mFit_mV hfit G
    have kk : ∀ (H1 : Heap) (locs1 : List Loc), va_P G.2.2.1 vwCl ((mW G 0 D).set i (G.1 + i, .inr (a, (fs.map (mV G)).set b (mV G v)))) H1 → va_D (mA G) ((mW G 0 D).set i (G.1 + i, .inr (a, (fs.map (mV G)).set b (mV G v)))) → va_S (mA G) s.heap H1 locs1 → W p l e R s m args below meth c H1 locs1 cells slots Q (F0 m (pc + 3) ls (r.map (mV G))) := by
      intro H1 locs1 hP1 _ hS1
      refine k ls H1 locs1 cells slots hL ?_ hS1 (by rw [hc]; exact List.length_set.symm) (by rw [hs]; exact (mSl_set hDi (mSz_obj a b fs v)).symm)
      show va_P G.2.2.1 vwCl (mW G 0 (D.set i (.inr (a, fs.set b v)))) H1
      rw [mW_set0]
      show va_P G.2.2.1 vwCl ((mW G 0 D).set i (G.1 + i, .inr (a, (fs.set b v).map (mV G)))) H1
      rw [List.map_set]
      exact hP1
    have hl9 : b < (fs.map (mV G)).length := by rw [List.length_map]; exact hbl
    rcases (by have := Nat.le_of_ble_eq_true hk; omega : kind = 0 ∨ kind = 1) with rfl | rfl
    · simp only [mLck, Bool.and_eq_true, decide_eq_true_eq] at hck
      obtain ⟨⟨⟨hg, ha⟩, hb5⟩, he⟩ := hck
      have ha := Nat.blt_eq.mp ha
      rcases hfin with hfin | ⟨hfin, hkz, hnm, hdc⟩
      · exact va_put (D := G.2.2.1) (cl := vwCl) (tys := mTys G) (ci := a) (v := mV G v) (ty := mFy a b) (C := mNm a) (T := mFT a) (N := mFN a) (own := mNm row.1) (ref := mNm a) hx hb hts (mU_in ha) (mFy a) (mTy_ok ha) (mNn_ok ha) hown hE.1 hP (mW_D G D) hS i (fs := fs.map (mV G)) (mW_at hDi) (mCl_ok ha) b hbN (hts _ (mTb_gw hw hg)) (fun x hx => by rw [he] at hx; exact hx) hfin (mTy_ok ha b hbN) f1 f2 hl9 hd kk
      · exact va_putF (D := G.2.2.1) (cl := vwCl) (tys := mTys G) (ci := a) (v := mV G v) (ty := mFy a b) (C := mNm a) (T := mFT a) (N := mFN a) (own := mNm row.1) (ref := mNm a) hx hb hts (mU_in ha) (mFy a) (mTy_ok ha) (mNn_ok ha) hown hE.1 hP (mW_D G D) hS i (fs := fs.map (mV G)) (mW_at hDi) (mCl_ok ha) b hbN (hts _ (mTb_gw hw hg)) (fun x hx => by rw [he] at hx; exact hx) hfin (hini hnm) hdc (mTy_ok ha b hbN) f1 f2 hl9 hd kk
    · simp only [mLck, Bool.and_eq_true, decide_eq_true_eq] at hck
      obtain ⟨⟨⟨hg, ha⟩, hb5⟩, he⟩ := hck
      have ha := Nat.blt_eq.mp ha
      rcases hfin with hfin | ⟨hfin, hkz, hnm, hdc⟩
      · exact va_putN (D := G.2.2.1) (cl := vwCl) (tys := mTys G) (ci := a) (v := mV G v) (ty := mFy a b) (C := mNm a) (T := mFT a) (N := mFN a) (own := mNm row.1) (ref := mNm a) (host := "EnvyRust") hx hb hts (mU_in ha) (mFy a) (mTy_ok ha) (mNn_ok ha) hown hE.1 hP (mW_D G D) hS i (fs := fs.map (mV G)) (mW_at hDi) (mCl_ok ha) b hbN (va_Nw.use rfl (hE.2.1 _ (mTb_nw hw hg))) (fun x hx => by rw [he] at hx; exact hx) hfin (mTy_ok ha b hbN) f1 f2 hl9 hd kk
      · cases hkz
  · cases h
end MHR
end
section
/-! ===== arrays, constants, new cells ===== -/
theorem mV_ref (G : mG) (i : Nat) : mV G (.ref i) = .ref (mAd G i) := rfl
theorem mAd_tx (G : mG) (b : Nat) : mAd G (1000000 + b) = G.2.1 b := by
  unfold mAd
  rw [if_neg (by omega), Nat.add_sub_cancel_left]
theorem mTys_at (G : mG) (t : Nat) (h : t ≤ 4) : ∃ ty, (mTys G)[t]? = some (G.2.2.2.1 t, ty) := by
  rcases (by omega : t = 0 ∨ t = 1 ∨ t = 2 ∨ t = 3 ∨ t = 4) with rfl | rfl | rfl | rfl | rfl <;> exact ⟨_, rfl⟩
section MAR
variable {p : Program} {l : Launch} {e : Env} {R : Room} {s : State} {m : MethodId} {args : Array Value} {below : List Frame} {meth : Method} {c : Code} {Q : State → Prop} {G : mG} {row : mRow} {d0 s0 : Nat} {pc : Nat} {L : mLoc} {st : List Value} {D : mHp} {q : Nat × mLoc × List Value × mHp} {j a b : Nat} {z : Int} {idx : Nat}
theorem r_getstatic (C : mCx p R s m args meth c G row d0) {kind : Nat} (hk : Nat.beq kind 7 = true) (hL0 : mLT[j]? = some (row.1, idx, kind, a, b, z)) (hd : decode row.2.2.1 pc = .ok (.getstatic idx, 3))
    (h : mNx (pc + 3) L (.ref 1000100 :: st) D = some (.inl q)) (k : mK p l e R s m args below meth c Q G row.2.2.2.1 d0 s0 q.1 q.2.1 q.2.2.1 q.2.2.2) : mK p l e R s m args below meth c Q G row.2.2.2.1 d0 s0 pc L st D := by
  intro ls H locs cells slots hL hP hS hc hs
  obtain ⟨hx, hb, hml, hown, hts, hE, -, -, -, -⟩ := C
  obtain rfl := mNx_eq h
  obtain ⟨hw, hck⟩ := mLT_at hL0
  have hk := Nat.eq_of_beq_eq_true hk
  subst hk
  have k1 := k ls H locs cells slots hL hP hS hc hs
  have hZ := hE.2.2.2.2.2.1
  exact va_gets (C := "EnvyRust") (n := "KIND_ABOVE") (d := "[I") (own := mNm row.1) (ref := "EnvyRust") hx hb hZ hS hown (hts _ (mTb_gw hw hck)) (fun _ h9 => h9) hd k1
theorem r_ldc (C : mCx p R s m args meth c G row d0) {kind : Nat} (hL0 : mLT[j]? = some (row.1, idx, kind, a, b, z)) (hd : decode row.2.2.1 pc = .ok (.ldc idx, 2))
    (h : (match kind with
    | 2 => mNx (pc + 2) L (.int (Int32.ofInt z) :: st) D
    | 3 => mNx (pc + 2) L (.ref (1000000 + b) :: st) D
    | _ => none) = some (.inl q)) (k : mK p l e R s m args below meth c Q G row.2.2.2.1 d0 s0 q.1 q.2.1 q.2.2.1 q.2.2.2) : mK p l e R s m args below meth c Q G row.2.2.2.1 d0 s0 pc L st D := by
  intro ls H locs cells slots hL hP hS hc hs
  obtain ⟨hx, hb, hml, hown, hts, hE, -, -, -, -⟩ := C
  obtain ⟨hw, hck⟩ := mLT_at hL0
  split at h
  · obtain rfl := mNx_eq h
    exact lv_ldc hx hb hown (hts _ (mTb_gw hw hck)) hd (k ls H locs cells slots hL hP hS hc hs)
  · obtain rfl := mNx_eq h
    have k1 := k ls H locs cells slots hL hP hS hc hs
    simp only [List.map_cons, mV_ref, mAd_tx] at k1
    have hZ := hE.2.2.2.2.1 _ (List.mem_of_getElem? hL0) rfl
    exact va_ldcS hx hb hown hZ hd k1
  · cases h
theorem m_ldcSw {cc : ByteArray} {ls : Array Slot} {rest : List Value} {H : Heap} {locs : List Loc} {cells slots : Nat} (hexec : p.tables.exec = Jvm.exec) (hb : c.code = cc) {own tx : String} {index q : Nat} (hown : s.vm.findClass own = some m.cls) (hZ : vk_R own index tx q s) (hdg : decode cc pc = .ok (.ldc_w index, 3))
    (k : W p l e R s m args below meth c H locs cells slots Q (F0 m (pc + 3) ls (.ref q :: rest))) : W p l e R s m args below meth c H locs cells slots Q (F0 m pc ls rest) := by
  intro T hT X
  obtain ⟨t, a1, b1⟩ := k T hT X
  exact ⟨t, X.ldcStringW hexec hown (text := tx) (a := q) hZ.1 hZ.2 (g := F0 m pc ls rest) rfl (by rw [hb]; exact hdg) t a1, b1⟩
theorem r_ldc_w (C : mCx p R s m args meth c G row d0) {kind : Nat} (hL0 : mLT[j]? = some (row.1, idx, kind, a, b, z)) (hd : decode row.2.2.1 pc = .ok (.ldc_w idx, 3))
    (h : (match kind with
    | 2 => mNx (pc + 3) L (.int (Int32.ofInt z) :: st) D
    | 3 => mNx (pc + 3) L (.ref (1000000 + b) :: st) D
    | _ => none) = some (.inl q)) (k : mK p l e R s m args below meth c Q G row.2.2.2.1 d0 s0 q.1 q.2.1 q.2.2.1 q.2.2.2) : mK p l e R s m args below meth c Q G row.2.2.2.1 d0 s0 pc L st D := by
  intro ls H locs cells slots hL hP hS hc hs
  obtain ⟨hx, hb, hml, hown, hts, hE, -, -, -, -⟩ := C
  obtain ⟨hw, hck⟩ := mLT_at hL0
  split at h
  · obtain rfl := mNx_eq h
    exact lv_ldcw hx hb hown (hts _ (mTb_gw hw hck)) hd (k ls H locs cells slots hL hP hS hc hs)
  · obtain rfl := mNx_eq h
    have k1 := k ls H locs cells slots hL hP hS hc hs
    simp only [List.map_cons, mV_ref, mAd_tx] at k1
    have hZ := hE.2.2.2.2.1 _ (List.mem_of_getElem? hL0) rfl
    exact m_ldcSw hx hb hown hZ hd k1
  · cases h
theorem mLd_eq {X : mSc} {t : Nat} {i : Nat} {j : Int32} {v : Value} (h : mLd X t D i j = some v) :
    (∃ (n : Nat) (f : Nat → Int32), D[i]? = some (.inl (t, n, .inl f)) ∧ vp_in j n ∧ v = .int (f j.toNatClampNeg)) ∨ (t = 0 ∧ ∃ (n : Nat) (f : Nat → Int32), mRo X i = some (n, f) ∧ vp_in j n ∧ v = .int (f j.toNatClampNeg)) := by
  unfold mLd at h
  split at h
  · rename_i t' n f hD
    obtain ⟨h1, h2⟩ := mCond_eq h
    rw [Bool.and_eq_true] at h1
    rw [Nat.eq_of_beq_eq_true h1.1] at hD
    exact Or.inl ⟨n, f, hD, mOut_in h1.2, (Option.some.inj h2).symm⟩
  · cases h
  · obtain ⟨h1, h2⟩ := mCond_eq h
    split at h2
    · rename_i n f hR
      obtain ⟨h3, h4⟩ := mCond_eq h2
      exact Or.inr ⟨Nat.eq_of_beq_eq_true h1, n, f, hR, mOut_in h3, (Option.some.inj h4).symm⟩
    · cases h2
theorem mRo_eq {X : mSc} {i n : Nat} {f : Nat → Int32} (h : mRo X i = some (n, f)) : (i = 1000100 ∧ n = 7 ∧ f = mKA) ∨ (i = 1000200 ∧ (n, f) = X) := by
  unfold mRo at h
  cases h1 : Nat.beq i 1000100 with
  | true =>
    rw [h1] at h
    cases h
    exact Or.inl ⟨Nat.eq_of_beq_eq_true h1, rfl, rfl⟩
  | false =>
    rw [h1] at h
    obtain ⟨h2, h3⟩ := mCond_eq h
    exact Or.inr ⟨Nat.eq_of_beq_eq_true h2, (Option.some.inj h3).symm⟩
theorem mRo_T {X : mSc} {i n : Nat} {f : Nat → Int32} (hG : G.2.2.2.2 = X) (hE : mE G s s.heap) (h : mRo X i = some (n, f)) : va_T .int (mAd G i) n (fun j => .int (f j)) (mA G) s s.heap := by
  rcases mRo_eq h with ⟨rfl, rfl, rfl⟩ | ⟨rfl, h9⟩
  · exact hE.2.2.2.2.2.2.1
  · rw [← hG] at h9
    have e1 : n = G.2.2.2.2.1 := congrArg Prod.fst h9
    have e2 : f = G.2.2.2.2.2 := congrArg Prod.snd h9
    rw [e1, e2]
    exact hE.2.2.2.2.2.2.2.1
theorem r_iaload {X : mSc} (hG : G.2.2.2.2 = X) (C : mCx p R s m args meth c G row d0) (hlim : D.length ≤ 1000000) (hd : decode row.2.2.1 pc = .ok (.iaload, 1))
    (h : (match st with
    | .int j :: .ref i :: r => (mLd X 0 D i j).bind fun v => mNx (pc + 1) L (v :: r) D
    | _ => none) = some (.inl q)) (k : mK p l e R s m args below meth c Q G row.2.2.2.1 d0 s0 q.1 q.2.1 q.2.2.1 q.2.2.2) : mK p l e R s m args below meth c Q G row.2.2.2.1 d0 s0 pc L st D := by
  intro ls H locs cells slots hL hP hS hc hs
  obtain ⟨hx, hb, hml, hown, hts, hE, -, -, -, -⟩ := C
  split at h
  · rename_i j i r
    obtain ⟨v, h1, h2⟩ := mBind_eq h
    obtain rfl := mNx_eq h2
    have k1 := k ls H locs cells slots hL hP hS hc hs
    show W p l e R s m args below meth c H locs cells slots Q (F0 m pc ls (.int j :: .ref (mAd G i) :: r.map (mV G)))
    rcases mLd_eq h1 with ⟨n, f, hD, hin, rfl⟩ | ⟨-, n, f, hR, hin, rfl⟩
    · rw [mAd_lt (Nat.lt_of_lt_of_le (mLt_of hD) hlim)]
      exact va_iald (tys := mTys G) hx hb hE.1 hP i 0 (mW_at hD) rfl hin hd k1
    · exact va_ti hx hb (mRo_T hG hE hR) hS hin rfl hd k1
  · cases h
theorem r_baload {X : mSc} (C : mCx p R s m args meth c G row d0) (hlim : D.length ≤ 1000000) (hd : decode row.2.2.1 pc = .ok (.baload, 1))
    (h : (match st with
    | .int j :: .ref i :: r => (mLd X 1 D i j).bind fun v => mNx (pc + 1) L (v :: r) D
    | _ => none) = some (.inl q)) (k : mK p l e R s m args below meth c Q G row.2.2.2.1 d0 s0 q.1 q.2.1 q.2.2.1 q.2.2.2) : mK p l e R s m args below meth c Q G row.2.2.2.1 d0 s0 pc L st D := by
  intro ls H locs cells slots hL hP hS hc hs
  obtain ⟨hx, hb, hml, hown, hts, hE, -, -, -, -⟩ := C
  split at h
  · rename_i j i r
    obtain ⟨v, h1, h2⟩ := mBind_eq h
    obtain rfl := mNx_eq h2
    have k1 := k ls H locs cells slots hL hP hS hc hs
    show W p l e R s m args below meth c H locs cells slots Q (F0 m pc ls (.int j :: .ref (mAd G i) :: r.map (mV G)))
    rcases mLd_eq h1 with ⟨n, f, hD, hin, rfl⟩ | ⟨h0, -⟩
    · rw [mAd_lt (Nat.lt_of_lt_of_le (mLt_of hD) hlim)]
      exact va_bald (tys := mTys G) hx hb hE.1 hP i 1 (mW_at hD) rfl hin hd k1
    · cases h0
  · cases h
theorem mLdq_eq {i : Nat} {j : Int32} {v : Value} (h : mLdq D i j = some v) : ∃ (t n : Nat) (f : Nat → Option Nat), D[i]? = some (.inl (t, n, .inr (.inr (.inr (.inr f))))) ∧ 2 ≤ t ∧ t ≤ 4 ∧ vp_in j n ∧ v = va_rf (f j.toNatClampNeg) := by
  unfold mLdq at h
  split at h
  · rename_i t n f hD
    obtain ⟨h1, h2⟩ := mCond_eq h
    simp only [Bool.and_eq_true] at h1
    exact ⟨t, n, f, hD, Nat.le_of_ble_eq_true h1.1.1, Nat.le_of_ble_eq_true h1.1.2, mOut_in h1.2, (Option.some.inj h2).symm⟩
  · cases h
theorem r_aaload (C : mCx p R s m args meth c G row d0) (hlim : D.length ≤ 1000000) (hd : decode row.2.2.1 pc = .ok (.aaload, 1))
    (h : (match st with
    | .int j :: .ref i :: r => (mLdq D i j).bind fun v => mNx (pc + 1) L (v :: r) D
    | _ => none) = some (.inl q)) (k : mK p l e R s m args below meth c Q G row.2.2.2.1 d0 s0 q.1 q.2.1 q.2.2.1 q.2.2.2) : mK p l e R s m args below meth c Q G row.2.2.2.1 d0 s0 pc L st D := by
  intro ls H locs cells slots hL hP hS hc hs
  obtain ⟨hx, hb, hml, hown, hts, hE, -, -, -, -⟩ := C
  split at h
  · rename_i j i r
    obtain ⟨v, h1, h2⟩ := mBind_eq h
    obtain rfl := mNx_eq h2
    obtain ⟨t, n, f, hD, ht2, ht4, hin, rfl⟩ := mLdq_eq h1
    have k1 : W p l e R s m args below meth c H locs cells slots Q (F0 m (pc + 1) ls (mV G (va_rf (f j.toNatClampNeg)) :: r.map (mV G))) := k ls H locs cells slots hL hP hS hc hs
    rw [mV_rf] at k1
    show W p l e R s m args below meth c H locs cells slots Q (F0 m pc ls (.int j :: .ref (mAd G i) :: r.map (mV G)))
    rw [mAd_lt (Nat.lt_of_lt_of_le (mLt_of hD) hlim)]
    have hlt : j.toNatClampNeg < n := Nat.not_le.mp fun w => hin (Or.inr w)
    obtain ⟨ty, hty, hr⟩ : ∃ ty, (mTys G)[t]? = some (G.2.2.2.1 t, ty) ∧ ty.isReference = true := by
      rcases (by omega : t = 2 ∨ t = 3 ∨ t = 4) with rfl | rfl | rfl
      · exact ⟨_, rfl, rfl⟩
      · exact ⟨_, rfl, rfl⟩
      · exact ⟨_, rfl, rfl⟩
    have hcell : H[G.1 + i]? = some (arrV (G.2.2.2.1 t) n (fun j => va_rf ((f j).map (mAd G)))) := hP i _ (mW_at hD)
    exact W.aald (v := va_rf ((f j.toNatClampNeg).map (mAd G))) (ty := ty) hx hb hcell ((hE.1.2 t _ hty).1 n (fun j => va_rf ((f j).map (mAd G)))) hr (fun w => by cases w) (by show ¬ (j < 0 ∨ (arrV _ _ _).slots.size ≤ _); rw [arrV_size]; exact hin) (by show (arrV _ _ _).slots[_]? = _; rw [arrV_read _ _ hlt]) rfl rfl hd k1
  · cases h
theorem mStI_eq {t : Nat} {D1 : mHp} {i : Nat} {j x : Int32} (h : mStI t D i j x = some D1) : ∃ (n : Nat) (f : Nat → Int32), D[i]? = some (.inl (t, n, .inl f)) ∧ vp_in j n ∧ D1 = D.set i (.inl (t, n, .inl (upd f j.toNatClampNeg (mNar t x)))) := by
  unfold mStI at h
  split at h
  · rename_i t' n f hD
    obtain ⟨h1, h2⟩ := mCond_eq h
    rw [Bool.and_eq_true] at h1
    have e := Nat.eq_of_beq_eq_true h1.1
    subst e
    exact ⟨n, f, hD, mOut_in h1.2, (Option.some.inj h2).symm⟩
  · cases h
theorem mSet_W {ls : Array Slot} {locs1 : List Loc} {H1 : Heap} {cells slots : Nat} {pc' : Nat} {r : List Value} {i : Nat} {c0 c1 : va_E} (hD : D[i]? = some c0) (hz : mSz c1 = mSz c0) (hL : mLR G ls row.2.2.2.1 L) (hc : cells + d0 = D.length) (hs : slots + s0 = mSl D) (k : mK p l e R s m args below meth c Q G row.2.2.2.1 d0 s0 pc' L r (D.set i c1))
    (hP1 : va_P G.2.2.1 vwCl ((mW G 0 D).set i (G.1 + i, mCE G c1)) H1) (hS1 : va_S (mA G) s.heap H1 locs1) : W p l e R s m args below meth c H1 locs1 cells slots Q (F0 m pc' ls (r.map (mV G))) := by
  refine k ls H1 locs1 cells slots hL ?_ hS1 (by rw [hc]; exact List.length_set.symm) (by rw [hs]; exact (mSl_set hD hz).symm)
  show va_P G.2.2.1 vwCl (mW G 0 (D.set i c1)) H1
  rw [mW_set0]
  exact hP1
theorem r_iastore (C : mCx p R s m args meth c G row d0) (hlim : D.length ≤ 1000000) (hd : decode row.2.2.1 pc = .ok (.iastore, 1))
    (h : (match st with
    | .int x :: .int j :: .ref i :: r => (mStI 0 D i j x).bind fun D1 => mNx (pc + 1) L r D1
    | _ => none) = some (.inl q)) (k : mK p l e R s m args below meth c Q G row.2.2.2.1 d0 s0 q.1 q.2.1 q.2.2.1 q.2.2.2) : mK p l e R s m args below meth c Q G row.2.2.2.1 d0 s0 pc L st D := by
  intro ls H locs cells slots hL hP hS hc hs
  obtain ⟨hx, hb, hml, hown, hts, hE, -, -, -, -⟩ := C
  split at h
  · rename_i x j i r
    obtain ⟨D1, h1, h2⟩ := mBind_eq h
    obtain rfl := mNx_eq h2
    obtain ⟨n, f, hD, hin, rfl⟩ := mStI_eq h1
    show W p l e R s m args below meth c H locs cells slots Q (F0 m pc ls (.int x :: .int j :: .ref (mAd G i) :: r.map (mV G)))
    rw [mAd_lt (Nat.lt_of_lt_of_le (mLt_of hD) hlim)]
    exact va_iast (tys := mTys G) hx hb hE.1 hP (mW_D G D) hS i 0 (mW_at hD) rfl hin hd (fun H1 locs1 hP1 _ hS1 => mSet_W (c1 := .inl (0, n, .inl (upd f j.toNatClampNeg (mNar 0 x)))) hD rfl hL hc hs k hP1 hS1)
  · cases h
theorem r_bastore (C : mCx p R s m args meth c G row d0) (hlim : D.length ≤ 1000000) (hd : decode row.2.2.1 pc = .ok (.bastore, 1))
    (h : (match st with
    | .int x :: .int j :: .ref i :: r => (mStI 1 D i j x).bind fun D1 => mNx (pc + 1) L r D1
    | _ => none) = some (.inl q)) (k : mK p l e R s m args below meth c Q G row.2.2.2.1 d0 s0 q.1 q.2.1 q.2.2.1 q.2.2.2) : mK p l e R s m args below meth c Q G row.2.2.2.1 d0 s0 pc L st D := by
  intro ls H locs cells slots hL hP hS hc hs
  obtain ⟨hx, hb, hml, hown, hts, hE, -, -, -, -⟩ := C
  split at h
  · rename_i x j i r
    obtain ⟨D1, h1, h2⟩ := mBind_eq h
    obtain rfl := mNx_eq h2
    obtain ⟨n, f, hD, hin, rfl⟩ := mStI_eq h1
    show W p l e R s m args below meth c H locs cells slots Q (F0 m pc ls (.int x :: .int j :: .ref (mAd G i) :: r.map (mV G)))
    rw [mAd_lt (Nat.lt_of_lt_of_le (mLt_of hD) hlim)]
    exact va_bast (tys := mTys G) hx hb hE.1 hP (mW_D G D) hS i 1 (mW_at hD) rfl hin hd (fun H1 locs1 hP1 _ hS1 => mSet_W (c1 := .inl (1, n, .inl (upd f j.toNatClampNeg (mNar 1 x)))) hD rfl hL hc hs k hP1 hS1)
  · cases h
theorem mStQ_eq {D1 : mHp} {i v : Nat} {j : Int32} (h : mStQ D i j v = some D1) : ∃ (t n : Nat) (f : Nat → Option Nat), D[i]? = some (.inl (t, n, .inr (.inr (.inr (.inr f))))) ∧ mAk D t v = true ∧ vp_in j n ∧ D1 = D.set i (.inl (t, n, .inr (.inr (.inr (.inr (va_up f j.toNatClampNeg (some v))))))) := by
  unfold mStQ at h
  split at h
  · rename_i t n f hD
    obtain ⟨h1, h2⟩ := mCond_eq h
    rw [Bool.and_eq_true] at h1
    exact ⟨t, n, f, hD, h1.1, mOut_in h1.2, (Option.some.inj h2).symm⟩
  · cases h
theorem mAk_eq {t v : Nat} (h : mAk D t v = true) : (t = 2 ∧ ∃ fs : List Value, D[v]? = some (.inr (0, fs))) ∨ (t = 4 ∧ 1000000 ≤ v ∧ v < 1000015) := by
  unfold mAk at h
  split at h
  · split at h
    · rename_i c fs hD
      rw [Nat.eq_of_beq_eq_true h] at hD
      exact Or.inl ⟨rfl, fs, hD⟩
    · cases h
  · rw [Bool.and_eq_true] at h
    exact Or.inr ⟨rfl, Nat.le_of_ble_eq_true h.1, Nat.blt_eq.mp h.2⟩
  · cases h
theorem mCA_up (f : Nat → Option Nat) (k v : Nat) : (fun i => (va_up f k (some v) i).map (mAd G)) = va_up (fun i => (f i).map (mAd G)) k (some (mAd G v)) := by
  funext i
  unfold va_up
  split <;> rfl
theorem r_aastore (C : mCx p R s m args meth c G row d0) (hlim : D.length ≤ 1000000) (hd : decode row.2.2.1 pc = .ok (.aastore, 1))
    (h : (match st with
    | .ref v :: .int j :: .ref i :: r => (mStQ D i j v).bind fun D1 => mNx (pc + 1) L r D1
    | _ => none) = some (.inl q)) (k : mK p l e R s m args below meth c Q G row.2.2.2.1 d0 s0 q.1 q.2.1 q.2.2.1 q.2.2.2) : mK p l e R s m args below meth c Q G row.2.2.2.1 d0 s0 pc L st D := by
  intro ls H locs cells slots hL hP hS hc hs
  obtain ⟨hx, hb, hml, hown, hts, hE, -, -, -, -⟩ := C
  split at h
  · rename_i v j i r
    obtain ⟨D1, h1, h2⟩ := mBind_eq h
    obtain rfl := mNx_eq h2
    obtain ⟨t, n, f, hD, hak, hin, rfl⟩ := mStQ_eq h1
    show W p l e R s m args below meth c H locs cells slots Q (F0 m pc ls (.ref (mAd G v) :: .int j :: .ref (mAd G i) :: r.map (mV G)))
    rw [mAd_lt (Nat.lt_of_lt_of_le (mLt_of hD) hlim)]
    have hset : ∀ (H1 : Heap) (locs1 : List Loc), va_P G.2.2.1 vwCl ((mW G 0 D).set i (G.1 + i, .inl (G.2.2.2.1 t, n, .inr (.inr (.inr (.inr (va_up (fun i => (f i).map (mAd G)) j.toNatClampNeg (some (mAd G v))))))))) H1 → va_S (mA G) s.heap H1 locs1 → W p l e R s m args below meth c H1 locs1 cells slots Q (F0 m (pc + 1) ls (r.map (mV G))) := by
      intro H1 locs1 hP1 hS1
      refine mSet_W (c1 := .inl (t, n, .inr (.inr (.inr (.inr (va_up f j.toNatClampNeg (some v))))))) hD rfl hL hc hs k ?_ hS1
      rw [← mCA_up] at hP1
      exact hP1
    rcases mAk_eq hak with ⟨rfl, fs, hDv⟩ | ⟨rfl, hv1, hv2⟩
    · have hv : v < 1000000 := Nat.lt_of_lt_of_le (mLt_of hDv) hlim
      rw [mAd_lt hv] at hset ⊢
      exact va_astq (tys := mTys G) (r := (mNm 0, mFT 0, mFN 0)) hx hb hE.1 hP (mW_D G D) hS i 2 v 0 (mW_at hD) rfl (mW_at hDv) (mCl_ok (by decide)) hin hd (fun H1 locs1 hP1 _ hS1 => hset H1 locs1 hP1 hS1)
    · have hO := hE.2.2.2.1 (v - 1000000) (by omega)
      have e : mAd G v = G.2.1 (v - 1000000) := by rw [mAd, if_neg (by omega)]
      obtain ⟨cell, g1, g2, g3, -⟩ := hO.1.kept hS.2.1
      obtain ⟨kC, hkC, -⟩ := Vm.findClass_spec g3
      have hAny : va_Any "java/lang/String" s H (mAd G v) := by
        rw [e]
        exact ⟨cell, g1, g2, ⟨kC, hkC⟩, fun comp hcomp => by rw [Option.some.inj (hcomp.symm.trans g3)]; exact va_asg _ _⟩
      exact va_astqM (tys := mTys G) hx hb hE.1 hP (mW_D G D) hS i 4 (mW_at hD) rfl hAny hin hd (fun H1 locs1 hP1 _ hS1 => hset H1 locs1 hP1 hS1)
  · cases h
theorem r_arraylength {X : mSc} (hG : G.2.2.2.2 = X) (C : mCx p R s m args meth c G row d0) (hlim : D.length ≤ 1000000) (hd : decode row.2.2.1 pc = .ok (.arraylength, 1))
    (h : (match st with
    | .ref i :: r => (mLen X D i).bind fun n => mNx (pc + 1) L (.int n :: r) D
    | _ => none) = some (.inl q)) (k : mK p l e R s m args below meth c Q G row.2.2.2.1 d0 s0 q.1 q.2.1 q.2.2.1 q.2.2.2) : mK p l e R s m args below meth c Q G row.2.2.2.1 d0 s0 pc L st D := by
  intro ls H locs cells slots hL hP hS hc hs
  obtain ⟨hx, hb, hml, hown, hts, hE, -, -, -, -⟩ := C
  split at h
  · rename_i i r
    obtain ⟨n, h1, h2⟩ := mBind_eq h
    obtain rfl := mNx_eq h2
    have k1 := k ls H locs cells slots hL hP hS hc hs
    show W p l e R s m args below meth c H locs cells slots Q (F0 m pc ls (.ref (mAd G i) :: r.map (mV G)))
    unfold mLen at h1
    split at h1
    · rename_i t a hD
      obtain ⟨h3, h4⟩ := mCond_eq h1
      have h3 := Nat.le_of_ble_eq_true h3
      rw [mAd_lt (Nat.lt_of_lt_of_le (mLt_of hD) hlim)]
      obtain ⟨ty, hty⟩ := mTys_at G t h3
      refine va_alen (tys := mTys G) hx hb hE.1 hP i t (mW_at hD) hty ?_ hd k1
      rw [← Option.some.inj h4]
      obtain ⟨n9, f | f | f | f | f⟩ := a <;> rfl
    · cases h1
    · obtain ⟨qq, hq1, hq2⟩ := Option.map_eq_some_iff.mp h1
      exact va_tlen hx hb (mRo_T hG hE hq1) hS hq2 hd k1
  · cases h
end MAR
end
section
/-! ===== new cells, and what the machine itself does at a call ===== -/
theorem mVr_outer (c : ClassId) (N h0 : Nat) : ∀ i : Nat, Jvm.Free.Multi.outerC c N h0 i = arrV c N (fun j => va_rf (if j < i then some (h0 + 1 + j) else none))
  | 0 => by
    show ({ cls := c, slots := Array.replicate N .null, vm := .none } : Cell) = _
    rw [arrV_new]
    refine congrArg (arrV c N) (funext fun j => ?_)
    simp [va_rf]
  | i + 1 => by
    show (Jvm.Free.Multi.outerC c N h0 i).setSlot i (.ref (h0 + 1 + i)) = _
    rw [mVr_outer c N h0 i, arrV_store]
    refine congrArg (arrV c N) (funext fun j => ?_)
    by_cases e : j = i
    · subst e
      simp [updV, va_rf]
    · by_cases h : j < i
      · simp [updV, e, h, Nat.lt_succ_of_lt h]
      · simp [updV, e, h, show ¬ j < i + 1 by omega]
theorem mAC_i : Cond.arrayClass .int ∈ mGW := mTb_gw (by decide +kernel) rfl
theorem mAC_b : Cond.arrayClass .byte ∈ mGW := mTb_gw (by decide +kernel) rfl
theorem mOI_i : Cond.instanceMethod Lib.objectInit ∈ mGW := mTb_gw (by decide +kernel) (by decide +kernel)
theorem mOI_c : Cond.code Lib.objectInit ⟨#[0xb1]⟩ 1 none ∈ mGW := mTb_gw (by decide +kernel) (by decide +kernel)
theorem mCP_n : Cond.native arraycopyName ∈ mGW := mTb_gw (by decide +kernel) (by decide +kernel)
theorem mCP_s : Cond.static arraycopyName ∈ mGW := mTb_gw (by decide +kernel) (by decide +kernel)
theorem mCP_i : Cond.initialized "java/lang/System" ∈ mGW := mTb_gw (by decide +kernel) (by decide +kernel)
theorem mMM_i : Cond.initialized "java/lang/Math" ∈ mGW := mTb_gw (by decide +kernel) (by decide +kernel)
theorem mMX_s : Cond.static Lib.Math.max.name ∈ mGW := mTb_gw (by decide +kernel) (by decide +kernel)
theorem mMX_c : Cond.code Lib.Math.max.name Lib.Math.max.code 2 (some .int) ∈ mGW := mTb_gw (by decide +kernel) (by decide +kernel)
theorem mMN_s : Cond.static Lib.Math.min.name ∈ mGW := mTb_gw (by decide +kernel) (by decide +kernel)
theorem mMN_c : Cond.code Lib.Math.min.name Lib.Math.min.code 2 (some .int) ∈ mGW := mTb_gw (by decide +kernel) (by decide +kernel)
theorem mNW_w : nativeFrameWords "java/lang/System" "arraycopy" 5 ≤ 11 := by decide +kernel
section MMK
variable {p : Program} {l : Launch} {e : Env} {R : Room} {s : State} {m : MethodId} {args : Array Value} {below : List Frame} {meth : Method} {c : Code} {Q : State → Prop} {G : mG} {row : mRow} {d0 s0 : Nat} {pc : Nat} {L : mLoc} {st : List Value} {D : mHp} {q : Nat × mLoc × List Value × mHp} {j a b : Nat} {z : Int} {idx : Nat} {H H1 : Heap} {locs : List Loc} {cells slots : Nat}
theorem mSized {g : JFrame} (hz : s.heap.size = G.1 + d0) (hP : mMS G D H) (hS : va_S (mA G) s.heap H locs) (hc : cells + d0 = D.length) (k : H.size = G.1 + D.length → W p l e R s m args below meth c H locs cells slots Q g) : W p l e R s m args below meth c H locs cells slots Q g := by
  intro T hT X
  have h1 := X.heapSize
  rw [hT] at h1
  have h2 := hP.low (by have := hS.1; omega)
  exact k (by omega) T hT X
theorem mPushL {E : mHp} (hP : mMS G D H) (hz : H.size = G.1 + D.length) (o1 : ∀ q : Nat, q < H.size → H1[q]? = H[q]?) (hE : ∀ (k : Nat) (c : va_E), E[k]? = some c → va_at G.2.2.1 vwCl (H.size + k, mCE G c) H1) : mMS G (D ++ E) H1 := by
  show va_P G.2.2.1 vwCl (mW G 0 (D ++ E)) H1
  rw [mW_app]
  refine (hP.kept (fun k x hx => o1 x.1 ((hP k x hx).lt))).app (fun k x hx => ?_)
  rw [mW_get] at hx
  obtain ⟨c, hc, rfl⟩ := Option.map_eq_some_iff.mp hx
  have := hE k c hc
  rwa [hz, show G.1 + D.length + k = G.1 + (0 + D.length + k) by omega] at this
theorem mPushS (hS : va_S (mA G) s.heap H locs) (z1 : H.size ≤ H1.size) (o1 : ∀ q : Nat, q < H.size → H1[q]? = H[q]?) : va_S (mA G) s.heap H1 locs :=
  ⟨Nat.le_trans hS.1 z1, fun x h1 h2 => (o1 x (Nat.lt_of_lt_of_le h1 hS.1)).trans (hS.2.1 x h1 h2), hS.2.2⟩
theorem mAt1 {x : va_E} (h : va_at G.2.2.1 vwCl (H.size, mCE G x) H1) : ∀ (k : Nat) (c : va_E), ([x] : mHp)[k]? = some c → va_at G.2.2.1 vwCl (H.size + k, mCE G c) H1 := by
  intro k c hk
  cases k with
  | zero => simp only [List.getElem?_cons_zero, Option.some.injEq] at hk; subst hk; exact h
  | succ k => simp at hk
theorem r_new (C : mCx p R s m args meth c G row d0) (hlim : D.length + 1 ≤ 1000000) (hrc : D.length + 1 ≤ R.cells + d0) (hrs : mSl (D ++ [.inr (a, mDf a)]) ≤ R.slots + s0) {kind : Nat} (hk : Nat.beq kind 4 = true) (hL0 : mLT[j]? = some (row.1, idx, kind, a, b, z)) (hd : decode row.2.2.1 pc = .ok (.new idx, 3))
    (h : mNx (pc + 3) L (.ref D.length :: st) (D ++ [.inr (a, mDf a)]) = some (.inl q)) (k : mK p l e R s m args below meth c Q G row.2.2.2.1 d0 s0 q.1 q.2.1 q.2.2.1 q.2.2.2) : mK p l e R s m args below meth c Q G row.2.2.2.1 d0 s0 pc L st D := by
  intro ls H locs cells slots hL hP hS hc hs
  obtain ⟨hx, hb, hml, hown, hts, hE, -, hz, -, -⟩ := C
  obtain rfl := mNx_eq h
  obtain ⟨hw, hck⟩ := mLT_at hL0
  have hk := Nat.eq_of_beq_eq_true hk
  subst hk
  simp only [mLck, Bool.and_eq_true] at hck
  obtain ⟨hg, ha⟩ := hck
  have ha := Nat.blt_eq.mp ha
  refine mSized hz hP hS hc fun hH => ?_
  have hKn := hE.1.1 a _ (mCl_ok ha)
  rw [mSl_app] at hrs
  have hsz : mSl ([.inr (a, mDf a)] : mHp) = mFN a := by
    show (mDf a).length + 0 = _
    rw [(mDf_ok ha).1]; rfl
  refine W.newcK (own := mNm row.1) (C := mNm a) (n := mFN a) hx hb hown (hts _ (mTb_gw hw hg)) (hts _ (mNI_in ha).1) (hts _ (mNI_in ha).2) rfl hd (by omega) (by omega) hKn.2.1 rfl fun H1 kC hkC e1 z1 o1 => ?_
  have hD1 : mMS G (D ++ [.inr (a, mDf a)]) H1 := mPushL hP hH o1 (mAt1 ⟨_, mCl_ok ha, (u_born (mFy a) hts (mU_in ha) hKn hkC e1 (mTy_ok ha)).to (fun k hk => by
    show _ = vp_V ((mDf a).map (mV G)) k
    rw [mDf_mV ha]
    exact (mDf_ok ha).2 k hk)⟩)
  have k1 := k ls H1 locs (cells + 1) (slots + mFN a) hL hD1 (mPushS hS (by omega) o1) (by simp; omega) (by rw [mSl_app, hsz]; omega)
  simp only [List.map_cons, mV_ref, mAd_lt (G := G) (i := D.length) (by omega)] at k1
  rw [hH]
  exact k1
theorem r_newa {t : Nat} {at_ : ArrayType} (hta : (t = 0 ∧ at_ = .int) ∨ (t = 1 ∧ at_ = .byte)) (C : mCx p R s m args meth c G row d0) (hlim : q.2.2.2.length ≤ 1000000) (hrc : q.2.2.2.length ≤ R.cells + d0) (hrs : mSl q.2.2.2 ≤ R.slots + s0) (hd : decode row.2.2.1 pc = .ok (.newarray at_, 2))
    (h : (match st with
    | .int n :: r => if n < 0 ∨ 1000 < n.toNatClampNeg then none else mNx (pc + 2) L (.ref D.length :: r) (D ++ [.inl (t, n.toNatClampNeg, .inl (fun _ => 0))])
    | _ => none) = some (.inl q)) (k : mK p l e R s m args below meth c Q G row.2.2.2.1 d0 s0 q.1 q.2.1 q.2.2.1 q.2.2.2) : mK p l e R s m args below meth c Q G row.2.2.2.1 d0 s0 pc L st D := by
  intro ls H locs cells slots hL hP hS hc hs
  obtain ⟨hx, hb, hml, hown, hts, hE, -, hz, -, -⟩ := C
  split at h
  · rename_i n r
    split at h
    · cases h
    · rename_i hn
      obtain rfl := mNx_eq h
      have hn0 : ¬ n < 0 := fun w => hn (Or.inl w)
      have hn1 : n.toNatClampNeg ≤ 1000 := Nat.le_of_not_lt fun w => hn (Or.inr w)
      simp only [List.length_append, List.length_singleton, mSl_app] at hlim hrc hrs
      have hsz : mSl ([.inl (t, n.toNatClampNeg, .inl (fun _ => 0))] : mHp) = n.toNatClampNeg := rfl
      refine mSized hz hP hS hc fun hH => ?_
      rcases hta with ⟨rfl, rfl⟩ | ⟨rfl, rfl⟩
      · refine va_newaK (atype := .int) hx hb (hts _ mAC_i) rfl hd rfl hn0 rfl (by show n.toNatClampNeg * 4 ≤ _; omega) (by omega) (by omega) rfl fun H1 cA e1 z1 o1 hAr hNm => ?_
        have hcA : cA = G.2.2.2.1 0 := Option.some.inj (hNm.symm.trans (hE.1.2 0 _ rfl).2)
        subst hcA
        have hD1 := mPushL (E := [.inl (0, n.toNatClampNeg, .inl (fun _ => 0))]) hP hH o1 (mAt1 e1)
        have k1 := k ls H1 locs (cells + 1) (slots + n.toNatClampNeg) hL hD1 (mPushS hS (by omega) o1) (by simp; omega) (by rw [mSl_app, hsz]; omega)
        simp only [List.map_cons, mV_ref, mAd_lt (G := G) (i := D.length) (by omega)] at k1
        rw [hH]
        exact k1
      · refine va_newaK (atype := .byte) hx hb (hts _ mAC_b) rfl hd rfl hn0 rfl (by show n.toNatClampNeg * 1 ≤ _; omega) (by omega) (by omega) rfl fun H1 cA e1 z1 o1 hAr hNm => ?_
        have hcA : cA = G.2.2.2.1 1 := Option.some.inj (hNm.symm.trans (hE.1.2 1 _ rfl).2)
        subst hcA
        have hD1 := mPushL (E := [.inl (1, n.toNatClampNeg, .inl (fun _ => 0))]) hP hH o1 (mAt1 e1)
        have k1 := k ls H1 locs (cells + 1) (slots + n.toNatClampNeg) hL hD1 (mPushS hS (by omega) o1) (by simp; omega) (by rw [mSl_app, hsz]; omega)
        simp only [List.map_cons, mV_ref, mAd_lt (G := G) (i := D.length) (by omega)] at k1
        rw [hH]
        exact k1
  · cases h
theorem r_anewa (C : mCx p R s m args meth c G row d0) (hlim : q.2.2.2.length ≤ 1000000) (hrc : q.2.2.2.length ≤ R.cells + d0) (hrs : mSl q.2.2.2 ≤ R.slots + s0) {kind : Nat} (hk : Nat.beq kind 5 = true) (hL0 : mLT[j]? = some (row.1, idx, kind, a, b, z)) (hd : decode row.2.2.1 pc = .ok (.anewarray idx, 3))
    (h : (match st with
    | .int n :: r => if n < 0 ∨ 1000 < n.toNatClampNeg then none else mNx (pc + 3) L (.ref D.length :: r) (D ++ [.inl (a, n.toNatClampNeg, .inr (.inr (.inr (.inr (fun _ => none)))))])
    | _ => none) = some (.inl q)) (k : mK p l e R s m args below meth c Q G row.2.2.2.1 d0 s0 q.1 q.2.1 q.2.2.1 q.2.2.2) : mK p l e R s m args below meth c Q G row.2.2.2.1 d0 s0 pc L st D := by
  intro ls H locs cells slots hL hP hS hc hs
  obtain ⟨hx, hb, hml, hown, hts, hE, -, hz, -, -⟩ := C
  obtain ⟨hw, hck⟩ := mLT_at hL0
  have hk := Nat.eq_of_beq_eq_true hk
  subst hk
  simp only [mLck, Bool.and_eq_true, Bool.or_eq_true] at hck
  obtain ⟨hg, ha⟩ := hck
  split at h
  · rename_i n r
    split at h
    · cases h
    · rename_i hn
      obtain rfl := mNx_eq h
      have hn0 : ¬ n < 0 := fun w => hn (Or.inl w)
      have hn1 : n.toNatClampNeg ≤ 1000 := Nat.le_of_not_lt fun w => hn (Or.inr w)
      simp only [List.length_append, List.length_singleton, mSl_app] at hlim hrc hrs
      have hsz : mSl ([.inl (a, n.toNatClampNeg, .inr (.inr (.inr (.inr (fun _ => none)))))] : mHp) = n.toNatClampNeg := rfl
      refine mSized hz hP hS hc fun hH => ?_
      have key : ∀ (Cn : String), mCo a = Cn → va_AO Cn s → (mTys G)[a]? = some (G.2.2.2.1 a, .object Cn) → W p l e R s m args below meth c H locs cells slots Q (F0 m pc ls (.int n :: r.map (mV G))) := by
        intro Cn hCn hAO hTy
        have hcl : (Cond.classLink (mNm row.1) idx Cn).before args s = true := by
          have := hts _ (mTb_gw hw hg)
          rw [← hCn]
          exact this
        refine W.anew (own := mNm row.1) (C := Cn) hx hb hown hcl (va_AO.use hAO) rfl hd rfl hn0 (by omega) (by omega) (by omega) fun cA kA comp f1 f2 f3 f4 => ?_
        generalize hH1 : H.push ({ cls := cA, slots := Array.replicate n.toNatClampNeg .null, vm := .none } : Cell) = H1
        have z1 : H1.size = H.size + 1 := by rw [← hH1, Array.size_push]
        have e1 : H1[H.size]? = some (arrV cA n.toNatClampNeg (fun _ => .null)) := by rw [← hH1, Array.getElem?_push_size, ← arrV_new]
        have o1 : ∀ q : Nat, q < H.size → H1[q]? = H[q]? := fun q hq => by rw [← hH1, Array.getElem?_push, if_neg (Nat.ne_of_lt hq)]
        obtain ⟨-, -, -, -, -, hRA⟩ := (hE.1.2 a _ hTy).2
        have hcA : cA = G.2.2.2.1 a := Option.some.inj (f1.symm.trans hRA)
        subst hcA
        have hD1 := mPushL (E := [.inl (a, n.toNatClampNeg, .inr (.inr (.inr (.inr (fun _ => none)))))]) hP hH o1 (mAt1 e1)
        have k1 := k ls H1 locs (cells + 1) (slots + n.toNatClampNeg) hL hD1 (mPushS hS (by omega) o1) (by simp; omega) (by rw [mSl_app, hsz]; omega)
        simp only [List.map_cons, mV_ref, mAd_lt (G := G) (i := D.length) (by omega)] at k1
        rw [hH]
        exact k1
      rcases ha with ha | ha
      · have ha := Nat.eq_of_beq_eq_true ha
        subst ha
        exact key "EnvyRust$Sheet" rfl hE.2.2.1.1 rfl
      · have ha := Nat.eq_of_beq_eq_true ha
        subst ha
        exact key "java/lang/String" rfl hE.2.2.1.2.1 rfl
  · cases h
theorem mStr_ai : (FieldType.array FieldType.int).toString = "[" ++ FieldType.int.toString := by decide +kernel
theorem mStr_aai : "[[I" = "[" ++ (FieldType.array FieldType.int).toString := by decide +kernel
theorem r_mnewa (C : mCx p R s m args meth c G row d0) (hlim : q.2.2.2.length ≤ 1000000) (hrc : q.2.2.2.length ≤ R.cells + d0) (hrs : mSl q.2.2.2 ≤ R.slots + s0) {kind : Nat} (hk : Nat.beq kind 6 = true) (hL0 : mLT[j]? = some (row.1, idx, kind, a, b, z)) (hd : decode row.2.2.1 pc = .ok (.multianewarray idx 2, 4))
    (h : (match st with
    | .int k :: .int n :: r => if n < 0 ∨ k < 0 ∨ 1000 < n.toNatClampNeg ∨ 1000 < k.toNatClampNeg then none else mNx (pc + 4) L (.ref D.length :: r)
        (D ++ (.inl (3, n.toNatClampNeg, .inr (.inr (.inr (.inr (fun i => if i < n.toNatClampNeg then some (D.length + 1 + i) else none))))) :: List.replicate n.toNatClampNeg (.inl (0, k.toNatClampNeg, .inl (fun _ => 0)))))
    | _ => none) = some (.inl q)) (k : mK p l e R s m args below meth c Q G row.2.2.2.1 d0 s0 q.1 q.2.1 q.2.2.1 q.2.2.2) : mK p l e R s m args below meth c Q G row.2.2.2.1 d0 s0 pc L st D := by
  intro ls H locs cells slots hL hP hS hc hs
  obtain ⟨hx, hb, hml, hown, hts, hE, -, hz, -, -⟩ := C
  obtain ⟨hw, hck⟩ := mLT_at hL0
  have hk := Nat.eq_of_beq_eq_true hk
  subst hk
  split at h
  · rename_i k' n r
    split at h
    · cases h
    · rename_i hn
      obtain rfl := mNx_eq h
      have hn0 : ¬ n < 0 := fun w => hn (Or.inl w)
      have hk0 : ¬ k' < 0 := fun w => hn (Or.inr (Or.inl w))
      have hn1 : n.toNatClampNeg ≤ 1000 := Nat.le_of_not_lt fun w => hn (Or.inr (Or.inr (Or.inl w)))
      have hk1 : k'.toNatClampNeg ≤ 1000 := Nat.le_of_not_lt fun w => hn (Or.inr (Or.inr (Or.inr w)))
      have hsz : mSl ((.inl (3, n.toNatClampNeg, .inr (.inr (.inr (.inr (fun i => if i < n.toNatClampNeg then some (D.length + 1 + i) else none))))) :: List.replicate n.toNatClampNeg (.inl (0, k'.toNatClampNeg, .inl (fun _ => 0)))) : mHp) = n.toNatClampNeg + n.toNatClampNeg * k'.toNatClampNeg := by
        simp [mSl, mSz]
      simp only [List.length_append, List.length_cons, List.length_replicate, mSl_app] at hlim hrc hrs
      rw [hsz] at hrs
      refine mSized hz hP hS hc fun hH => ?_
      have hclink : (Cond.classLink (mNm row.1) idx ("[" ++ (FieldType.array FieldType.int).toString)).before args s = true := by
        have := hts _ (mTb_gw hw hck)
        rw [← mStr_aai]
        exact this
      intro T hT Xs
      obtain ⟨vm₁, cA, comp, -, fA, fC, hO, -, X', step⟩ := Xs.multianewarray2F hx hown hclink (show (Cond.arrayOver (.array .int)).before args s = true from hE.2.2.1.2.2) (hts _ mAC_i) (g := F0 m pc ls (.int k' :: .int n :: r.map (mV G))) rfl (by rw [hb]; exact hd) rfl hn0 hk0 (by omega) (by show k'.toNatClampNeg * 4 ≤ _; omega) (by omega) rfl rfl (by omega) (by omega)
      have hcA : cA = G.2.2.2.1 3 := Option.some.inj (fA.symm.trans (hE.1.2 3 _ rfl).2)
      have hcm : comp = G.2.2.2.1 0 := Option.some.inj (fC.symm.trans (by rw [mStr_ai]; exact (hE.1.2 0 _ rfl).2))
      subst hcA
      subst hcm
      generalize hF : Jvm.Free.Multi.fill (T.setVm vm₁) (G.2.2.2.1 3) (G.2.2.2.1 0) n.toNatClampNeg k'.toNatClampNeg (defaultValue FieldType.int) n.toNatClampNeg = F at X' step
      have hTh : (T.setVm vm₁).heap = H := hT
      obtain ⟨f1, f2, -, -⟩ := Jvm.Free.Multi.fill_facts (T.setVm vm₁) (G.2.2.2.1 3) (G.2.2.2.1 0) n.toNatClampNeg k'.toNatClampNeg (defaultValue FieldType.int) n.toNatClampNeg
      rw [hF, hTh] at f1 f2
      have hold : ∀ x : Nat, x < H.size → F.heap[x]? = H[x]? := fun x hx => by
        have := Jvm.Free.Multi.fill_old (T.setVm vm₁) (G.2.2.2.1 3) (G.2.2.2.1 0) n.toNatClampNeg k'.toNatClampNeg (defaultValue FieldType.int) (a := x) (by rw [hTh]; exact hx) n.toNatClampNeg
        rw [hF, hTh] at this
        exact this
      have hrow : ∀ j : Nat, j < n.toNatClampNeg → F.heap[H.size + 1 + j]? = some (vp_cell (G.2.2.2.1 0) (k'.toNatClampNeg, .inl (fun _ => 0))) := fun j hj => by
        have := Jvm.Free.Multi.fill_inner (T.setVm vm₁) (G.2.2.2.1 3) (G.2.2.2.1 0) n.toNatClampNeg k'.toNatClampNeg (defaultValue FieldType.int) n.toNatClampNeg j hj
        rw [hF, hTh] at this
        rw [this]
        show some ({ cls := _, slots := Array.replicate _ _, vm := .none } : Cell) = _
        rw [arrV_new]
        rfl
      rw [mVr_outer] at f2
      have hD1 : mMS G (D ++ (.inl (3, n.toNatClampNeg, .inr (.inr (.inr (.inr (fun i => if i < n.toNatClampNeg then some (D.length + 1 + i) else none))))) :: List.replicate n.toNatClampNeg (.inl (0, k'.toNatClampNeg, .inl (fun _ => 0))))) F.heap := by
        refine mPushL hP hH hold fun kk cc hkk => ?_
        cases kk with
        | zero =>
          simp only [List.getElem?_cons_zero, Option.some.injEq] at hkk
          subst hkk
          show F.heap[H.size]? = some (arrV (G.2.2.2.1 3) n.toNatClampNeg (fun j => va_rf ((if j < n.toNatClampNeg then some (D.length + 1 + j) else none).map (mAd G))))
          rw [f2]
          refine congrArg (fun f => some (arrV (G.2.2.2.1 3) n.toNatClampNeg f)) (funext fun j => ?_)
          by_cases hj : j < n.toNatClampNeg
          · rw [if_pos hj, if_pos hj, hH, Option.map_some, mAd_lt (by omega)]
            show Value.ref (G.1 + D.length + 1 + j) = Value.ref (G.1 + (D.length + 1 + j))
            rw [show G.1 + D.length + 1 + j = G.1 + (D.length + 1 + j) by omega]
          · rw [if_neg hj, if_neg hj]; rfl
        | succ kk =>
          simp only [List.getElem?_cons_succ] at hkk
          rw [List.getElem?_replicate] at hkk
          split at hkk
          case isFalse => cases hkk
          rename_i hlt
          cases hkk
          have := hrow kk hlt
          rw [show H.size + 1 + kk = H.size + (kk + 1) by omega] at this
          exact this
      have k1 := k ls F.heap locs (cells + 1 + n.toNatClampNeg) (slots + n.toNatClampNeg + n.toNatClampNeg * k'.toNatClampNeg) hL hD1 (mPushS hS (by rw [f1]; omega) hold) (by simp; omega) (by rw [mSl_app, hsz]; omega)
      simp only [List.map_cons, mV_ref, mAd_lt (G := G) (i := D.length) (by omega)] at k1
      obtain ⟨t, a1, b1⟩ := k1 F rfl X'
      refine ⟨t, step t ?_, b1⟩
      have e9 : T.heap.size = G.1 + D.length := by rw [hT, hH]
      rw [e9]
      exact a1
  · cases h
end MMK
end
section
/-! ===== calls ===== -/
theorem mWt_map (G : mG) (r : List Value) : ((r.map (mV G)).map fun v => v.category).sum = mWt r := by
  unfold mWt
  rw [List.map_map]
  congr 1
  exact List.map_congr_left fun v _ => mV_cat G v
def mStrLenB : ByteArray := prog_9_method_54_code
def mStrChrB : ByteArray := prog_9_method_56_code
/-- the texts' own members: what they answer; they change nothing -/
noncomputable def mSO (l : Launch) (G : mG) : Prop :=
  (∀ t, t < 15 → Met l mStrLen (Cond.code mStrLen prog_9_method_54_code 1 (some .int) :: mGW) ({ frames := 1, cells := 0, slots := 0, locals := 20 }) (va_Pc [.ref (G.2.1 t)] (fun U => mE G U U.heap)) (fun _ st oc u => oc = .returned (some (.int (nI (mTx.getD t []).length))) ∧ u.heap = st.heap) 0 0 (fun _ => False)) ∧
  (∀ t, t < 15 → ∀ k : Int32, vp_in k (mTx.getD t []).length → Met l mStrChr (Cond.code mStrChr prog_9_method_56_code 2 (some .char) :: mGW) ({ frames := 4, cells := 0, slots := 0, locals := 100 }) (va_Pc [.ref (G.2.1 t), .int k] (fun U => mE G U U.heap)) (fun _ st oc u => oc = .returned (some (.int (nI ((mTx.getD t []).getD k.toNatClampNeg 0)))) ∧ u.heap = st.heap) 0 0 (fun _ => False))
def mPc (G : mG) (as : List Value) (D : mHp) : Array Value → State → Prop := va_Pc (as.map (mV G)) (fun U => U.heap.size = G.1 + D.length ∧ mMS G D U.heap ∧ mE G U U.heap)
def mQc (G : mG) (r : Option Value) (D' : mHp) : Array Value → State → Outcome → State → Prop := fun _ st oc t => oc = .returned (r.map (mV G)) ∧ mMS G D' t.heap ∧ va_F (mA G) st t
noncomputable def mMt (l : Launch) (G : mG) (row : mRow) (as : List Value) (D : mHp) (r : Option Value) (D' : mHp) : Prop :=
  Met l row.2.1 (Cond.code row.2.1 row.2.2.1 row.2.2.2.1 row.2.2.2.2.1 :: mGW) ({ frames := row.2.2.2.2.2.1, cells := D'.length - D.length, slots := mSl D' - mSl D, locals := row.2.2.2.2.2.2 }) (mPc G as D) (mQc G r D') (D'.length - D.length) (mSl D' - mSl D) (mA G)
theorem mStrLen_m : mMet mIdLen = some (8, mStrLen, prog_9_method_54_code, 1, some .int, 0, 0) := rfl
theorem mStrChr_m : mMet mIdChr = some (8, mStrChr, prog_9_method_56_code, 2, some .char, 0, 0) := rfl
theorem mStrLen_c : Cond.code mStrLen prog_9_method_54_code 1 (some .int) ∈ tables_1 := mM_code mStrLen_m (by decide)
theorem mStrChr_c : Cond.code mStrChr prog_9_method_56_code 2 (some .char) ∈ tables_1 := mM_code mStrChr_m (by decide)
theorem mStr_w : Cond.instanceMethod mStrLen ∈ mGW ∧ Cond.selects "java/lang/String" mStrLen mStrLen ∈ mGW ∧ Cond.instanceMethod mStrChr ∈ mGW ∧ Cond.selects "java/lang/String" mStrChr mStrChr ∈ mGW ∧ Cond.initialized "java/lang/String" ∈ mGW :=
  ⟨mTb_gw (by decide +kernel) rfl, mTb_gw (by decide +kernel) rfl, mTb_gw (by decide +kernel) rfl, mTb_gw (by decide +kernel) rfl, mTb_gw (by decide +kernel) rfl⟩
theorem mGood_c {w : Cond} (h : w ∈ tables_1) (hg : goodWord w = true) : GoodIn mGW (w :: mGW) := fun v hv => by
  rcases List.mem_cons.mp hv with rfl | hv
  · exact ⟨mTb_gw h hg, good_of_word hg⟩
  · exact mGW_good v hv
section MCL
variable {p : Program} {l : Launch} {e : Env} {R : Room} {s : State} {m : MethodId} {args : Array Value} {below : List Frame} {meth : Method} {c : Code} {Q : State → Prop} {G : mG} {row : mRow} {d0 s0 : Nat} {pc : Nat} {L : mLoc} {st : List Value} {D : mHp} {q : Nat × mLoc × List Value × mHp} {j a b : Nat} {z : Int} {idx : Nat} {H : Heap} {locs : List Loc} {cells slots : Nat} {ls : Array Slot}
theorem c_obj (C : mCx p R s m args meth c G row d0) (hr : mRm row 20 a = true) (hL0 : mLT[j]? = some (row.1, idx, 20, a, b, z)) (hd : decode row.2.2.1 pc = .ok (.invokespecial idx, 3))
    (h : (match st with
    | .ref _ :: r => cond (Nat.ble (mWt r) 8) (mNx (pc + 3) L r D) none
    | _ => none) = some (.inl q)) (k : mK p l e R s m args below meth c Q G row.2.2.2.1 d0 s0 q.1 q.2.1 q.2.2.1 q.2.2.2) : mK p l e R s m args below meth c Q G row.2.2.2.1 d0 s0 pc L st D := by
  intro ls H locs cells slots hL hP hS hc hs
  obtain ⟨hx, hb, hml, hown, hts, hE, -, hz, hfr, hlo⟩ := C
  obtain ⟨hw, hck⟩ := mLT_at hL0
  simp only [mRm, Bool.and_eq_true] at hr
  have r1 := Nat.le_of_ble_eq_true hr.1
  have r2 := Nat.le_of_ble_eq_true hr.2
  split at h
  · rename_i i r
    obtain ⟨h1, h2⟩ := mCond_eq h
    obtain rfl := mNx_eq h2
    have h1 := Nat.le_of_ble_eq_true h1
    have hwt := mWt_map G r
    refine W.objInit (a := mAd G i) (rest := r.map (mV G)) hx hb hown (hts _ (mTb_gw hw hck)) (hts _ mOI_i) (hts _ mOI_c) rfl (hL.2.1.trans hml.symm) rfl hd (by omega) (by show 2 * 0 + _ + 12 ≤ _; omega) ?_
    exact k ls H locs cells slots hL hP hS hc hs
  · cases h
theorem c_cpy (C : mCx p R s m args meth c G row d0) (hlim : D.length ≤ 1000000) (hr : mRm row 21 a = true) (hL0 : mLT[j]? = some (row.1, idx, 21, a, b, z)) (hd : decode row.2.2.1 pc = .ok (.invokestatic idx, 3))
    (h : (match st with
    | .int n :: .int dp :: .ref i1 :: .int sp :: .ref i0 :: r => match D[i0]?, D[i1]? with
      | some (.inl (t0, n0, .inl f)), some (.inl (t1, n1, .inl g)) => cond (Nat.beq t0 0 && Nat.beq t1 0 && !decide (sp < 0) && !decide (dp < 0) && !decide (n < 0) && Nat.ble (sp.toNatClampNeg + n.toNatClampNeg) n0 && Nat.ble (dp.toNatClampNeg + n.toNatClampNeg) n1 && Nat.ble (mWt r) 8)
          (mNx (pc + 3) L r (D.set i1 (.inl (t1, n1, .inl (va_cpy f g sp.toNatClampNeg dp.toNatClampNeg n.toNatClampNeg))))) none
      | _, _ => none
    | _ => none) = some (.inl q)) (k : mK p l e R s m args below meth c Q G row.2.2.2.1 d0 s0 q.1 q.2.1 q.2.2.1 q.2.2.2) : mK p l e R s m args below meth c Q G row.2.2.2.1 d0 s0 pc L st D := by
  intro ls H locs cells slots hL hP hS hc hs
  obtain ⟨hx, hb, hml, hown, hts, hE, -, hz, hfr, hlo⟩ := C
  obtain ⟨hw, hck⟩ := mLT_at hL0
  simp only [mRm, Bool.and_eq_true] at hr
  have r1 := Nat.le_of_ble_eq_true hr.1
  have r2 := Nat.le_of_ble_eq_true hr.2
  split at h
  · rename_i n dp i1 sp i0 r
    split at h
    · rename_i t0 n0 f t1 n1 g hD0 hD1
      obtain ⟨h1, h2⟩ := mCond_eq h
      obtain rfl := mNx_eq h2
      simp only [Bool.and_eq_true, Bool.not_eq_true', decide_eq_false_iff_not] at h1
      obtain ⟨⟨⟨⟨⟨⟨⟨e0, e1⟩, g1⟩, g2⟩, g3⟩, g4⟩, g5⟩, g6⟩ := h1
      have e0 := Nat.eq_of_beq_eq_true e0
      have e1 := Nat.eq_of_beq_eq_true e1
      subst e0
      subst e1
      have hwt := mWt_map G r
      have g6 := Nat.le_of_ble_eq_true g6
      have hnf := mNW_w
      show W p l e R s m args below meth c H locs cells slots Q (F0 m pc ls (.int n :: .int dp :: .ref (mAd G i1) :: .int sp :: .ref (mAd G i0) :: r.map (mV G)))
      rw [mAd_lt (Nat.lt_of_lt_of_le (mLt_of hD0) hlim), mAd_lt (Nat.lt_of_lt_of_le (mLt_of hD1) hlim)]
      exact va_copyi (tys := mTys G) (ty := .int) hx hb (hml.trans hL.2.1.symm) hown (hts _ (mTb_gw hw hck)) (hts _ mCP_n) (hts _ mCP_s) (hts _ mCP_i) hE.1 hP (mW_D G D) hS i0 i1 0 0 (mW_at hD0) (mW_at hD1) rfl rfl rfl g1 g2 g3 (Nat.le_of_ble_eq_true g4) (Nat.le_of_ble_eq_true g5) (fun _ _ => rfl) (by omega) (by omega) hd
        (fun H1 locs1 hP1 _ hS1 => mSet_W (c1 := .inl (0, n1, .inl (va_cpy f g sp.toNatClampNeg dp.toNatClampNeg n.toNatClampNeg))) hD1 rfl hL hc hs k hP1 hS1)
    · cases h
  · cases h
theorem c_max (C : mCx p R s m args meth c G row d0) (hrc : D.length ≤ R.cells + d0) (hrs : mSl D ≤ R.slots + s0) (hr : mRm row 24 a = true) (hL0 : mLT[j]? = some (row.1, idx, 24, a, b, z)) (hd : decode row.2.2.1 pc = .ok (.invokestatic idx, 3))
    (h : (match st with
    | .int y :: .int x :: r => cond (Nat.ble (mWt r) 8) (mNx (pc + 3) L (.int (if x < y then y else x) :: r) D) none
    | _ => none) = some (.inl q)) (k : mK p l e R s m args below meth c Q G row.2.2.2.1 d0 s0 q.1 q.2.1 q.2.2.1 q.2.2.2) : mK p l e R s m args below meth c Q G row.2.2.2.1 d0 s0 pc L st D := by
  intro ls H locs cells slots hL hP hS hc hs
  obtain ⟨hx, hb, hml, hown, hts, hE, -, hz, hfr, hlo⟩ := C
  obtain ⟨hw, hck⟩ := mLT_at hL0
  simp only [mRm, Bool.and_eq_true] at hr
  have r1 := Nat.le_of_ble_eq_true hr.1
  have r2 := Nat.le_of_ble_eq_true hr.2
  split at h
  · rename_i y x r
    obtain ⟨h1, h2⟩ := mCond_eq h
    obtain rfl := mNx_eq h2
    have h1 := Nat.le_of_ble_eq_true h1
    have hwt := mWt_map G r
    exact va_mmax hx hb (hml.trans hL.2.1.symm) hown (hts _ (mTb_gw hw hck)) (hts _ mMX_s) (hts _ mMM_i) (hts _ mMX_c) (by omega) (by omega) (by omega) (by omega) hd (k ls H locs cells slots hL hP hS hc hs)
  · cases h
theorem c_min (C : mCx p R s m args meth c G row d0) (hrc : D.length ≤ R.cells + d0) (hrs : mSl D ≤ R.slots + s0) (hr : mRm row 25 a = true) (hL0 : mLT[j]? = some (row.1, idx, 25, a, b, z)) (hd : decode row.2.2.1 pc = .ok (.invokestatic idx, 3))
    (h : (match st with
    | .int y :: .int x :: r => cond (Nat.ble (mWt r) 8) (mNx (pc + 3) L (.int (if y < x then y else x) :: r) D) none
    | _ => none) = some (.inl q)) (k : mK p l e R s m args below meth c Q G row.2.2.2.1 d0 s0 q.1 q.2.1 q.2.2.1 q.2.2.2) : mK p l e R s m args below meth c Q G row.2.2.2.1 d0 s0 pc L st D := by
  intro ls H locs cells slots hL hP hS hc hs
  obtain ⟨hx, hb, hml, hown, hts, hE, -, hz, hfr, hlo⟩ := C
  obtain ⟨hw, hck⟩ := mLT_at hL0
  simp only [mRm, Bool.and_eq_true] at hr
  have r1 := Nat.le_of_ble_eq_true hr.1
  have r2 := Nat.le_of_ble_eq_true hr.2
  split at h
  · rename_i y x r
    obtain ⟨h1, h2⟩ := mCond_eq h
    obtain rfl := mNx_eq h2
    have h1 := Nat.le_of_ble_eq_true h1
    have hwt := mWt_map G r
    exact va_mmin hx hb (hml.trans hL.2.1.symm) hown (hts _ (mTb_gw hw hck)) (hts _ mMN_s) (hts _ mMM_i) (hts _ mMN_c) (by omega) (by omega) (by omega) (by omega) hd (k ls H locs cells slots hL hP hS hc hs)
  · cases h
theorem m_run0 {v : Value} {st0 rest : List Value} (run : va_Run p l e R s m args below meth c H locs cells slots 0 0 (F0 m pc ls st0) rest (fun st oc t => oc = .returned (some v) ∧ t.heap = st.heap) (fun _ => False)) (k : W p l e R s m args below meth c H locs cells slots Q (F0 m (pc + 3) ls (v :: rest))) : W p l e R s m args below meth c H locs cells slots Q (F0 m pc ls st0) := by
  intro T hT X
  obtain ⟨v', st₀, t, T', L', h0, X', hL', e1, e2, ⟨hv, hh⟩, st⟩ := run T hT X
  cases hv
  have hLn : L' = [] := List.eq_nil_iff_forall_not_mem.mpr fun q hq => hL' q hq
  subst hLn
  rw [List.append_nil] at X'
  obtain ⟨t2, a1, b1⟩ := k T' (by rw [e1, hh, h0]) X'
  exact ⟨t2, st t2 a1, b1⟩
theorem mChr_eq {i : Nat} {tx : List Nat} (h : mChr i = some tx) : ∃ t, t < 15 ∧ i = 1000000 + t ∧ tx = mTx.getD t [] := by
  unfold mChr at h
  obtain ⟨h1, h2⟩ := mCond_eq h
  have h1 := Nat.le_of_ble_eq_true h1
  have hl : mTx.length = 15 := by decide +kernel
  have := (List.getElem?_eq_some_iff.mp h2).1
  refine ⟨i - 1000000, by omega, by omega, ?_⟩
  rw [List.getD_eq_getElem?_getD, h2]
  rfl
theorem mStr_recv {t : Nat} (hE : mE G s s.heap) (ht : t < 15) (hS : va_S (mA G) s.heap H locs) : ∃ cell : Cell, H[G.2.1 t]? = some cell ∧ cell.vm.isStatics = false ∧ s.vm.findClass "java/lang/String" = some cell.cls := by
  obtain ⟨cell, h1, h2, h3, -⟩ := (hE.2.2.2.1 t ht).1.kept hS.2.1
  exact ⟨cell, h1, h2, h3⟩
theorem c_len (HS : mSO l G) (C : mCx p R s m args meth c G row d0) (hrc : D.length ≤ R.cells + d0) (hrs : mSl D ≤ R.slots + s0) (hr : mRm row 22 a = true) (hL0 : mLT[j]? = some (row.1, idx, 22, a, b, z)) (hd : decode row.2.2.1 pc = .ok (.invokevirtual idx, 3))
    (h : (match st with
    | .ref i :: r => match mChr i with
      | some tx => cond (Nat.ble (mWt r) 8) (mNx (pc + 3) L (.int (nI tx.length) :: r) D) none
      | none => none
    | _ => none) = some (.inl q)) (k : mK p l e R s m args below meth c Q G row.2.2.2.1 d0 s0 q.1 q.2.1 q.2.2.1 q.2.2.2) : mK p l e R s m args below meth c Q G row.2.2.2.1 d0 s0 pc L st D := by
  intro ls H locs cells slots hL hP hS hc hs
  obtain ⟨hx, hb, hml, hown, hts, hE, -, hz, hfr, hlo⟩ := C
  obtain ⟨hw, hck⟩ := mLT_at hL0
  simp only [mRm, Bool.and_eq_true] at hr
  have r1 := Nat.le_of_ble_eq_true hr.1
  have r2 := Nat.le_of_ble_eq_true hr.2
  split at h
  · rename_i i r
    split at h
    · rename_i tx htx
      obtain ⟨h1, h2⟩ := mCond_eq h
      obtain rfl := mNx_eq h2
      obtain ⟨t, ht, rfl, rfl⟩ := mChr_eq htx
      have h1 := Nat.le_of_ble_eq_true h1
      have hwt := mWt_map G r
      have k1 := k ls H locs cells slots hL hP hS hc hs
      simp only [List.map_cons, mV_ref, mAd_tx]
      refine m_run0 (v := .int (nI (mTx.getD t []).length)) (rest := r.map (mV G)) (va_runV (As := []) (C := "java/lang/String") (n := 0) (Ts := mGW) ⟨hx, hb, hml, hown, hts⟩ (HS.1 t ht)
        ⟨⟨rfl, rfl, by show 1 + 1 ≤ _; omega, by show 8 + (1 + 11) + 20 ≤ _; omega, pay_in hts (mGood_c mStrLen_c rfl), List.mem_cons_self, hts _ (mTb_gw mStrLen_c rfl), hts _ mStr_w.2.2.2.2, ⟨by decide +kernel, by decide +kernel⟩, fun sig hsig => by
          have h9 : (parseMethodDescriptor mStrLen.desc).map (fun d => d.parameters.length) = some 0 := by decide +kernel
          rw [hsig] at h9
          exact (Option.some.inj h9).symm, hts _ (mTb_gw hw hck)⟩, hts _ mStr_w.1, hts _ mStr_w.2.1⟩
        ⟨fun a U g mk hq => ⟨hq.1, mE_calling hq.2⟩, mStr_recv hE ht hS, fun U hU hW => ⟨rfl, mE_call hE hW hU hS⟩⟩ rfl rfl hL.2.1 rfl (lv_room (by rw [hwt]; exact h1)) hd ⟨by omega, by omega⟩) k1
    · cases h
  · cases h
theorem c_chr (HS : mSO l G) (C : mCx p R s m args meth c G row d0) (hrc : D.length ≤ R.cells + d0) (hrs : mSl D ≤ R.slots + s0) (hr : mRm row 23 a = true) (hL0 : mLT[j]? = some (row.1, idx, 23, a, b, z)) (hd : decode row.2.2.1 pc = .ok (.invokevirtual idx, 3))
    (h : (match st with
    | .int k :: .ref i :: r => match mChr i with
      | some tx => cond (Nat.ble (mWt r) 8 && !mOut k tx.length) (mNx (pc + 3) L (.int (nI (tx.getD k.toNatClampNeg 0)) :: r) D) none
      | none => none
    | _ => none) = some (.inl q)) (k : mK p l e R s m args below meth c Q G row.2.2.2.1 d0 s0 q.1 q.2.1 q.2.2.1 q.2.2.2) : mK p l e R s m args below meth c Q G row.2.2.2.1 d0 s0 pc L st D := by
  intro ls H locs cells slots hL hP hS hc hs
  obtain ⟨hx, hb, hml, hown, hts, hE, -, hz, hfr, hlo⟩ := C
  obtain ⟨hw, hck⟩ := mLT_at hL0
  simp only [mRm, Bool.and_eq_true] at hr
  have r1 := Nat.le_of_ble_eq_true hr.1
  have r2 := Nat.le_of_ble_eq_true hr.2
  split at h
  · rename_i kk i r
    split at h
    · rename_i tx htx
      obtain ⟨h1, h2⟩ := mCond_eq h
      obtain rfl := mNx_eq h2
      obtain ⟨t, ht, rfl, rfl⟩ := mChr_eq htx
      rw [Bool.and_eq_true] at h1
      have h3 := Nat.le_of_ble_eq_true h1.1
      have hin := mOut_in h1.2
      have hwt := mWt_map G r
      have k1 := k ls H locs cells slots hL hP hS hc hs
      simp only [List.map_cons, mV_ref, mAd_tx]
      refine m_run0 (v := .int (nI ((mTx.getD t []).getD kk.toNatClampNeg 0))) (rest := r.map (mV G)) (va_runV (As := [.int kk]) (C := "java/lang/String") (n := 1) (Ts := mGW) ⟨hx, hb, hml, hown, hts⟩ (HS.2 t ht kk hin)
        ⟨⟨rfl, rfl, by show 4 + 1 ≤ _; omega, by show 8 + (2 + 11) + 100 ≤ _; omega, pay_in hts (mGood_c mStrChr_c rfl), List.mem_cons_self, hts _ (mTb_gw mStrChr_c rfl), hts _ mStr_w.2.2.2.2, ⟨by decide +kernel, by decide +kernel⟩, fun sig hsig => by
          have h9 : (parseMethodDescriptor mStrChr.desc).map (fun d => d.parameters.length) = some 1 := by decide +kernel
          rw [hsig] at h9
          exact (Option.some.inj h9).symm, hts _ (mTb_gw hw hck)⟩, hts _ mStr_w.2.2.1, hts _ mStr_w.2.2.2.1⟩
        ⟨fun a U g mk hq => ⟨hq.1, mE_calling hq.2⟩, mStr_recv hE ht hS, fun U hU hW => ⟨rfl, mE_call hE hW hU hS⟩⟩ rfl rfl hL.2.1 rfl (lv_room (by rw [hwt]; exact h3)) hd ⟨by omega, by omega⟩) k1
    · cases h
  · cases h
end MCL
end
section
/-! ===== calls of the claim's own methods, returns, and the simulation ===== -/
noncomputable def mKx (q : mLnk) : Bool := match q.2.2.1 with
  | 12 => mIS.any fun x => Nat.beq x.2.1 q.2.2.2.1 && Nat.beq x.2.2 1
  | 13 => mIS.any fun x => Nat.beq x.2.1 q.2.2.2.1 && Nat.beq x.2.2 1
  | 10 => (mIS.any fun x => Nat.beq x.2.1 q.2.2.2.1 && Nat.beq x.2.2 0) && (mSE1.any (fun x => Nat.beq x.2 q.2.2.2.1) || mSE2.any (fun x => Nat.beq x.2 q.2.2.2.1))
  | 11 => (mIS.any fun x => Nat.beq x.2.1 q.2.2.2.1 && Nat.beq x.2.2 0) && (mSE1.any (fun x => Nat.beq x.2 q.2.2.2.1) || mSE2.any (fun x => Nat.beq x.2 q.2.2.2.1))
  | 14 => mIS.any fun x => Nat.beq x.2.1 q.2.2.2.1 && Nat.beq x.2.2 0
  | 15 => mIS.any fun x => Nat.beq x.2.1 q.2.2.2.1 && Nat.beq x.2.2 0
  | _ => true
theorem mKx_ck : mLT.all mKx = true := by decide +kernel
theorem mGW_wd : (mIS.all (fun x => goodWord (.static (mY x.2.1)) && goodWord (.instanceMethod (mY x.2.1)) && goodWord (.selects (mY x.2.1).cls (mY x.2.1) (mY x.2.1)))) = true := by decide +kernel
theorem mIS_static {a : Nat} (h : (mIS.any fun x => Nat.beq x.2.1 a && Nat.beq x.2.2 1) = true) : Cond.static (mY a) ∈ mGW := by
  obtain ⟨x, hx, h1⟩ := List.any_eq_true.mp h
  rw [Bool.and_eq_true] at h1
  have hm := mWalk_spec mIS_wk _ (List.mem_map.mpr ⟨x, hx, rfl⟩)
  have hg := List.all_eq_true.mp mGW_wd x hx
  simp only [h1.2, cond_true] at hm
  rw [Nat.eq_of_beq_eq_true h1.1] at hm hg
  simp only [Bool.and_eq_true] at hg
  exact mTb_gw hm hg.1.1
theorem mIS_inst {a : Nat} (h : (mIS.any fun x => Nat.beq x.2.1 a && Nat.beq x.2.2 0) = true) : Cond.instanceMethod (mY a) ∈ mGW ∧ goodWord (.selects (mY a).cls (mY a) (mY a)) = true := by
  obtain ⟨x, hx, h1⟩ := List.any_eq_true.mp h
  rw [Bool.and_eq_true] at h1
  have hm := mWalk_spec mIS_wk _ (List.mem_map.mpr ⟨x, hx, rfl⟩)
  have hg := List.all_eq_true.mp mGW_wd x hx
  have e0 := Nat.eq_of_beq_eq_true h1.2
  simp only [e0, show Nat.beq 0 1 = false from rfl, cond_false] at hm
  rw [Nat.eq_of_beq_eq_true h1.1] at hm hg
  simp only [Bool.and_eq_true] at hg
  exact ⟨mTb_gw hm hg.1.2, hg.2⟩
theorem mSE_in {a : Nat} (hg : goodWord (.selects (mY a).cls (mY a) (mY a)) = true) (h : (mSE1.any (fun x => Nat.beq x.2 a) || mSE2.any (fun x => Nat.beq x.2 a)) = true) : Cond.selects (mY a).cls (mY a) (mY a) ∈ mGW := by
  rw [Bool.or_eq_true] at h
  rcases h with h | h
  · obtain ⟨x, hx, h1⟩ := List.any_eq_true.mp h
    have hm := mWalk_spec mSE1_wk _ (List.mem_map.mpr ⟨x, hx, rfl⟩)
    simp only [Nat.eq_of_beq_eq_true h1] at hm
    exact List.mem_filter.mpr ⟨List.mem_append_left _ hm, hg⟩
  · obtain ⟨x, hx, h1⟩ := List.any_eq_true.mp h
    have hm := mWalk_spec mSE2_wk _ (List.mem_map.mpr ⟨x, hx, rfl⟩)
    simp only [Nat.eq_of_beq_eq_true h1] at hm
    exact mTb_gw hm hg
theorem mRm_at {row : mRow} {kind a : Nat} (hk : 10 ≤ kind ∧ kind ≤ 15) (h : mRm row kind a = true) : ∃ r : mRow, mMet a = some r ∧ r.2.2.2.2.2.1 + 1 ≤ row.2.2.2.2.2.1 ∧ 8 + (r.2.2.2.1 + 11) + r.2.2.2.2.2.2 ≤ row.2.2.2.2.2.2 ∧ r.1 ≠ 5 ∧ Nat.ble r.1 6 = true := by
  have key : (match mMet a with
    | some r => Nat.ble (r.2.2.2.2.2.1 + 1) row.2.2.2.2.2.1 && Nat.ble (8 + (r.2.2.2.1 + 11) + r.2.2.2.2.2.2) row.2.2.2.2.2.2 && !Nat.beq r.1 5 && Nat.ble r.1 6
    | none => false) = true := by
    rcases (by omega : kind = 10 ∨ kind = 11 ∨ kind = 12 ∨ kind = 13 ∨ kind = 14 ∨ kind = 15) with rfl | rfl | rfl | rfl | rfl | rfl <;> exact h
  cases hm : mMet a with
  | none => rw [hm] at key; cases key
  | some r =>
    rw [hm] at key
    simp only [Bool.and_eq_true, Bool.not_eq_true'] at key
    refine ⟨r, rfl, Nat.le_of_ble_eq_true key.1.1.1, Nat.le_of_ble_eq_true key.1.1.2, fun e => ?_, key.2⟩
    rw [e] at key
    exact absurd key.1.2 (by decide)
theorem mIn_good (cls : String) : goodWord (.initialized cls) = true := rfl
theorem mCode_good (y : MethodName) (b : ByteArray) (n : Nat) (r : Option FieldType) : goodWord (.code y b n r) = true := rfl
theorem mE_cl {G : mG} {D : mHp} {H : Heap} {i a : Nat} {fs : List Value} (hP : mMS G D H) (h : D[i]? = some (.inr (a, fs))) : a < 5 := by
  obtain ⟨r, hr, -⟩ := hP i _ (mW_at h)
  have := (List.getElem?_eq_some_iff.mp hr).1
  exact this
section MSM
variable {p : Program} {l : Launch} {e : Env} {R : Room} {s : State} {m : MethodId} {args : Array Value} {below : List Frame} {meth : Method} {c : Code} {Q : State → Prop} {G : mG} {row : mRow} {d0 s0 : Nat} {pc : Nat} {L : mLoc} {st : List Value} {D D' : mHp} {j a b : Nat} {z : Int} {idx : Nat} {H : Heap} {locs : List Loc} {cells slots : Nat} {ls : Array Slot} {r : Option Value}
theorem m_runC {st0 rest : List Value} {av : Array Value} (hL : mLR G ls row.2.2.2.1 L) (hle : D.length ≤ D'.length) (hls : mSl D ≤ mSl D') (hS : va_S (mA G) s.heap H locs) (hc : cells + d0 = D.length) (hs : slots + s0 = mSl D)
    (run : va_Run p l e R s m args below meth c H locs cells slots (D'.length - D.length) (mSl D' - mSl D) (F0 m pc ls st0) (rest.map (mV G)) (mQc G r D' av) (mA G))
    (k : mK p l e R s m args below meth c Q G row.2.2.2.1 d0 s0 (pc + 3) L (r.toList ++ rest) D') : W p l e R s m args below meth c H locs cells slots Q (F0 m pc ls st0) := by
  intro T hT X
  obtain ⟨v, st₀, t, T', L', h0, X', hL', e1, e2, ⟨hv, hP', hz, hk⟩, st⟩ := run T hT X
  rw [h0] at hz hk
  have k1 := k ls T'.heap (locs ++ L') (cells + (D'.length - D.length)) (slots + (mSl D' - mSl D)) hL (by rw [e1]; exact hP') ⟨Nat.le_trans hS.1 (by rw [e1]; exact hz), fun q h1 h2 => by
      rw [e1, hk q (Nat.lt_of_lt_of_le h1 hS.1) h2]
      exact hS.2.1 q h1 h2, fun q hq => by
      rcases List.mem_append.mp hq with h | h
      · exact hS.2.2 q h
      · exact hL' q h⟩ (by omega) (by omega)
  have hv2 : v = r.map (mV G) := by
    cases hv
    rfl
  have e9 : (r.toList ++ rest).map (mV G) = v.toList ++ rest.map (mV G) := by
    rw [hv2, List.map_append]
    cases r <;> rfl
  rw [e9] at k1
  obtain ⟨t2, a1, b1⟩ := k1 T' rfl X'
  exact ⟨t2, st t2 a1, b1⟩
theorem mPc_blind (as : List Value) (D : mHp) : FrameBlind (mPc G as D) := fun _ _ _ _ h => ⟨h.1, h.2.1, h.2.2.1, mE_calling h.2.2.2⟩
theorem mRcv_eq {as : List Value} {mid : Nat} {rr : mRow} (h : mRcv D as mid = true) (hr : mMet mid = some rr) : ∃ (i : Nat) (As : List Value) (fs : List Value), as = .ref i :: As ∧ D[i]? = some (.inr (rr.1, fs)) := by
  unfold mRcv at h
  split at h
  · rename_i i As
    split at h
    · rename_i c fs r' hD hr'
      rw [hr] at hr'
      cases hr'
      rw [Nat.eq_of_beq_eq_true h] at hD
      exact ⟨i, As, fs, rfl, hD⟩
    · cases h
  · cases h
theorem mStk {b : Nat} {st : List Value} : st.map (mV G) = (((st.take b).reverse).map (mV G)).reverse ++ (st.drop b).map (mV G) := by
  rw [← List.map_reverse, List.reverse_reverse, ← List.map_append, List.take_append_drop]
theorem c_static {kind : Nat} (hk : kind = 12 ∨ kind = 13) (C : mCx p R s m args meth c G row d0) (hrc : D'.length ≤ R.cells + d0) (hrs : mSl D' ≤ R.slots + s0) (hle : D.length ≤ D'.length) (hls : mSl D ≤ mSl D')
    (hr : mRm row kind a = true) (hL0 : mLT[j]? = some (row.1, idx, kind, a, b, z)) (hd : decode row.2.2.1 pc = .ok (.invokestatic idx, 3)) (hb1 : b ≤ st.length) (hwt : mWt (st.drop b) ≤ 8)
    (hM : ∀ row' : mRow, mMet a = some row' → mMt l G row' (st.take b).reverse D r D')
    (k : mK p l e R s m args below meth c Q G row.2.2.2.1 d0 s0 (pc + 3) L (r.toList ++ st.drop b) D') : mK p l e R s m args below meth c Q G row.2.2.2.1 d0 s0 pc L st D := by
  intro ls H locs cells slots hL hP hS hc hs
  obtain ⟨hx, hb, hml, hown, hts, hE, -, hz, hfr, hlo⟩ := C
  obtain ⟨hw, hck⟩ := mLT_at hL0
  have hks := List.all_eq_true.mp mKx_ck _ (List.mem_of_getElem? hL0)
  obtain ⟨rr, hrr, r1, r2, r3, r4⟩ := mRm_at (by omega) hr
  obtain ⟨-, hcl, hne, hin, -⟩ := mM_at hrr r4 r3
  have hY := mY_of hrr
  have hcode := mM_code hrr r3
  have hMt := hM rr hrr
  refine mSized hz hP hS hc fun hH => ?_
  refine m_runC hL hle hls hS hc hs (rest := st.drop b) (av := ((st.take b).reverse.map (mV G)).toArray) ?_ k
  have hws : ∀ w ∈ (Cond.code rr.2.1 rr.2.2.1 rr.2.2.2.1 rr.2.2.2.2.1 :: mGW), ∀ (a' : Array Value) (U : State), s.WarmedH U.vm → w.before a' U = true := pay_in hts (mGood_c hcode rfl)
  have hpre : PreS s H (mPc G (st.take b).reverse D) ((st.take b).reverse.map (mV G)) := ⟨mPc_blind _ _, fun U hU hW => ⟨rfl, by rw [hU]; exact hH, by rw [hU]; exact hP, mE_call hE hW hU hS⟩⟩
  have hlen9 : ((st.take b).reverse.map (mV G)).length = b := by simp [Nat.min_eq_left hb1]
  rcases hk with rfl | rfl
  · simp only [mLck, Bool.and_eq_true, decide_eq_true_eq] at hck
    have hst := mIS_static hks
    rw [hY] at hck hst
    have hlk : (Cond.methodLink (mNm row.1) idx rr.2.1).before args s = true := by rw [← hY]; exact hts _ (mTb_gw hw hck.1)
    exact va_runS (As := (st.take b).reverse.map (mV G)) (n := b) (Ts := mGW) ⟨hx, hb, hml, hown, hts⟩ hMt
      ⟨⟨rfl, rfl, by show rr.2.2.2.2.2.1 + 1 ≤ R.frames; omega, by show 8 + (rr.2.2.2.1 + 11) + rr.2.2.2.2.2.2 ≤ R.locals; omega, hws, List.mem_cons_self, hts _ (mTb_gw hcode rfl), hts _ (mTb_gw hin rfl), hne, fun sig hsig => by
        have h9 := hck.2
        rw [hsig] at h9
        exact (Option.some.inj h9).symm, hlk⟩, hts _ hst⟩ hpre rfl hlen9 hL.2.1 (mStk) (lv_room (by rw [mWt_map]; exact hwt)) hd ⟨by omega, by omega⟩
  · simp only [mLck, Bool.and_eq_true, decide_eq_true_eq] at hck
    have hst := mIS_static hks
    rw [hY] at hck hst
    have hlk : (Cond.methodLinkNest (mNm row.1) idx rr.2.1 "EnvyRust").before args s = true := by rw [← hY]; exact va_Nw.use rfl (hE.2.1 _ (mTb_nw hw hck.1))
    exact va_runSN (As := (st.take b).reverse.map (mV G)) (n := b) (Ts := mGW) (host := "EnvyRust") ⟨hx, hb, hml, hown, hts⟩ hMt
      ⟨⟨⟨rfl, rfl, by show rr.2.2.2.2.2.1 + 1 ≤ R.frames; omega, by show 8 + (rr.2.2.2.1 + 11) + rr.2.2.2.2.2.2 ≤ R.locals; omega, hws, List.mem_cons_self⟩, hts _ (mTb_gw hcode rfl), hts _ (mTb_gw hin rfl), hne, fun sig hsig => by
        have h9 := hck.2
        rw [hsig] at h9
        exact (Option.some.inj h9).symm, hlk⟩, hts _ hst, trivial⟩ hpre rfl hlen9 hL.2.1 (mStk) (lv_room (by rw [mWt_map]; exact hwt)) hd ⟨by omega, by omega⟩
theorem c_inst {kind : Nat} (hk : kind = 10 ∨ kind = 11 ∨ kind = 14 ∨ kind = 15) (C : mCx p R s m args meth c G row d0) (hrc : D'.length ≤ R.cells + d0) (hrs : mSl D' ≤ R.slots + s0) (hle : D.length ≤ D'.length) (hls : mSl D ≤ mSl D') (hlim : D.length ≤ 1000000)
    (hr : mRm row kind a = true) (hL0 : mLT[j]? = some (row.1, idx, kind, a, b, z)) (hd : ((kind = 10 ∨ kind = 11) ∧ decode row.2.2.1 pc = .ok (.invokevirtual idx, 3)) ∨ ((kind = 14 ∨ kind = 15) ∧ decode row.2.2.1 pc = .ok (.invokespecial idx, 3) ∧ (∀ row' : mRow, mMet a = some row' → row'.2.2.2.2.1 = none))) (hb1 : b ≤ st.length) (hwt : mWt (st.drop b) ≤ 8) (hrv : mRcv D (st.take b).reverse a = true)
    (hM : ∀ row' : mRow, mMet a = some row' → mMt l G row' (st.take b).reverse D r D')
    (k : mK p l e R s m args below meth c Q G row.2.2.2.1 d0 s0 (pc + 3) L (r.toList ++ st.drop b) D') : mK p l e R s m args below meth c Q G row.2.2.2.1 d0 s0 pc L st D := by
  intro ls H locs cells slots hL hP hS hc hs
  obtain ⟨hx, hb, hml, hown, hts, hE, -, hz, hfr, hlo⟩ := C
  obtain ⟨hw, hck⟩ := mLT_at hL0
  have hks := List.all_eq_true.mp mKx_ck _ (List.mem_of_getElem? hL0)
  obtain ⟨rr, hrr, r1, r2, r3, r4⟩ := mRm_at (by omega) hr
  obtain ⟨-, hcl, hne, hin, -⟩ := mM_at hrr r4 r3
  have hY := mY_of hrr
  have hcode := mM_code hrr r3
  have hMt := hM rr hrr
  obtain ⟨i, As, fs, has, hDi⟩ := mRcv_eq hrv hrr
  refine mSized hz hP hS hc fun hH => ?_
  have hlen8 : (st.take b).reverse.length = b := by simp [Nat.min_eq_left hb1]
  have hstk : st.map (mV G) = (As.map (mV G)).reverse ++ .ref (mAd G i) :: (st.drop b).map (mV G) := by
    rw [mStk (G := G) (b := b), has]
    simp [mV_ref]
  rw [has] at hMt hlen8
  refine m_runC hL hle hls hS hc hs (rest := st.drop b) (av := (Value.ref (mAd G i) :: As.map (mV G)).toArray) ?_ k
  have hws : ∀ w ∈ (Cond.code rr.2.1 rr.2.2.1 rr.2.2.2.1 rr.2.2.2.2.1 :: mGW), ∀ (a' : Array Value) (U : State), s.WarmedH U.vm → w.before a' U = true := pay_in hts (mGood_c hcode rfl)
  have hpre : PreS s H (mPc G (.ref i :: As) D) (.ref (mAd G i) :: As.map (mV G)) := ⟨mPc_blind _ _, fun U hU hW => ⟨rfl, by rw [hU]; exact hH, by rw [hU]; exact hP, mE_call hE hW hU hS⟩⟩
  have hi6 : rr.1 < 5 := by
    have := Nat.le_of_ble_eq_true r4
    have h7 := mE_cl hP hDi
    exact h7
  have hrecv : ∃ cell : Cell, H[mAd G i]? = some cell ∧ cell.vm.isStatics = false ∧ s.vm.findClass rr.2.1.cls = some cell.cls := by
    rw [mAd_lt (Nat.lt_of_lt_of_le (mLt_of hDi) hlim), hcl]
    exact va_recv hE.1 hP (mCl_ok hi6) (mW_at hDi)
  have hlen9 : (As.map (mV G)).length + 1 = b := by rw [List.length_map]; exact hlen8
  rcases hk with rfl | rfl | rfl | rfl
  · have hd' : decode row.2.2.1 pc = .ok (.invokevirtual idx, 3) := by
      rcases hd with h | h
      · exact h.2
      · omega
    simp only [mLck, Bool.and_eq_true, decide_eq_true_eq] at hck
    simp only [mKx, Bool.and_eq_true] at hks
    obtain ⟨hi9, hg9⟩ := mIS_inst hks.1
    have hse := mSE_in hg9 hks.2
    rw [hY] at hck hi9 hse
    have hlk : (Cond.methodLink (mNm row.1) idx rr.2.1).before args s = true := by rw [← hY]; exact hts _ (mTb_gw hw hck.1)
    exact va_runV (As := As.map (mV G)) (n := (As.map (mV G)).length) (C := rr.2.1.cls) (Ts := mGW) ⟨hx, hb, hml, hown, hts⟩ hMt
      ⟨⟨rfl, rfl, by show rr.2.2.2.2.2.1 + 1 ≤ R.frames; omega, by show 8 + (rr.2.2.2.1 + 11) + rr.2.2.2.2.2.2 ≤ R.locals; omega, hws, List.mem_cons_self, hts _ (mTb_gw hcode rfl), hts _ (mTb_gw hin rfl), hne, fun sig hsig => by
        have h9 := hck.2
        rw [hsig] at h9
        have : sig.parameters.length + 1 = b := Option.some.inj h9
        omega, hlk⟩, hts _ hi9, hts _ hse⟩ ⟨hpre.1, hrecv, hpre.2⟩ rfl rfl hL.2.1 hstk (lv_room (by rw [mWt_map]; exact hwt)) hd' ⟨by omega, by omega⟩
  · have hd' : decode row.2.2.1 pc = .ok (.invokevirtual idx, 3) := by
      rcases hd with h | h
      · exact h.2
      · omega
    simp only [mLck, Bool.and_eq_true, decide_eq_true_eq] at hck
    simp only [mKx, Bool.and_eq_true] at hks
    obtain ⟨hi9, hg9⟩ := mIS_inst hks.1
    have hse := mSE_in hg9 hks.2
    rw [hY] at hck hi9 hse
    have hlk : (Cond.methodLinkNest (mNm row.1) idx rr.2.1 "EnvyRust").before args s = true := by rw [← hY]; exact va_Nw.use rfl (hE.2.1 _ (mTb_nw hw hck.1))
    exact va_runVN (As := As.map (mV G)) (n := (As.map (mV G)).length) (C := rr.2.1.cls) (Ts := mGW) (host := "EnvyRust") ⟨hx, hb, hml, hown, hts⟩ hMt
      ⟨⟨⟨rfl, rfl, by show rr.2.2.2.2.2.1 + 1 ≤ R.frames; omega, by show 8 + (rr.2.2.2.1 + 11) + rr.2.2.2.2.2.2 ≤ R.locals; omega, hws, List.mem_cons_self⟩, hts _ (mTb_gw hcode rfl), hts _ (mTb_gw hin rfl), hne, fun sig hsig => by
        have h9 := hck.2
        rw [hsig] at h9
        have : sig.parameters.length + 1 = b := Option.some.inj h9
        omega, hlk⟩, hts _ hi9, hts _ hse⟩ ⟨hpre.1, hrecv, hpre.2⟩ rfl rfl hL.2.1 hstk (lv_room (by rw [mWt_map]; exact hwt)) hd' ⟨by omega, by omega⟩
  · obtain ⟨hd', hnone⟩ : decode row.2.2.1 pc = .ok (.invokespecial idx, 3) ∧ rr.2.2.2.2.1 = none := by
      rcases hd with h | h
      · omega
      · exact ⟨h.2.1, h.2.2 rr hrr⟩
    simp only [mLck, Bool.and_eq_true, decide_eq_true_eq] at hck
    obtain ⟨hi9, hg9⟩ := mIS_inst hks
    rw [hY] at hck hi9
    have hlk : (Cond.methodLink (mNm row.1) idx rr.2.1).before args s = true := by rw [← hY]; exact hts _ (mTb_gw hw hck.1.1)
    unfold mMt at hMt
    rw [hnone] at hMt hws hcode
    exact va_runI (As := As.map (mV G)) (n := (As.map (mV G)).length) (Ts := mGW) ⟨hx, hb, hml, hown, hts⟩ hMt
      ⟨⟨rfl, rfl, by show rr.2.2.2.2.2.1 + 1 ≤ R.frames; omega, by show 8 + (rr.2.2.2.1 + 11) + rr.2.2.2.2.2.2 ≤ R.locals; omega, hws, List.mem_cons_self, hts _ (mTb_gw hcode rfl), hts _ (mTb_gw hin rfl), hne, fun sig hsig => by
        have h9 := hck.1.2
        rw [hsig] at h9
        have : sig.parameters.length + 1 = b := Option.some.inj h9
        omega, hlk⟩, hck.2, hts _ hi9⟩ hpre rfl rfl hL.2.1 hstk (lv_room (by rw [mWt_map]; exact hwt)) hd' ⟨by omega, by omega⟩
  · obtain ⟨hd', hnone⟩ : decode row.2.2.1 pc = .ok (.invokespecial idx, 3) ∧ rr.2.2.2.2.1 = none := by
      rcases hd with h | h
      · omega
      · exact ⟨h.2.1, h.2.2 rr hrr⟩
    simp only [mLck, Bool.and_eq_true, decide_eq_true_eq] at hck
    obtain ⟨hi9, hg9⟩ := mIS_inst hks
    rw [hY] at hck hi9
    have hlk : (Cond.methodLinkNest (mNm row.1) idx rr.2.1 "EnvyRust").before args s = true := by rw [← hY]; exact va_Nw.use rfl (hE.2.1 _ (mTb_nw hw hck.1.1))
    unfold mMt at hMt
    rw [hnone] at hMt hws hcode
    exact va_runIN (As := As.map (mV G)) (n := (As.map (mV G)).length) (Ts := mGW) (host := "EnvyRust") ⟨hx, hb, hml, hown, hts⟩ hMt
      ⟨⟨⟨rfl, rfl, by show rr.2.2.2.2.2.1 + 1 ≤ R.frames; omega, by show 8 + (rr.2.2.2.1 + 11) + rr.2.2.2.2.2.2 ≤ R.locals; omega, hws, List.mem_cons_self⟩, hts _ (mTb_gw hcode rfl), hts _ (mTb_gw hin rfl), hne, fun sig hsig => by
        have h9 := hck.1.2
        rw [hsig] at h9
        have : sig.parameters.length + 1 = b := Option.some.inj h9
        omega, hlk⟩, hck.2, hts _ hi9⟩ hpre rfl rfl hL.2.1 hstk (lv_room (by rw [mWt_map]; exact hwt)) hd' ⟨by omega, by omega⟩
end MSM
end
section
/-! ===== the simulation ===== -/
/-- whatever step it is, the world doesn't shrink -/
def mPr2 (D : mHp) (o : Option mRes) : Prop := ∀ q : Nat × mLoc × List Value × mHp, o = some (.inl q) → D.length ≤ q.2.2.2.length ∧ mSl D ≤ mSl q.2.2.2
theorem mPr2_none {D : mHp} : mPr2 D none := fun _ h => by cases h
theorem mPr2_inr {D : mHp} {x} : mPr2 D (some (.inr x)) := fun _ h => by cases h
theorem mPr2_nx {D D' : mHp} {pc : Nat} {L : mLoc} {st : List Value} (h1 : D.length ≤ D'.length) (h2 : mSl D ≤ mSl D') : mPr2 D (mNx pc L st D') := fun q h => by
  obtain rfl := mNx_eq h
  exact ⟨h1, h2⟩
theorem mPr2_nx0 {D : mHp} {pc : Nat} {L : mLoc} {st : List Value} : mPr2 D (mNx pc L st D) := mPr2_nx (Nat.le_refl _) (Nat.le_refl _)
theorem mPr2_go {D : mHp} {pc : Nat} {off : Int} {L : mLoc} {st : List Value} : mPr2 D (mGo pc off L st D) := fun q h => by
  obtain ⟨t, -, rfl⟩ := mGo_eq h
  exact ⟨Nat.le_refl _, Nat.le_refl _⟩
theorem mPr2_br {D : mHp} {b : Bool} {pc : Nat} {off : Int} {L : mLoc} {st : List Value} : mPr2 D (mBr b pc off L st D) := fun q h => by
  obtain ⟨t, -, rfl⟩ := mBr_eq h
  exact ⟨Nat.le_refl _, Nat.le_refl _⟩
theorem mPr2_cond {D : mHp} {b : Bool} {o : Option mRes} (h : mPr2 D o) : mPr2 D (cond b o none) := fun q hq => h q (mCond_eq hq).2
theorem mPr2_bind {α : Type} {D : mHp} {o : Option α} {f : α → Option mRes} (h : ∀ a, o = some a → mPr2 D (f a)) : mPr2 D (o.bind f) := fun q hq => by
  obtain ⟨a, h1, h2⟩ := mBind_eq hq
  exact h a h1 q h2
theorem mPr2_set {D : mHp} {i : Nat} {c c' : va_E} {pc : Nat} {L : mLoc} {st : List Value} (hD : D[i]? = some c) (hz : mSz c' = mSz c) : mPr2 D (mNx pc L st (D.set i c')) :=
  mPr2_nx (by rw [List.length_set]; exact Nat.le_refl _) (by rw [mSl_set hD hz]; exact Nat.le_refl _)
theorem mPr2_app {D E : mHp} {pc : Nat} {L : mLoc} {st : List Value} : mPr2 D (mNx pc L st (D ++ E)) :=
  mPr2_nx (by rw [List.length_append]; omega) (by rw [mSl_app]; omega)
theorem mPr2_call {e : mEnt} {v : Bool} {pc : Nat} {L : mLoc} {st : List Value} {D : mHp} : mPr2 D (mCall e v pc L st D) := by
  unfold mCall
  split
  · split
    · exact mPr2_cond mPr2_nx0
    · exact mPr2_none
  · split
    · split
      · rename_i hD1
        exact mPr2_cond (mPr2_set hD1 rfl)
      · exact mPr2_none
    · exact mPr2_none
  · split
    · split
      · exact mPr2_cond mPr2_nx0
      · exact mPr2_none
    · exact mPr2_none
  · split
    · split
      · exact mPr2_cond mPr2_nx0
      · exact mPr2_none
    · exact mPr2_none
  · split
    · exact mPr2_cond mPr2_nx0
    · exact mPr2_none
  · split
    · exact mPr2_cond mPr2_nx0
    · exact mPr2_none
  · exact mPr2_cond mPr2_inr
theorem mPr2_put {row : mRow} {kd : Nat} {D : mHp} {i a b : Nat} {v : Value} {pc : Nat} {L : mLoc} {st : List Value} : mPr2 D ((mPut row kd D i a b v).bind fun D1 => mNx pc L st D1) := mPr2_bind fun D1 h => by
  obtain ⟨fs, hD, -, -, -, -, rfl⟩ := mPut_eq h
  exact mPr2_set hD (mSz_obj a b fs v)
theorem mPr2_sti {t : Nat} {D : mHp} {i : Nat} {j x : Int32} {pc : Nat} {L : mLoc} {st : List Value} : mPr2 D ((mStI t D i j x).bind fun D1 => mNx pc L st D1) := mPr2_bind fun D1 h => by
  obtain ⟨n, f, hD, -, rfl⟩ := mStI_eq h
  exact mPr2_set hD rfl
theorem mPr2_stq {D : mHp} {i v : Nat} {j : Int32} {pc : Nat} {L : mLoc} {st : List Value} : mPr2 D ((mStQ D i j v).bind fun D1 => mNx pc L st D1) := mPr2_bind fun D1 h => by
  obtain ⟨t, n, f, hD, -, -, rfl⟩ := mStQ_eq h
  exact mPr2_set hD rfl
theorem mStep_mono {X : mSc} {row : mRow} {e : mEnt} {pc : Nat} {L : mLoc} {st : List Value} {D : mHp} : mPr2 D (mStep X row e pc L st D) := by
  unfold mStep
  split
  all_goals (repeat' (first | exact mPr2_none | exact mPr2_nx0 | exact mPr2_go | exact mPr2_br | exact mPr2_app | exact mPr2_call | exact mPr2_put | exact mPr2_sti | exact mPr2_stq | exact mPr2_inr | apply mPr2_cond | (refine mPr2_bind fun _ _ => ?_) | split))
theorem mRun_mono {X : mSc} : ∀ (n mid pc : Nat) (L : mLoc) (st : List Value) (D : mHp) (z : Option Value × mHp), mRun X n mid pc L st D = some z → D.length ≤ z.2.length ∧ mSl D ≤ mSl z.2 := by
  intro n
  induction n with
  | zero => intro mid pc L st D z h; cases h
  | succ n ih =>
    intro mid pc L st D z h
    unfold mRun at h
    split at h
    · split at h
      · rename_i q hq
        obtain ⟨h1, h2⟩ := mStep_mono q hq
        obtain ⟨h3, h4⟩ := ih _ _ _ _ _ _ h
        exact ⟨Nat.le_trans h1 h3, Nat.le_trans h2 h4⟩
      · cases h
        exact ⟨Nat.le_refl _, Nat.le_refl _⟩
      · split at h
        · obtain ⟨-, h⟩ := mCond_eq h
          split at h
          · rename_i z1 hz1
            obtain ⟨h1, h2⟩ := ih _ _ _ _ _ _ hz1
            obtain ⟨h3, h4⟩ := ih _ _ _ _ _ _ h
            exact ⟨Nat.le_trans h1 h3, Nat.le_trans h2 h4⟩
          · cases h
        · cases h
      · cases h
    · cases h
section MSI
variable {p : Program} {l : Launch} {e : Env} {R : Room} {s : State} {m : MethodId} {args : Array Value} {below : List Frame} {meth : Method} {c : Code} {Q : State → Prop} {G : mG} {row : mRow} {d0 s0 : Nat} {pc : Nat} {L : mLoc} {st : List Value} {D : mHp} {q : Nat × mLoc × List Value × mHp}
theorem mLen_of {i : Instr} {n : Nat} (h : mLnk' i n = true) (hi : mLnk' i n = Nat.beq n (mLn i)) : n = mLn i := Nat.eq_of_beq_eq_true (hi ▸ h)

set_option maxHeartbeats 4000000 in
theorem m_step {X : mSc} {en : mEnt} (hG : G.2.2.2.2 = X) (HS : mSO l G) (C : mCx p R s m args meth c G row d0) (hlD : D.length ≤ 1000000) (hlq : q.2.2.2.length ≤ 1000000) (hrc : q.2.2.2.length ≤ R.cells + d0) (hrs : mSl q.2.2.2 ≤ R.slots + s0)
    (hd : decode row.2.2.1 pc = .ok (en.1, en.2.1)) (he : mEck row en = true) (h : mStep X row en pc L st D = some (.inl q)) (k : mK p l e R s m args below meth c Q G row.2.2.2.1 d0 s0 q.1 q.2.1 q.2.2.1 q.2.2.2) : mK p l e R s m args below meth c Q G row.2.2.2.1 d0 s0 pc L st D := by
  obtain ⟨ins, len, j, kind, a, b, z⟩ := en
  have hlen : mLnk' ins len = true := by
    unfold mEck at he
    rw [Bool.and_eq_true] at he
    exact he.1
  cases ins with
  | iconst n =>
    obtain rfl := mLen_of hlen rfl
    exact r_iconst C hd h k
  | bipush n =>
    obtain rfl := mLen_of hlen rfl
    exact r_bipush C hd h k
  | sipush n =>
    obtain rfl := mLen_of hlen rfl
    exact r_sipush C hd h k
  | lconst n =>
    obtain rfl := mLen_of hlen rfl
    exact r_lconst C hd h k
  | iload_n i =>
    obtain rfl := mLen_of hlen rfl
    exact r_iload_n C hd h k
  | iload i =>
    obtain rfl := mLen_of hlen rfl
    exact r_iload C hd h k
  | lload_n i =>
    obtain rfl := mLen_of hlen rfl
    exact r_lload_n C hd h k
  | lload i =>
    obtain rfl := mLen_of hlen rfl
    exact r_lload C hd h k
  | aload_n i =>
    obtain rfl := mLen_of hlen rfl
    exact r_aload_n C hd h k
  | aload i =>
    obtain rfl := mLen_of hlen rfl
    exact r_aload C hd h k
  | istore_n i =>
    obtain rfl := mLen_of hlen rfl
    exact r_istore_n C hd h k
  | istore i =>
    obtain rfl := mLen_of hlen rfl
    exact r_istore C hd h k
  | lstore_n i =>
    obtain rfl := mLen_of hlen rfl
    exact r_lstore_n C hd h k
  | lstore i =>
    obtain rfl := mLen_of hlen rfl
    exact r_lstore C hd h k
  | astore_n i =>
    obtain rfl := mLen_of hlen rfl
    exact r_astore_n C hd h k
  | astore i =>
    obtain rfl := mLen_of hlen rfl
    exact r_astore C hd h k
  | iinc i n =>
    obtain rfl := mLen_of hlen rfl
    exact r_iinc C hd h k
  | iadd =>
    obtain rfl := mLen_of hlen rfl
    exact r_iadd C hd h k
  | isub =>
    obtain rfl := mLen_of hlen rfl
    exact r_isub C hd h k
  | imul =>
    obtain rfl := mLen_of hlen rfl
    exact r_imul C hd h k
  | iand =>
    obtain rfl := mLen_of hlen rfl
    exact r_iand C hd h k
  | ior =>
    obtain rfl := mLen_of hlen rfl
    exact r_ior C hd h k
  | ixor =>
    obtain rfl := mLen_of hlen rfl
    exact r_ixor C hd h k
  | idiv =>
    obtain rfl := mLen_of hlen rfl
    exact r_idiv C hd h k
  | irem =>
    obtain rfl := mLen_of hlen rfl
    exact r_irem C hd h k
  | ishl =>
    obtain rfl := mLen_of hlen rfl
    exact r_ishl C hd h k
  | ishr =>
    obtain rfl := mLen_of hlen rfl
    exact r_ishr C hd h k
  | iushr =>
    obtain rfl := mLen_of hlen rfl
    exact r_iushr C hd h k
  | i2l =>
    obtain rfl := mLen_of hlen rfl
    exact r_i2l C hd h k
  | i2b =>
    obtain rfl := mLen_of hlen rfl
    exact r_i2b C hd h k
  | i2s =>
    obtain rfl := mLen_of hlen rfl
    exact r_i2s C hd h k
  | ladd =>
    obtain rfl := mLen_of hlen rfl
    exact r_ladd C hd h k
  | lmul =>
    obtain rfl := mLen_of hlen rfl
    exact r_lmul C hd h k
  | lcmp =>
    obtain rfl := mLen_of hlen rfl
    exact r_lcmp C hd h k
  | dup =>
    obtain rfl := mLen_of hlen rfl
    exact r_dup C hd h k
  | pop =>
    obtain rfl := mLen_of hlen rfl
    exact r_pop C hd h k
  | dup2 =>
    obtain rfl := mLen_of hlen rfl
    exact r_dup2 C hd h k
  | pop2 =>
    obtain rfl := mLen_of hlen rfl
    exact r_pop2 C hd h k
  | goto off =>
    obtain rfl := mLen_of hlen rfl
    exact r_goto C hd h k
  | iaload =>
    obtain rfl := mLen_of hlen rfl
    exact r_iaload hG C hlD hd h k
  | baload =>
    obtain rfl := mLen_of hlen rfl
    exact r_baload C hlD hd h k
  | aaload =>
    obtain rfl := mLen_of hlen rfl
    exact r_aaload C hlD hd h k
  | iastore =>
    obtain rfl := mLen_of hlen rfl
    exact r_iastore C hlD hd h k
  | bastore =>
    obtain rfl := mLen_of hlen rfl
    exact r_bastore C hlD hd h k
  | aastore =>
    obtain rfl := mLen_of hlen rfl
    exact r_aastore C hlD hd h k
  | arraylength =>
    obtain rfl := mLen_of hlen rfl
    exact r_arraylength hG C hlD hd h k
  | ifCond cd off =>
    obtain rfl := mLen_of hlen rfl
    cases cd
    case eq => exact r_if_eq C hd h k
    case ne => exact r_if_ne C hd h k
    case lt => exact r_if_lt C hd h k
    case ge => exact r_if_ge C hd h k
    case gt => exact r_if_gt C hd h k
    case le => exact r_if_le C hd h k
  | if_icmp cd off =>
    obtain rfl := mLen_of hlen rfl
    cases cd
    case eq => exact r_icmp_eq C hd h k
    case ne => exact r_icmp_ne C hd h k
    case lt => exact r_icmp_lt C hd h k
    case ge => exact r_icmp_ge C hd h k
    case gt => exact r_icmp_gt C hd h k
    case le => exact r_icmp_le C hd h k
  | tableswitch dflt lo hi offs => exact r_tsw C hd h k
  | getfield idx =>
    obtain rfl := mLen_of hlen rfl
    obtain ⟨hkd, hL0, hrm⟩ := mEck_at he rfl
    exact r_getfield C hlD hkd hL0 hd h k
  | putfield idx =>
    obtain rfl := mLen_of hlen rfl
    obtain ⟨hkd, hL0, hrm⟩ := mEck_at he rfl
    exact r_putfield C hlD hkd hL0 hd h k
  | getstatic idx =>
    obtain rfl := mLen_of hlen rfl
    obtain ⟨hkd, hL0, hrm⟩ := mEck_at he rfl
    exact r_getstatic C hkd hL0 hd h k
  | ldc idx =>
    obtain rfl := mLen_of hlen rfl
    obtain ⟨hkd, hL0, hrm⟩ := mEck_at he rfl
    exact r_ldc C hL0 hd h k
  | ldc_w idx =>
    obtain rfl := mLen_of hlen rfl
    obtain ⟨hkd, hL0, hrm⟩ := mEck_at he rfl
    exact r_ldc_w C hL0 hd h k
  | new idx =>
    obtain rfl := mLen_of hlen rfl
    obtain ⟨hkd, hL0, hrm⟩ := mEck_at he rfl
    have hq := mNx_eq h
    have e1 : q.2.2.2 = D ++ [.inr (a, mDf a)] := by rw [hq]
    have e2 : q.2.2.2.length = D.length + 1 := by rw [e1]; simp
    exact r_new C (by omega) (by omega) (by rw [← e1]; exact hrs) hkd hL0 hd h k
  | anewarray idx =>
    obtain rfl := mLen_of hlen rfl
    obtain ⟨hkd, hL0, hrm⟩ := mEck_at he rfl
    exact r_anewa C hlq hrc hrs hkd hL0 hd h k
  | newarray at_ =>
    obtain rfl := mLen_of hlen rfl
    cases at_
    case int => exact r_newa (t := 0) (Or.inl ⟨rfl, rfl⟩) C hlq hrc hrs hd h k
    case byte => exact r_newa (t := 1) (Or.inr ⟨rfl, rfl⟩) C hlq hrc hrs hd h k
    all_goals exact absurd h (by simp [mStep])
  | multianewarray idx dims =>
    obtain rfl := mLen_of hlen rfl
    obtain ⟨hkd, hL0, hrm⟩ := mEck_at he rfl
    by_cases h2 : dims = 2
    · subst h2
      exact r_mnewa C hlq hrc hrs hkd hL0 hd h k
    · exfalso
      unfold mStep at h
      split at h
      all_goals (first | (simp_all; done) | contradiction)
  | invokestatic idx =>
    obtain rfl := mLen_of hlen rfl
    obtain ⟨hkd, hL0, hrm⟩ := mEck_at he rfl
    have hmono := mStep_mono q h
    simp only [mKd, Bool.or_eq_true] at hkd
    rcases hkd with (((hkd | hkd) | hkd) | hkd) | hkd
    · have hkd := Nat.eq_of_beq_eq_true hkd
      subst hkd
      have hrm : mRm row 12 a = true := by
        rcases hrm with h9 | h9
        · cases h9
        · exact h9
      exact absurd (mCond_eq h).2 (by intro h9; cases h9)
    · have hkd := Nat.eq_of_beq_eq_true hkd
      subst hkd
      have hrm : mRm row 13 a = true := by
        rcases hrm with h9 | h9
        · cases h9
        · exact h9
      exact absurd (mCond_eq h).2 (by intro h9; cases h9)
    · have hkd := Nat.eq_of_beq_eq_true hkd
      subst hkd
      have hrm : mRm row 21 a = true := by
        rcases hrm with h9 | h9
        · cases h9
        · exact h9
      exact c_cpy C hlD hrm hL0 hd h k
    · have hkd := Nat.eq_of_beq_eq_true hkd
      subst hkd
      have hrm : mRm row 24 a = true := by
        rcases hrm with h9 | h9
        · cases h9
        · exact h9
      exact c_max C (by omega) (by omega) hrm hL0 hd h k
    · have hkd := Nat.eq_of_beq_eq_true hkd
      subst hkd
      have hrm : mRm row 25 a = true := by
        rcases hrm with h9 | h9
        · cases h9
        · exact h9
      exact c_min C (by omega) (by omega) hrm hL0 hd h k
  | invokevirtual idx =>
    obtain rfl := mLen_of hlen rfl
    obtain ⟨hkd, hL0, hrm⟩ := mEck_at he rfl
    have hmono := mStep_mono q h
    simp only [mKd, Bool.or_eq_true] at hkd
    rcases hkd with ((hkd | hkd) | hkd) | hkd
    · have hkd := Nat.eq_of_beq_eq_true hkd
      subst hkd
      have hrm : mRm row 10 a = true := by
        rcases hrm with h9 | h9
        · cases h9
        · exact h9
      exact absurd (mCond_eq h).2 (by intro h9; cases h9)
    · have hkd := Nat.eq_of_beq_eq_true hkd
      subst hkd
      have hrm : mRm row 11 a = true := by
        rcases hrm with h9 | h9
        · cases h9
        · exact h9
      exact absurd (mCond_eq h).2 (by intro h9; cases h9)
    · have hkd := Nat.eq_of_beq_eq_true hkd
      subst hkd
      have hrm : mRm row 22 a = true := by
        rcases hrm with h9 | h9
        · cases h9
        · exact h9
      exact c_len HS C (by omega) (by omega) hrm hL0 hd h k
    · have hkd := Nat.eq_of_beq_eq_true hkd
      subst hkd
      have hrm : mRm row 23 a = true := by
        rcases hrm with h9 | h9
        · cases h9
        · exact h9
      exact c_chr HS C (by omega) (by omega) hrm hL0 hd h k
  | invokespecial idx =>
    obtain rfl := mLen_of hlen rfl
    obtain ⟨hkd, hL0, hrm⟩ := mEck_at he rfl
    have hmono := mStep_mono q h
    simp only [mKd, Bool.or_eq_true] at hkd
    rcases hkd with (hkd | hkd) | hkd
    · have hkd := Nat.eq_of_beq_eq_true hkd
      subst hkd
      have hrm : mRm row 14 a = true := by
        rcases hrm with h9 | h9
        · cases h9
        · exact h9
      exact absurd (mCond_eq h).2 (by intro h9; cases h9)
    · have hkd := Nat.eq_of_beq_eq_true hkd
      subst hkd
      have hrm : mRm row 15 a = true := by
        rcases hrm with h9 | h9
        · cases h9
        · exact h9
      exact absurd (mCond_eq h).2 (by intro h9; cases h9)
    · have hkd := Nat.eq_of_beq_eq_true hkd
      subst hkd
      have hrm : mRm row 20 a = true := by
        rcases hrm with h9 | h9
        · cases h9
        · exact h9
      exact c_obj C hrm hL0 hd h k
  | ireturn =>
    exfalso
    unfold mStep at h
    dsimp only at h
    repeat' split at h
    all_goals (first | cases h | (obtain ⟨-, h⟩ := mCond_eq h; cases h))
  | lreturn =>
    exfalso
    unfold mStep at h
    dsimp only at h
    repeat' split at h
    all_goals (first | cases h | (obtain ⟨-, h⟩ := mCond_eq h; cases h))
  | areturn =>
    exfalso
    unfold mStep at h
    dsimp only at h
    repeat' split at h
    all_goals (first | cases h | (obtain ⟨-, h⟩ := mCond_eq h; cases h))
  | return_ =>
    exfalso
    unfold mStep at h
    dsimp only at h
    repeat' split at h
    all_goals (first | cases h | (obtain ⟨-, h⟩ := mCond_eq h; cases h))
  | _ => exact absurd h (by simp [mStep])
end MSI
end
section
/-! ===== the simulation: a run of the small machine is a walk of the real one ===== -/
def mPr3 (en : mEnt) (row : mRow) (st : List Value) (D : mHp) (pc : Nat) (L : mLoc) (o : Option mRes) : Prop :=
  (∀ v, o = some (.inr (.inl v)) → (en.1 = .ireturn ∧ ∃ (x : Int32) (ty : FieldType), st = [.int x] ∧ row.2.2.2.2.1 = some ty ∧ narrow ty (.int x) = .int x ∧ v = some (.int x)) ∨ (en.1 = .lreturn ∧ ∃ x : Int64, st = [.long x] ∧ row.2.2.2.2.1 = some .long ∧ v = some (.long x))
    ∨ (en.1 = .areturn ∧ ∃ (x : Nat) (C : String), st = [.ref x] ∧ row.2.2.2.2.1 = some (.object C) ∧ v = some (.ref x)) ∨ (en.1 = .return_ ∧ st = [] ∧ row.2.2.2.2.1 = none ∧ v = none)) ∧
  (∀ x, o = some (.inr (.inr x)) → ((∃ idx, en.1 = .invokestatic idx) ∧ mCall en false pc L st D = some (.inr (.inr x))) ∨ (((∃ idx, en.1 = .invokevirtual idx) ∨ (∃ idx, en.1 = .invokespecial idx)) ∧ mCall en true pc L st D = some (.inr (.inr x))))
section MP3
variable {en : mEnt} {row : mRow} {st : List Value} {D : mHp} {pc : Nat} {L : mLoc}
theorem mPr3_none : mPr3 en row st D pc L none := ⟨fun _ h => (by cases h), fun _ h => (by cases h)⟩
theorem mPr3_nx {pc' : Nat} {L' : mLoc} {st' : List Value} {D' : mHp} : mPr3 en row st D pc L (mNx pc' L' st' D') := ⟨fun _ h => (by simp [mNx] at h), fun _ h => (by simp [mNx] at h)⟩
theorem mPr3_go {pc' : Nat} {off : Int} {L' : mLoc} {st' : List Value} {D' : mHp} : mPr3 en row st D pc L (mGo pc' off L' st' D') := ⟨fun _ h => (by simp [mGo] at h), fun _ h => (by simp [mGo] at h)⟩
theorem mPr3_br {b : Bool} {pc' : Nat} {off : Int} {L' : mLoc} {st' : List Value} {D' : mHp} : mPr3 en row st D pc L (mBr b pc' off L' st' D') := ⟨fun _ h => (by simp [mBr] at h), fun _ h => (by simp [mBr] at h)⟩
theorem mPr3_cond {b : Bool} {o : Option mRes} (h : b = true → mPr3 en row st D pc L o) : mPr3 en row st D pc L (cond b o none) := by
  cases b with
  | true => exact h rfl
  | false => exact mPr3_none
theorem mPr3_bind {α : Type} {o : Option α} {f : α → Option mRes} (h : ∀ a, o = some a → mPr3 en row st D pc L (f a)) : mPr3 en row st D pc L (o.bind f) := by
  cases o with
  | none => exact mPr3_none
  | some a => exact h a rfl
theorem mCall_no {v : Bool} (x : Option Value) (h : mCall en v pc L st D = some (.inr (.inl x))) : False := by
  unfold mCall at h
  repeat' split at h
  all_goals (first | cases h | (have h9 := (mCond_eq h).2; simp [mNx] at h9))
end MP3
set_option maxHeartbeats 4000000 in
theorem mStep_out {X : mSc} {row : mRow} {en : mEnt} {pc : Nat} {L : mLoc} {st : List Value} {D : mHp} : mPr3 en row st D pc L (mStep X row en pc L st D) := by
  unfold mStep
  split
  all_goals (try (repeat' (first | exact mPr3_none | exact mPr3_nx | exact mPr3_go | exact mPr3_br | (refine mPr3_cond fun hcnd => ?_) | (refine mPr3_bind fun _ _ => ?_) | split)))
  all_goals (first
    | exact ⟨fun v h => (mCall_no v h).elim, fun x h => Or.inl ⟨⟨_, by assumption⟩, h⟩⟩
    | exact ⟨fun v h => (mCall_no v h).elim, fun x h => Or.inr ⟨Or.inl ⟨_, by assumption⟩, h⟩⟩
    | exact ⟨fun v h => (mCall_no v h).elim, fun x h => Or.inr ⟨Or.inr ⟨_, by assumption⟩, h⟩⟩
    | exact ⟨fun v h => Or.inl ⟨by assumption, _, _, rfl, by assumption, of_decide_eq_true hcnd, (by cases h; rfl)⟩, fun _ h => (by cases h)⟩
    | exact ⟨fun v h => Or.inr (Or.inl ⟨by assumption, _, rfl, of_decide_eq_true hcnd, (by cases h; rfl)⟩), fun _ h => (by cases h)⟩
    | exact ⟨fun v h => Or.inr (Or.inr (Or.inl ⟨by assumption, _, _, rfl, by assumption, (by cases h; rfl)⟩)), fun _ h => (by cases h)⟩
    | exact ⟨fun v h => Or.inr (Or.inr (Or.inr ⟨by assumption, rfl, of_decide_eq_true hcnd, (by cases h; rfl)⟩)), fun _ h => (by cases h)⟩)
theorem mCall_eq {en : mEnt} {v : Bool} {pc : Nat} {L : mLoc} {st : List Value} {D : mHp} {x : Nat × List Value × List Value} (h : mCall en v pc L st D = some (.inr (.inr x))) :
    x = (en.2.2.2.2.1, (st.take en.2.2.2.2.2.1).reverse, st.drop en.2.2.2.2.2.1) ∧ en.2.2.2.2.2.1 ≤ st.length ∧ mC1 (st.take en.2.2.2.2.2.1) = true ∧ mWt (st.drop en.2.2.2.2.2.1) ≤ 8 ∧ (v = true → mRcv D (st.take en.2.2.2.2.2.1).reverse en.2.2.2.2.1 = true) ∧ en.2.2.2.1 ≠ 20 ∧ en.2.2.2.1 ≠ 21 ∧ en.2.2.2.1 ≠ 22 ∧ en.2.2.2.1 ≠ 23 ∧ en.2.2.2.1 ≠ 24 ∧ en.2.2.2.1 ≠ 25 := by
  unfold mCall at h
  split at h
  · split at h
    · have h9 := (mCond_eq h).2; simp [mNx] at h9
    · cases h
  · split at h
    · split at h
      · have h9 := (mCond_eq h).2; simp [mNx] at h9
      · cases h
    · cases h
  · split at h
    · split at h
      · have h9 := (mCond_eq h).2; simp [mNx] at h9
      · cases h
    · cases h
  · split at h
    · split at h
      · have h9 := (mCond_eq h).2; simp [mNx] at h9
      · cases h
    · cases h
  · split at h
    · have h9 := (mCond_eq h).2; simp [mNx] at h9
    · cases h
  · split at h
    · have h9 := (mCond_eq h).2; simp [mNx] at h9
    · cases h
  · obtain ⟨h1, h2⟩ := mCond_eq h
    simp only [Bool.and_eq_true, Bool.or_eq_true, Bool.not_eq_true'] at h1
    refine ⟨?_, Nat.le_of_ble_eq_true h1.1.1.1, h1.1.1.2, Nat.le_of_ble_eq_true h1.1.2, fun hv => ?_, by assumption, by assumption, by assumption, by assumption, by assumption, by assumption⟩
    · simp only [Option.some.injEq, Sum.inr.injEq] at h2
      exact h2.symm
    · rcases h1.2 with h3 | h3
      · rw [hv] at h3; cases h3
      · exact h3
theorem lv_args1 : ∀ (vs : List Value) (k i : Nat) (v : Value), (∀ w ∈ vs, w.category = 1) → vs[i]? = some v → (k + i, v) ∈ lv_args k vs := by
  intro vs
  induction vs with
  | nil => intro k i v _ h; simp at h
  | cons w vs ih =>
    intro k i v hc h
    have hw : w.category = 1 := hc w List.mem_cons_self
    have e : lv_args k (w :: vs) = (k, w) :: lv_args (k + 1) vs := by
      show (k, w) :: lv_args (if w.category = 2 then k + 2 else k + 1) vs = _
      rw [if_neg (by omega)]
    rw [e]
    cases i with
    | zero =>
      simp only [List.getElem?_cons_zero, Option.some.injEq] at h
      subst h
      exact List.mem_cons_self
    | succ i =>
      simp only [List.getElem?_cons_succ] at h
      have := ih (k + 1) i v (fun u hu => hc u (List.mem_cons_of_mem _ hu)) h
      rw [show k + 1 + i = k + (i + 1) by omega] at this
      exact List.mem_cons_of_mem _ this
theorem lg_sl1 : ∀ (vs : List Value), (∀ w ∈ vs, w.category = 1) → (lg_sl vs).length = vs.length := by
  intro vs
  induction vs with
  | nil => intro _; rfl
  | cons w vs ih =>
    intro hc
    have hw : w.category = 1 := hc w List.mem_cons_self
    have h1 := ih (fun u hu => hc u (List.mem_cons_of_mem _ hu))
    unfold lg_sl at h1 ⊢
    rw [List.flatMap_cons, List.length_append, h1, if_neg (by omega)]
    simp
    omega
theorem mC1_cat {as : List Value} (h : mC1 as = true) : ∀ w ∈ as, w.category = 1 := fun w hw => Nat.eq_of_beq_eq_true (List.all_eq_true.mp h w hw)
theorem mEnv_LR {G : mG} {as : List Value} {n : Nat} {ls : Array Slot} (hc : ∀ w ∈ as, w.category = 1) (hn : as.length ≤ n) (hl : lv_has ls n (lv_args 0 (as.map (mV G)))) : mLR G ls n (mEnv n as) := by
  refine ⟨by simp [mEnv]; omega, hl.1, hl.2.1, fun i v hi => ?_⟩
  have hi2 : as[i]? = some v := by
    unfold mEnv at hi
    by_cases hlt : i < as.length
    · rw [List.getElem?_append_left (by rw [List.length_map]; exact hlt), List.getElem?_map] at hi
      cases ha : as[i]? with
      | none => rw [ha] at hi; cases hi
      | some w =>
        rw [ha] at hi
        simp only [Option.map_some, Option.some.injEq] at hi
        rw [hi]
    · rw [List.getElem?_append_right (by rw [List.length_map]; omega), List.getElem?_replicate] at hi
      split at hi <;> simp at hi
  have := lv_args1 (as.map (mV G)) 0 i (mV G v) (fun w hw => by
    obtain ⟨u, hu, rfl⟩ := List.mem_map.mp hw
    rw [mV_cat]
    exact hc u hu) (by rw [List.getElem?_map, hi2]; rfl)
  rw [Nat.zero_add] at this
  exact hl.2.2 _ this
section MSF
variable {p : Program} {l : Launch} {e : Env} {R : Room} {s : State} {m : MethodId} {args : Array Value} {below : List Frame} {meth : Method} {c : Code} {Q : State → Prop} {G : mG} {row : mRow} {d0 s0 : Nat} {pc : Nat} {L : mLoc} {st : List Value} {D : mHp} {r : Option Value}
theorem m_ret {X : mSc} {en : mEnt} (C : mCx p R s m args meth c G row d0) (hret : meth.sig.returnType = row.2.2.2.2.1) (hlk : meth.locks = false) (hd : decode row.2.2.1 pc = .ok (en.1, en.2.1)) (he : mEck row en = true) (h : mStep X row en pc L st D = some (.inr (.inl r))) :
    mK p l e R s m args below meth c (MQ below (mQc G r D) args s (D.length - d0) (mSl D - s0) (mA G)) G row.2.2.2.1 d0 s0 pc L st D := by
  intro ls H locs cells slots hL hP hS hc hs
  obtain ⟨hx, hb, hml, hown, hts, hE, -, hz, hfr, hlo⟩ := C
  have ec : cells = D.length - d0 := by omega
  have es : slots = mSl D - s0 := by omega
  subst ec
  subst es
  have hlen : mLnk' en.1 en.2.1 = true := by
    unfold mEck at he
    rw [Bool.and_eq_true] at he
    exact he.1
  have hend : ∀ t : State, t.heap = H → s.WarmedH t.vm → mQc G r D args s (.returned (r.map (mV G))) t := fun t ht hW => ⟨rfl, by rw [ht]; exact hP, hS.F ht⟩
  rcases mStep_out.1 r h with ⟨h1, x, ty, rfl, hty, hn, rfl⟩ | ⟨h1, x, rfl, hty, rfl⟩ | ⟨h1, x, Cn, rfl, hty, rfl⟩ | ⟨h1, rfl, hty, rfl⟩
  · rw [h1] at hd hlen
    rw [mLen_of hlen rfl] at hd
    exact W.zret hx hb (hret.trans hty) hn hend hS.2.2 hd hlk
  · rw [h1] at hd hlen
    rw [mLen_of hlen rfl] at hd
    exact W.lret hx hb (hret.trans hty) hend hS.2.2 hd hlk
  · rw [h1] at hd hlen
    rw [mLen_of hlen rfl] at hd
    exact W.aret hx hb (hret.trans hty) (Or.inl ⟨Cn, rfl⟩) (Or.inr ⟨_, rfl⟩) hend hS.2.2 hd hlk
  · rw [h1] at hd hlen
    rw [mLen_of hlen rfl] at hd
    exact W.vret hx hb (hret.trans hty) hend hS.2.2 hd hlk
end MSF
end
section
theorem mNi_ck : mLT.all (fun q => !(Nat.beq q.2.2.1 14 || Nat.beq q.2.2.1 15) || match mMet q.2.2.2.1 with
    | some r => decide (r.2.2.2.2.1 = none)
    | none => true) = true := by decide +kernel
def mSimAt (l : Launch) (G : mG) (X : mSc) (n : Nat) : Prop :=
  ∀ (mid pc : Nat) (L : mLoc) (st : List Value) (D : mHp) (r : Option Value) (Df : mHp), mRun X n mid pc L st D = some (r, Df) → Df.length ≤ 1000000 →
  ∀ (p : Program) (e : Env) (R : Room) (s : State) (m : MethodId) (args : Array Value) (below : List Frame) (meth : Method) (c : Code) (Q : State → Prop) (row : mRow) (d0 s0 : Nat), mMet mid = some row → mCx p R s m args meth c G row d0 → Df.length ≤ R.cells + d0 → mSl Df ≤ R.slots + s0 →
  (∀ (pc : Nat) (L : mLoc) (st : List Value) (en : mEnt), mStep X row en pc L st Df = some (.inr (.inl r)) → decode row.2.2.1 pc = .ok (en.1, en.2.1) → mEck row en = true → mK p l e R s m args below meth c Q G row.2.2.2.1 d0 s0 pc L st Df) →
  mK p l e R s m args below meth c Q G row.2.2.2.1 d0 s0 pc L st D
/-- a method's contract out of the run of its body -/
theorem m_met {l : Launch} {G : mG} {X : mSc} {n : Nat} (ih : mSimAt l G X n) {mid : Nat} {row : mRow} {as : List Value} {D : mHp} {r : Option Value} {D' : mHp} (hr : mMet mid = some row) (h5 : row.1 ≠ 5) (h6 : Nat.ble row.1 6 = true) (hc : ∀ w ∈ as, w.category = 1) (hn : as.length ≤ row.2.2.2.1)
    (h : mRun X n mid 0 (mEnv row.2.2.2.1 as) [] D = some (r, D')) (hlim : D'.length ≤ 1000000) : mMt l G row as D r D' := by
  obtain ⟨hpl, hcl, -, -, -⟩ := mM_at hr h6 h5
  obtain ⟨hle, hls⟩ := mRun_mono _ _ _ _ _ _ _ h
  refine Met.ofW (cc := row.2.2.1) (maxL := row.2.2.2.1) (ret := row.2.2.2.2.1) hpl rfl ?_
  intro p e s m args below meth c s₁ B hml hv
  obtain ⟨rfl, hsz, hP, hE⟩ := hv
  have hts := atoms_spec (ws := Cond.code row.2.1 row.2.2.1 row.2.2.2.1 row.2.2.2.2.1 :: mGW) B.pre
  have hown : s.vm.findClass row.2.1.cls = some m.cls := findClass_of_methodNamed B.named
  have hnm : meth.name = row.2.1.name := (name_of_methodNamed B.named B.method).1
  have hcm : ∀ w ∈ as.map (mV G), w.category = 1 := fun w hw => by
    obtain ⟨u, hu, rfl⟩ := List.mem_map.mp hw
    rw [mV_cat]
    exact hc u hu
  have hl := lv_entry (as.map (mV G)) (n := row.2.2.2.1) (by rw [lg_sl1 _ hcm, List.length_map]; exact hn)
  rw [lg_entry_eq]
  generalize (lg_sl (as.map (mV G)) ++ List.replicate (row.2.2.2.1 - (lg_sl (as.map (mV G))).length) Slot.unset).toArray = ls at hl ⊢
  have C : mCx p ({ frames := row.2.2.2.2.2.1, cells := D'.length - D.length, slots := mSl D' - mSl D, locals := row.2.2.2.2.2.2 }) s m (as.map (mV G)).toArray meth c G row D.length :=
    ⟨B.exec, B.bytes, hml, by rw [← hcl]; exact hown, fun w hw => hts w (List.mem_cons_of_mem _ hw), hE, fun e => hnm.trans e, hsz, Nat.le_refl _, Nat.le_refl _⟩
  have K := ih mid 0 (mEnv row.2.2.2.1 as) [] D r D' h hlim p e _ s m (as.map (mV G)).toArray below meth c (MQ below (mQc G r D') (as.map (mV G)).toArray s (D'.length - D.length) (mSl D' - mSl D) (mA G)) row D.length (mSl D) hr C (by show _ ≤ (D'.length - D.length) + D.length; omega) (by show _ ≤ (mSl D' - mSl D) + mSl D; omega)
    (fun pc L st en hst hd he => m_ret C B.returns B.notSynchronized hd he hst)
  exact K ls s.heap [] 0 0 (mEnv_LR hc hn hl) hP va_S.rf (by omega) (by omega)
theorem m_sim (l : Launch) (G : mG) (X : mSc) (hG : G.2.2.2.2 = X) (HS : mSO l G) : ∀ n, mSimAt l G X n := by
  intro n
  induction n with
  | zero => intro mid pc L st D r Df h; cases h
  | succ n ih =>
    intro mid pc L st D r Df h hlim p e R s m args below meth c Q row d0 s0 hrow C hrc hrs hend
    unfold mRun at h
    rw [hrow] at h
    cases hf : mFetch mid pc with
    | none => rw [hf] at h; cases h
    | some en =>
      rw [hf] at h
      dsimp only at h
      obtain ⟨hd, he⟩ := mCk_at (mCk_all mid (mMet_lt hrow)) hrow hf
      cases hst : mStep X row en pc L st D with
      | none => rw [hst] at h; cases h
      | some res =>
        rw [hst] at h
        cases res with
        | inl q =>
          dsimp only at h
          obtain ⟨h1, h2⟩ := mRun_mono _ _ _ _ _ _ _ h
          obtain ⟨h3, h4⟩ := mStep_mono q hst
          dsimp only at h1 h2
          exact m_step hG HS C (by omega) (by omega) (by omega) (by omega) hd he hst (ih mid q.1 q.2.1 q.2.2.1 q.2.2.2 r Df h hlim p e R s m args below meth c Q row d0 s0 hrow C hrc hrs hend)
        | inr res =>
          cases res with
          | inl v =>
            dsimp only at h
            cases h
            exact hend pc L st en hst hd he
          | inr x =>
            dsimp only at h
            cases hm : mMet x.1 with
            | none => rw [hm] at h; cases h
            | some rr =>
              rw [hm] at h
              dsimp only at h
              obtain ⟨hnb, h⟩ := mCond_eq h
              have hnb := Nat.le_of_ble_eq_true hnb
              split at h
              · rename_i z hz
                obtain ⟨r1, D1⟩ := z
                dsimp only at h
                obtain ⟨h1, h2⟩ := mRun_mono _ _ _ _ _ _ _ hz
                obtain ⟨h3, h4⟩ := mRun_mono _ _ _ _ _ _ _ h
                dsimp only at h1 h2 h3 h4
                have k := ih mid (pc + 3) L (r1.toList ++ x.2.2) D1 r Df h hlim p e R s m args below meth c Q row d0 s0 hrow C hrc hrs hend
                rcases mStep_out.2 x hst with ⟨⟨idx, hi⟩, hcall⟩ | ⟨hi, hcall⟩
                · obtain ⟨hx, hb1, hc1, hwt, -, n0, n1, n2, n3, n4, n5⟩ := mCall_eq hcall
                  subst hx
                  obtain ⟨ins, len, j, kind, a, b, z⟩ := en
                  dsimp only at hi
                  subst hi
                  obtain ⟨hkd, hL0, hrm⟩ := mEck_at he rfl
                  have hlen : len = 3 := by
                    unfold mEck at he
                    rw [Bool.and_eq_true] at he
                    exact mLen_of he.1 rfl
                  subst hlen
                  simp only [mKd, Bool.or_eq_true] at hkd
                  have hk : kind = 12 ∨ kind = 13 := by
                    rcases hkd with (((hkd | hkd) | hkd) | hkd) | hkd
                    · exact Or.inl (Nat.eq_of_beq_eq_true hkd)
                    · exact Or.inr (Nat.eq_of_beq_eq_true hkd)
                    · exact absurd (Nat.eq_of_beq_eq_true hkd) n1
                    · exact absurd (Nat.eq_of_beq_eq_true hkd) n4
                    · exact absurd (Nat.eq_of_beq_eq_true hkd) n5
                  have hrm' : mRm row kind a = true := by
                    rcases hrm with h9 | h9
                    · have := Nat.blt_eq.mp h9
                      dsimp only at this
                      omega
                    · exact h9
                  obtain ⟨rr', hrr', -, -, r5, r6⟩ := mRm_at (by omega) hrm'
                  have e9 : rr' = rr := Option.some.inj (hrr'.symm.trans hm)
                  subst e9
                  exact c_static hk C (by omega) (by omega) h1 h2 hrm' hL0 hd hb1 hwt (fun row' hrow' => by
                    have e8 : row' = rr' := Option.some.inj (hrow'.symm.trans hm)
                    subst e8
                    refine m_met ih hm r5 r6 (fun w hw => mC1_cat hc1 w (List.mem_reverse.mp hw)) hnb hz (by omega)) k
                · obtain ⟨hx, hb1, hc1, hwt, hrv, n0, n1, n2, n3, n4, n5⟩ := mCall_eq hcall
                  subst hx
                  obtain ⟨ins, len, j, kind, a, b, z⟩ := en
                  dsimp only at hi
                  have hfin : ∀ idx, mKi ins = some idx → (kind = 10 ∨ kind = 11 ∨ kind = 14 ∨ kind = 15) → (((kind = 10 ∨ kind = 11) ∧ decode row.2.2.1 pc = .ok (.invokevirtual idx, 3)) ∨ ((kind = 14 ∨ kind = 15) ∧ decode row.2.2.1 pc = .ok (.invokespecial idx, 3))) → mK p l e R s m args below meth c Q G row.2.2.2.1 d0 s0 pc L st D := by
                    intro idx hki hk hd2
                    obtain ⟨hkd, hL0, hrm⟩ := mEck_at he hki
                    dsimp only at hL0 hrm
                    have hrm' : mRm row kind a = true := by
                      rcases hrm with h9 | h9
                      · have := Nat.blt_eq.mp h9
                        omega
                      · exact h9
                    obtain ⟨rr', hrr', -, -, r5, r6⟩ := mRm_at (by omega) hrm'
                    have e9 : rr' = rr := Option.some.inj (hrr'.symm.trans hm)
                    subst e9
                    refine c_inst hk C (by omega) (by omega) h1 h2 (by omega) hrm' hL0 ?_ hb1 hwt (hrv rfl) (fun row' hrow' => by
                      have e8 : row' = rr' := Option.some.inj (hrow'.symm.trans hm)
                      subst e8
                      exact m_met ih hm r5 r6 (fun w hw => mC1_cat hc1 w (List.mem_reverse.mp hw)) hnb hz (by omega)) k
                    rcases hd2 with h9 | ⟨h9, h8⟩
                    · exact Or.inl h9
                    · refine Or.inr ⟨h9, h8, fun row' hrow' => ?_⟩
                      have hq := List.all_eq_true.mp mNi_ck _ (List.mem_of_getElem? hL0)
                      rw [hrow'] at hq
                      rcases h9 with rfl | rfl
                      · simpa using hq
                      · simpa using hq
                  rcases hi with ⟨idx, hi⟩ | ⟨idx, hi⟩
                  · subst hi
                    have hlen : len = 3 := by
                      unfold mEck at he
                      rw [Bool.and_eq_true] at he
                      exact mLen_of he.1 rfl
                    subst hlen
                    obtain ⟨hkd, -, -⟩ := mEck_at he rfl
                    simp only [mKd, Bool.or_eq_true] at hkd
                    have hk : kind = 10 ∨ kind = 11 := by
                      rcases hkd with ((hkd | hkd) | hkd) | hkd
                      · exact Or.inl (Nat.eq_of_beq_eq_true hkd)
                      · exact Or.inr (Nat.eq_of_beq_eq_true hkd)
                      · exact absurd (Nat.eq_of_beq_eq_true hkd) n2
                      · exact absurd (Nat.eq_of_beq_eq_true hkd) n3
                    exact hfin idx rfl (by omega) (Or.inl ⟨hk, hd⟩)
                  · subst hi
                    have hlen : len = 3 := by
                      unfold mEck at he
                      rw [Bool.and_eq_true] at he
                      exact mLen_of he.1 rfl
                    subst hlen
                    obtain ⟨hkd, -, -⟩ := mEck_at he rfl
                    simp only [mKd, Bool.or_eq_true] at hkd
                    have hk : kind = 14 ∨ kind = 15 := by
                      rcases hkd with (hkd | hkd) | hkd
                      · exact Or.inl (Nat.eq_of_beq_eq_true hkd)
                      · exact Or.inr (Nat.eq_of_beq_eq_true hkd)
                      · exact absurd (Nat.eq_of_beq_eq_true hkd) n0
                    exact hfin idx rfl (by omega) (Or.inr ⟨hk, hd⟩)
              · cases h
end
section
/-! ===== the law's entry: what the Statement gives of the start ===== -/
noncomputable def mTm (t : Nat) : Term := .string "EnvyRust$TextReader" (mTk.getD t 0)
noncomputable def mTv (t : Nat) : Term := .field (mTm t) "java/lang/String" "value" "[B"
noncomputable def mNwd (q : Nat × Nat × Nat × Nat) : Cond := match q.2.1 with
  | 0 => .exactly (mTm q.2.2.1) "java/lang/String"
  | 1 => .eq (.field (mTm q.2.2.1) "java/lang/String" "coder" "B") (.int 0)
  | 2 => .arrayOf (mTv q.2.2.1) .byte
  | 3 => .eq (.length (mTv q.2.2.1)) (.int (Int32.ofNat (mTx.getD q.2.2.1 []).length))
  | 4 => .eq (.elem (mTv q.2.2.1) (.int (Int32.ofNat q.2.2.2))) (.int (nI ((mTx.getD q.2.2.1 []).getD q.2.2.2 0)))
  | _ => .eq (mTm q.2.2.1) (.string "EnvyRustModel" q.2.2.2)
theorem mNr_wk : mWalk 0 (flatC (Jvm.Cond.and given_1 narrow_1)) (mNr.map fun q => (q.1, mNwd q)) = true := by decide +kernel
def mNrHas (k t j : Nat) : Nat × Nat × Nat × Nat → Bool := fun q => Nat.beq q.2.1 k && Nat.beq q.2.2.1 t && Nat.beq q.2.2.2 j
theorem mNr_ck : ((List.range 15).all fun t => mNr.any (mNrHas 0 t 0) && mNr.any (mNrHas 1 t 0) && mNr.any (mNrHas 2 t 0) && mNr.any (mNrHas 3 t 0) && mNr.any (mNrHas 5 t (mTk4.getD t 0)) && ((List.range (mTx.getD t []).length).all fun j => mNr.any (mNrHas 4 t j)) && Nat.blt (mTx.getD t []).length 100) = true := by decide +kernel
theorem mNr_at {k t j : Nat} (h : mNr.any (mNrHas k t j) = true) : ∃ i, mNwd (i, k, t, j) ∈ flatC (Jvm.Cond.and given_1 narrow_1) := by
  obtain ⟨q, hq, h1⟩ := List.any_eq_true.mp h
  simp only [mNrHas, Bool.and_eq_true] at h1
  have hm := mWalk_spec mNr_wk _ (List.mem_map.mpr ⟨q, hq, rfl⟩)
  obtain ⟨i, k', t', j'⟩ := q
  have e1 := Nat.eq_of_beq_eq_true h1.1.1
  have e2 := Nat.eq_of_beq_eq_true h1.1.2
  have e3 := Nat.eq_of_beq_eq_true h1.2
  dsimp only at e1 e2 e3
  subst e1
  subst e2
  subst e3
  exact ⟨i, hm⟩
/-- a text's reference: by its place in either class -/
theorem mLT_str : mLT.all (fun q => !Nat.beq q.2.2.1 3 || (Nat.beq q.1 1 && Nat.beq q.2.1 (mTk.getD q.2.2.2.2.1 0)) || (Nat.beq q.1 4 && Nat.beq q.2.1 (mTk4.getD q.2.2.2.2.1 0))) = true := by decide +kernel
theorem mEq_ref {args : Array Value} {s : State} {t u : Term} {a : Nat} (h : (Cond.eq t u).before args s = true) (ht : t.eval args s none [] s = some (.ref a)) : u.eval args s none [] s = some (.ref a) := by
  cases hu : u.eval args s none [] s with
  | none => simp [Cond.before, Cond.holds, Cond.value, ht, hu] at h
  | some w =>
    simp only [Cond.before, Cond.holds, Cond.value, ht, hu] at h
    cases w <;> simp_all
section MST
variable {s : State} {b L : Nat} {xs : Nat → Int32}
theorem mTxt_all (hgv : (Jvm.Cond.and given_1 narrow_1).before #[Value.ref b] s = true) (A : Nat → Prop) (hA : ∀ a : Nat, a < s.heap.size → ¬ A a) : ∀ t : Nat, ∃ q : Nat × Nat, t < 15 → (mTm t).eval #[Value.ref b] s none [] s = some (.ref q.1) ∧ va_O "java/lang/String" q.1 A s s.heap ∧ va_OF "java/lang/String" "coder" "B" (.int 0) q.1 A s s.heap ∧ va_OF "java/lang/String" "value" "[B" (.ref q.2) q.1 A s s.heap ∧
    va_T .byte q.2 (mTx.getD t []).length (fun j => .int (nI ((mTx.getD t []).getD j 0))) A s s.heap ∧ (Term.string "EnvyRustModel" (mTk4.getD t 0)).eval #[Value.ref b] s none [] s = some (.ref q.1) := by
  intro t
  by_cases ht : t < 15
  · have hfl := flat_of_before _ hgv
    have hck := List.all_eq_true.mp mNr_ck t (List.mem_range.mpr ht)
    simp only [Bool.and_eq_true] at hck
    obtain ⟨⟨⟨⟨⟨⟨h0, h1⟩, h2⟩, h3⟩, h5⟩, h4⟩, h6⟩ := hck
    obtain ⟨i0, w0⟩ := mNr_at h0
    obtain ⟨i1, w1⟩ := mNr_at h1
    obtain ⟨i2, w2⟩ := mNr_at h2
    obtain ⟨i3, w3⟩ := mNr_at h3
    obtain ⟨i5, w5⟩ := mNr_at h5
    obtain ⟨a, c, cA, kA, q1, q2, q3, q4, q5, q6, -⟩ := Cond.exactly_spec (args := #[Value.ref b]) (first := s) (o := none) (s := s) (idx := []) (t := mTm t) (cls := "java/lang/String") (hfl _ w0)
    have h6 := Nat.blt_eq.mp h6
    obtain ⟨v, hv, hT⟩ := va_Tof (tm := mTv t) (ty := .byte) (N := (mTx.getD t []).length) (f := fun j => .int (nI ((mTx.getD t []).getD j 0))) (A := A) (by omega) (hfl _ w2) (va_eqt (hfl _ w3)) (fun j hj => by
      obtain ⟨i4, w4⟩ := mNr_at (List.all_eq_true.mp h4 j (List.mem_range.mpr hj))
      exact va_eqt (hfl _ w4)) hA
    exact ⟨(a, v), fun _ => ⟨q1, ⟨cA, q3, q5, by rw [q6]; exact q2, hA a (Array.getElem?_eq_some_iff.mp q3).1⟩, vk_OFof q1 (va_eqt (hfl _ w1)) hA, vk_OFof q1 hv hA, hT, mEq_ref (hfl _ w5) q1⟩⟩
  · exact ⟨(0, 0), fun h => absurd h ht⟩
theorem mArrC_spec {args : Array Value} {type : FieldType} (h : (Cond.arrayClass type).before args s = true) : ∃ (c : ClassId) (k : Class) (comp : ClassId), s.vm.findClass ("[" ++ type.toString) = some c ∧ s.vm.classes[c]? = some k ∧ k.kind = .array comp type := by
  obtain ⟨c, k, comp, h1, h2, h3⟩ := Cond.arrayClass_spec h
  exact ⟨c, k, comp, h1, h2, h3⟩
theorem mKn_all {args : Array Value} (hts : ∀ w ∈ lw_tbl, w.before args s = true) : ∃ (dC : Nat → ClassId) (dI : Nat → Nat → Nat), ∀ (k : Nat) (q : vw_C), vwCl[k]? = some q → u_Kn s q.1 q.2.1 q.2.2 (dC k) (dI k) := by
  have h0 : ∀ a : Nat, ∃ x : ClassId × (Nat → Nat), a < 5 → u_Kn s (mNm a) (mFT a) (mFN a) x.1 x.2 := by
    intro a
    by_cases ha : a < 5
    · obtain ⟨c, iS, h⟩ := u_known (C := mNm a) (T := mFT a) (N := mFN a) (n := mFN a) (fun w hw => hts w (List.mem_filter.mp hw).1) (mU_in ha) (hts _ (List.mem_filter.mp (mNI_in ha).1).1)
      exact ⟨(c, iS), fun _ => h⟩
    · exact ⟨(0, fun _ => 0), fun h => absurd h ha⟩
  obtain ⟨f, hf⟩ := Classical.axiomOfChoice h0
  refine ⟨fun k => (f k).1, fun k => (f k).2, fun k q hq => ?_⟩
  have hk : k < 5 := (List.getElem?_eq_some_iff.mp hq).1
  rw [mCl_ok hk] at hq
  cases hq
  exact hf k hk
theorem mAO_w : Cond.arrayOver (.object "EnvyRust$Sheet") ∈ tables_1 ∧ Cond.arrayOver (.object "java/lang/String") ∈ tables_1 ∧ Cond.arrayOver (.array .int) ∈ tables_1 := ⟨by decide +kernel, by decide +kernel, by decide +kernel⟩
theorem mArr_all {args : Array Value} (hts : ∀ w ∈ lw_tbl, w.before args s = true) : ∃ tc : Nat → ClassId, ∀ (k : Nat) (q : ClassId × FieldType), ([(tc 0, .int), (tc 1, .byte), (tc 2, .object "EnvyRust$Sheet"), (tc 3, .array .int), (tc 4, .object "java/lang/String")] : List (ClassId × FieldType))[k]? = some q → ArrOfT s q.1 q.2 ∧ va_RA s q.1 q.2 := by
  have prim : ∀ ty : FieldType, (ty = .int ∨ ty = .byte) → (Cond.arrayClass ty).before args s = true → ∃ c : ClassId, ArrOfT s c ty ∧ va_RA s c ty := by
    intro ty hty h
    obtain ⟨c, k, comp, h1, h2, h3⟩ := mArrC_spec h
    refine ⟨c, fun n z => ⟨fun q hq => (by cases hq), k, h2, comp, h3⟩, ?_⟩
    rcases hty with rfl | rfl <;> exact h1
  have obj : ∀ C : String, (Cond.arrayOver (.object C)).before args s = true → ∃ c : ClassId, ArrOfT s c (.object C) ∧ va_RA s c (.object C) := by
    intro C h
    obtain ⟨comp, c, k, h1, -, h3, h4, h5⟩ := Cond.arrayOver_spec h
    exact ⟨c, fun n z => ⟨fun q hq => (by cases hq), k, h3, comp, h4⟩, k, comp, h3, h4, h1, h5⟩
  have arr : (Cond.arrayOver (.array .int)).before args s = true → ∃ c : ClassId, ArrOfT s c (.array .int) ∧ va_RA s c (.array .int) := by
    intro h
    obtain ⟨comp, c, k, h1, h3, h4, h5⟩ := Cond.arrayOver_specA h
    exact ⟨c, fun n z => ⟨fun q hq => (by cases hq), k, h3, comp, h4⟩, h5⟩
  obtain ⟨c0, k0⟩ := prim .int (Or.inl rfl) (hts _ (List.mem_filter.mp mAC_i).1)
  obtain ⟨c1, k1⟩ := prim .byte (Or.inr rfl) (hts _ (List.mem_filter.mp mAC_b).1)
  obtain ⟨c2, k2⟩ := obj "EnvyRust$Sheet" (hts _ (mTb_in mAO_w.1))
  obtain ⟨c3, k3⟩ := arr (hts _ (mTb_in mAO_w.2.2))
  obtain ⟨c4, k4⟩ := obj "java/lang/String" (hts _ (mTb_in mAO_w.2.1))
  refine ⟨fun k => match k with
    | 0 => c0
    | 1 => c1
    | 2 => c2
    | 3 => c3
    | _ => c4, fun k q hq => ?_⟩
  match k, hq with
  | 0, hq => cases hq; exact k0
  | 1, hq => cases hq; exact k1
  | 2, hq => cases hq; exact k2
  | 3, hq => cases hq; exact k3
  | 4, hq => cases hq; exact k4
  | k + 5, hq => simp at hq
theorem mST_w : Cond.laysStatic "EnvyRust" "KIND_ABOVE" "[I" ∈ tables_1 ∧ Cond.initialized "EnvyRust" ∈ tables_1 ∧ Cond.laysStatic "java/lang/String" "COMPACT_STRINGS" "Z" ∈ tables_1 ∧ Cond.initialized "java/lang/String" ∈ tables_1 ∧ Cond.laysStatic "jdk/internal/util/Preconditions" "SIOOBE_FORMATTER" "Ljava/util/function/BiFunction;" ∈ tables_1 ∧ Cond.initialized "jdk/internal/util/Preconditions" ∈ tables_1 :=
  ⟨by decide +kernel, by decide +kernel, by decide +kernel, by decide +kernel, by decide +kernel, by decide +kernel⟩
def mKst : Term := .static "EnvyRust" "KIND_ABOVE" "[I"
noncomputable def mNA : List Cond := [.arrayOf mKst .int, .eq (.length mKst) (.int (Int32.ofNat 7)), .eq (.static "java/lang/String" "COMPACT_STRINGS" "Z") (.int 1), .isRef (.static "jdk/internal/util/Preconditions" "SIOOBE_FORMATTER" "Ljava/util/function/BiFunction;")] ++ (List.range 7).map (fun j => Cond.eq (.elem mKst (.int (Int32.ofNat j))) (.int (mKA j)))
theorem mNA_w : mNA.all (fun w => decide (w ∈ flatC (Jvm.Cond.and given_1 narrow_1))) = true := by decide +kernel
theorem mStart_E (hts : ∀ w ∈ lw_tbl, w.before #[Value.ref b] s = true) (hX : va_X b L xs s s.heap) (hbl : b < s.heap.size) (hL : L ≤ 3072) (hgv : (Jvm.Cond.and given_1 narrow_1).before #[Value.ref b] s = true) :
    ∃ G : mG, G.1 = s.heap.size ∧ G.2.2.2.2 = (L, xs) ∧ G.2.1 200 = b ∧ mE G s s.heap := by
  have hA : ∀ a : Nat, a < s.heap.size → ¬ (fun q : Nat => s.heap.size ≤ q) a := fun a h => Nat.not_le.mpr h
  have hfl := flat_of_before _ hgv
  have hna : ∀ w ∈ mNA, w.before #[Value.ref b] s = true := fun w hw => hfl _ (of_decide_eq_true (List.all_eq_true.mp mNA_w w hw))
  obtain ⟨tx, htx⟩ := Classical.axiomOfChoice (mTxt_all hgv _ hA)
  obtain ⟨dC, dI, hKn⟩ := mKn_all hts
  obtain ⟨tc, htc⟩ := mArr_all hts
  obtain ⟨ka, hka, hkT⟩ := va_Tof (tm := mKst) (ty := .int) (N := 7) (f := fun j => .int (mKA j)) (A := fun q : Nat => s.heap.size ≤ q) (by decide) (hna _ (by simp [mNA])) (va_eqt (hna _ (by simp [mNA]))) (fun j hj => va_eqt (hna _ (List.mem_append_right _ (List.mem_map.mpr ⟨j, List.mem_range.mpr hj, rfl⟩)))) hA
  let ro : Nat → Nat := fun i => if i = 100 then ka else if i = 200 then b else if 300 ≤ i then (tx (i - 300)).2 else (tx i).1
  have ro1 : ∀ t, t < 15 → ro t = (tx t).1 := fun t ht => by
    show (if t = 100 then ka else if t = 200 then b else if 300 ≤ t then _ else _) = _
    rw [if_neg (by omega), if_neg (by omega), if_neg (by omega)]
  have ro3 : ∀ t, t < 15 → ro (300 + t) = (tx t).2 := fun t ht => by
    show (if 300 + t = 100 then ka else if 300 + t = 200 then b else if 300 ≤ 300 + t then (tx (300 + t - 300)).2 else _) = _
    rw [if_neg (by omega), if_neg (by omega), if_pos (by omega), Nat.add_sub_cancel_left]
  refine ⟨(s.heap.size, ro, (dC, dI), tc, (L, xs)), rfl, rfl, rfl, ⟨hKn, fun k q hq => htc k q hq⟩, fun w hw => ?_, ⟨hts _ (mTb_in mAO_w.1), hts _ (mTb_in mAO_w.2.1), hts _ (mTb_in mAO_w.2.2)⟩, fun t ht => ?_, fun q hq hk => ?_, ?_, hkT, ?_, ?_, ?_⟩
  · have hm := List.mem_filter.mp hw
    have hk := hm.2
    unfold mNest at hk
    split at hk
    · exact va_Nw.of rfl (hts _ hm.1)
    · exact va_Nw.of rfl (hts _ hm.1)
    · cases hk
  · show va_O "java/lang/String" (ro t) _ s s.heap ∧ va_OF "java/lang/String" "coder" "B" (.int 0) (ro t) _ s s.heap ∧ va_OF "java/lang/String" "value" "[B" (.ref (ro (300 + t))) (ro t) _ s s.heap ∧ va_T .byte (ro (300 + t)) _ _ _ s s.heap
    rw [ro1 t ht, ro3 t ht]
    obtain ⟨-, h1, h2, h3, h4, -⟩ := htx t ht
    exact ⟨h1, h2, h3, h4⟩
  · obtain ⟨hw, hck⟩ := mLT_at (q := q) (List.getElem?_of_mem hq).choose_spec
    obtain ⟨oc, idx, kd, a, bb, z⟩ := q
    dsimp only at hk
    subst hk
    simp only [mLck] at hck
    have hb15 : bb < 15 := Nat.blt_eq.mp hck
    have hs := List.all_eq_true.mp mLT_str _ hq
    simp only [Bool.or_eq_true, Bool.and_eq_true] at hs
    obtain ⟨h0, -, -, -, -, h5⟩ := htx bb hb15
    refine vk_R.of (A := #[Value.ref b]) (hts _ (mTb_in hw)) ?_
    show (Term.string (mNm oc) idx).eval #[Value.ref b] s none [] s = some (.ref (ro bb))
    rw [ro1 bb hb15]
    rcases hs with (hs | ⟨e1, e2⟩) | ⟨e1, e2⟩
    · cases hs
    · have e1 := Nat.eq_of_beq_eq_true e1
      have e2 := Nat.eq_of_beq_eq_true e2
      subst e1
      rw [e2]
      exact h0
    · have e1 := Nat.eq_of_beq_eq_true e1
      have e2 := Nat.eq_of_beq_eq_true e2
      subst e1
      rw [e2]
      exact h5
  · exact va_Zref (hts _ (mTb_in mST_w.1)) (hts _ (mTb_in mST_w.2.1)) hka hA
  · obtain ⟨scr, h1, h2, h3, h4, h5⟩ := hX
    exact ⟨scr, h1, h2, h3, by show L ≤ _; omega, by rw [h4] <;> rfl, fun j hj => h5 j hj, hA b hbl⟩
  · exact va_Zof (hts _ (mTb_in mST_w.2.2.1)) (hts _ (mTb_in mST_w.2.2.2.1)) (va_eqt (hna _ (by simp [mNA]))) hA
  · exact va_Zqof (hts _ (mTb_in mST_w.2.2.2.2.1)) (hts _ (mTb_in mST_w.2.2.2.2.2)) (hna _ (by simp [mNA])) hA
end MST
end
section
/-! ===== the texts' own members, walked: mSO ===== -/
def tyCod : MethodName := ⟨"java/lang/String", "coder", "()B"⟩
def tyLat : MethodName := ⟨"java/lang/String", "isLatin1", "()Z"⟩
def tyChk : MethodName := ⟨"java/lang/String", "checkIndex", "(II)V"⟩
def tyLch : MethodName := ⟨"java/lang/StringLatin1", "charAt", "([BI)C"⟩
def tyPre : MethodName := ⟨"jdk/internal/util/Preconditions", "checkIndex", "(IILjava/util/function/BiFunction;)I"⟩
theorem t_codes : Cond.code tyCod prog_9_method_152_code 1 (some .byte) ∈ tables_1 ∧ Cond.code tyLat prog_9_method_154_code 1 (some .boolean) ∈ tables_1 ∧ Cond.code tyChk prog_9_method_155_code 2 none ∈ tables_1 ∧ Cond.code tyLch prog_10_method_2_code 2 (some .char) ∈ tables_1 ∧ Cond.code tyPre prog_13_method_11_code 3 (some .int) ∈ tables_1 :=
  ⟨mM_code (show mMet mIdCod = some (8, tyCod, prog_9_method_152_code, 1, some .byte, 0, 0) from rfl) (by decide), mM_code (show mMet mIdLat = some (8, tyLat, prog_9_method_154_code, 1, some .boolean, 0, 0) from rfl) (by decide), mM_code (show mMet mIdChk = some (8, tyChk, prog_9_method_155_code, 2, none, 0, 0) from rfl) (by decide), mM_code (show mMet mIdLch = some (9, tyLch, prog_10_method_2_code, 2, some .char, 0, 0) from rfl) (by decide), mM_code (show mMet mIdPre = some (11, tyPre, prog_13_method_11_code, 3, some .int, 0, 0) from rfl) (by decide)⟩
noncomputable def tWs : List Cond := [.fieldLink "java/lang/String" 9 "java/lang/String" "value" "[B", .fieldLink "java/lang/String" 15 "java/lang/String" "coder" "B", .fieldLink "java/lang/String" 38 "java/lang/String" "COMPACT_STRINGS" "Z", .fieldLink "java/lang/String" 1053 "jdk/internal/util/Preconditions" "SIOOBE_FORMATTER" "Ljava/util/function/BiFunction;",
  .methodLink "java/lang/String" 335 tyCod, .instanceMethod tyCod, .selects "java/lang/String" tyCod tyCod, .methodLink "java/lang/String" 492 tyLat, .instanceMethod tyLat, .selects "java/lang/String" tyLat tyLat,
  .methodLink "java/lang/String" 495 tyLch, .static tyLch, .initialized "java/lang/StringLatin1", .methodLink "java/lang/StringLatin1" 9 tyChk, .static tyChk, .initialized "java/lang/String", .methodLink "java/lang/String" 1059 tyPre, .static tyPre, .initialized "jdk/internal/util/Preconditions"]
theorem tWs_ok : tWs.all (fun w => decide (w ∈ tables_1) && goodWord w) = true := by decide +kernel
theorem tWs_gw {w : Cond} (h : w ∈ tWs) : w ∈ mGW := by
  have h1 := List.all_eq_true.mp tWs_ok w h
  rw [Bool.and_eq_true, decide_eq_true_eq] at h1
  exact mTb_gw h1.1 h1.2
theorem tTx_lt : mTx.all (fun x => x.all fun k => Nat.blt k 128) = true := by decide +kernel
theorem tNi_ck : (List.range 128).all (fun k => decide ((nI k) &&& (Int16.ofInt 255).toInt32 = nI k) && decide (((nI k).toUInt32 % 65536).toInt32 = nI k) && decide (narrow .char (.int (nI k)) = .int (nI k))) = true := by decide +kernel
theorem tTx_at {t : Nat} (j : Nat) : (mTx.getD t []).getD j 0 < 128 := by
  rw [List.getD_eq_getElem?_getD, List.getD_eq_getElem?_getD]
  cases h1 : mTx[t]? with
  | none => simp
  | some x =>
    cases h2 : x[j]? with
    | none => simp [h2]
    | some k =>
      have h3 := List.all_eq_true.mp (List.all_eq_true.mp tTx_lt x (List.mem_of_getElem? h1)) k (List.mem_of_getElem? h2)
      simpa [h2] using h3
theorem tNi {k : Nat} (h : k < 128) : (nI k) &&& (Int16.ofInt 255).toInt32 = nI k ∧ ((nI k).toUInt32 % 65536).toInt32 = nI k ∧ narrow .char (.int (nI k)) = .int (nI k) := by
  have h1 := List.all_eq_true.mp tNi_ck k (List.mem_range.mpr h)
  simp only [Bool.and_eq_true, decide_eq_true_eq] at h1
  exact ⟨h1.1.1, h1.1.2, h1.2⟩
def tQ (v : Option Value) : Array Value → State → Outcome → State → Prop := fun _ st oc u => oc = .returned v ∧ u.heap = st.heap
/-- where the walk of such a member stands -/
def tCx (p : Program) (s : State) (m : MethodId) (args : Array Value) (meth : Method) (c : Code) (G : mG) (cls : String) (cc : ByteArray) (nL : Nat) (ret : Option FieldType) : Prop :=
  p.tables.exec = Jvm.exec ∧ c.code = cc ∧ c.maxLocals = nL ∧ s.vm.findClass cls = some m.cls ∧ (∀ w ∈ mGW, w.before args s = true) ∧ mE G s s.heap ∧ meth.sig.returnType = ret ∧ meth.locks = false
theorem t_met {l : Launch} {y : MethodName} {bytes : ByteArray} {maxL : Nat} {ret : Option FieldType} {rm : Room} {G : mG} {as : List Value} {v : Option Value} (hpl : plainName y.cls = true) (hc : ∀ w ∈ as, w.category = 1) (hn : as.length ≤ maxL)
    (body : ∀ (p : Program) (e : Env) (s : State) (m : MethodId) (below : List Frame) (meth : Method) (c : Code) (ls : Array Slot), tCx p s m as.toArray meth c G y.cls bytes maxL ret → ls.size = maxL → (∀ (i : Nat) (v : Value), as[i]? = some v → ls[i]? = some (.val v)) →
      W p l e rm s m as.toArray below meth c s.heap [] 0 0 (MQ below (tQ v) as.toArray s 0 0 (fun _ => False)) (F0 m 0 ls [])) :
    Met l y (Cond.code y bytes maxL ret :: mGW) rm (va_Pc as (fun U => mE G U U.heap)) (tQ v) 0 0 (fun _ => False) := by
  refine Met.ofW (cc := bytes) (maxL := maxL) (ret := ret) hpl rfl ?_
  intro p e s m args below meth c s₁ B hml hv
  obtain ⟨rfl, hE⟩ := hv
  have hts := atoms_spec (ws := Cond.code y bytes maxL ret :: mGW) B.pre
  have hl := lv_entry as (n := maxL) (by rw [lg_sl1 _ hc]; exact hn)
  rw [lg_entry_eq]
  have hl2 : ((lg_sl as ++ List.replicate (maxL - (lg_sl as).length) Slot.unset).toArray).size = maxL := hl.1
  refine body p e s m below meth c _ ⟨B.exec, B.bytes, hml, findClass_of_methodNamed B.named, fun w hw => hts w (List.mem_cons_of_mem _ hw), hE, B.returns, B.notSynchronized⟩ hl2 (fun i v hi => ?_)
  have := lv_args1 as 0 i v hc hi
  rw [Nat.zero_add] at this
  exact hl.2.2 _ this
section TXR
variable {p : Program} {l : Launch} {e : Env} {R : Room} {s : State} {m : MethodId} {args : Array Value} {below : List Frame} {meth : Method} {c : Code} {Q : State → Prop} {H : Heap} {locs : List Loc} {cells slots : Nat} {pc : Nat} {ls : Array Slot}
theorem m_run1 {v : Option Value} {st0 rest : List Value} (run : va_Run p l e R s m args below meth c H locs cells slots 0 0 (F0 m pc ls st0) rest (fun st oc u => oc = .returned v ∧ u.heap = st.heap) (fun _ => False)) (k : W p l e R s m args below meth c H locs cells slots Q (F0 m (pc + 3) ls (v.toList ++ rest))) : W p l e R s m args below meth c H locs cells slots Q (F0 m pc ls st0) := by
  intro T hT X
  obtain ⟨v', st₀, t, T', L', h0, X', hL', e1, e2, ⟨hv, hh⟩, st⟩ := run T hT X
  cases hv
  have hLn : L' = [] := List.eq_nil_iff_forall_not_mem.mpr fun q hq => hL' q hq
  subst hLn
  rw [List.append_nil] at X'
  obtain ⟨t2, a1, b1⟩ := k T' (by rw [e1, hh, h0]) X'
  exact ⟨t2, st t2 a1, b1⟩
end TXR
section TXW
variable {p : Program} {l : Launch} {e : Env} {R : Room} {s : State} {m : MethodId} {args : Array Value} {below : List Frame} {meth : Method} {c : Code} {Q : State → Prop} {G : mG} {pc : Nat} {ls : Array Slot} {rest : List Value} {cls : String} {cc : ByteArray} {nL : Nat} {ret : Option FieldType} {t : Nat}
theorem tCx.w (C : tCx p s m args meth c G cls cc nL ret) {w : Cond} (h : w ∈ tWs) : w.before args s = true := C.2.2.2.2.1 w (tWs_gw h)
theorem t_ret (C : tCx p s m args meth c G cls cc nL ret) {v : Int32} {ty : FieldType} (hty : ret = some ty) (hn : narrow ty (.int v) = .int v) (hd : decode cc pc = .ok (.ireturn, 1)) : W p l e R s m args below meth c s.heap [] 0 0 (MQ below (tQ (some (.int v))) args s 0 0 (fun _ => False)) (F0 m pc ls [.int v]) :=
  W.zret C.1 C.2.1 (C.2.2.2.2.2.2.1.trans hty) hn (fun t ht _ => ⟨rfl, ht⟩) (fun _ h => by cases h) hd C.2.2.2.2.2.2.2
theorem t_getf (C : tCx p s m args meth c G "java/lang/String" cc nL ret) (ht : t < 15) {idx : Nat} {n d : String} {v : Value} (hw : Cond.fieldLink "java/lang/String" idx "java/lang/String" n d ∈ tWs) (hv : va_OF "java/lang/String" n d v (G.2.1 t) (mA G) s s.heap) (hd : decode cc pc = .ok (.getfield idx, 3))
    (k : W p l e R s m args below meth c s.heap [] 0 0 Q (F0 m (pc + 3) ls (v :: rest))) : W p l e R s m args below meth c s.heap [] 0 0 Q (F0 m pc ls (.ref (G.2.1 t) :: rest)) :=
  vk_getf C.1 C.2.1 hv va_S.rf C.2.2.2.1 (C.w hw) (fun _ h => h) hd k
theorem t_comp (C : tCx p s m args meth c G "java/lang/String" cc nL ret) (hd : decode cc pc = .ok (.getstatic 38, 3))
    (k : W p l e R s m args below meth c s.heap [] 0 0 Q (F0 m (pc + 3) ls (.int 1 :: rest))) : W p l e R s m args below meth c s.heap [] 0 0 Q (F0 m pc ls rest) :=
  va_gets C.1 C.2.1 C.2.2.2.2.2.1.2.2.2.2.2.2.2.2.1 va_S.rf C.2.2.2.1 (C.w (by simp [tWs])) (fun _ h => h) hd k
/-- a call of such a member -/
theorem t_callV (C : tCx p s m args meth c G cls cc nL ret) (ht : t < 15) {y : MethodName} {bytes : ByteArray} {maxL n idx : Nat} {r2 : Option FieldType} {rm : Room} {As : List Value} {v : Option Value} (hM : Met l y (Cond.code y bytes maxL r2 :: mGW) rm (va_Pc (.ref (G.2.1 t) :: As) (fun U => mE G U U.heap)) (tQ v) 0 0 (fun _ => False))
    (hcode : Cond.code y bytes maxL r2 ∈ tables_1) (hy : y.cls = "java/lang/String") (hl : Cond.methodLink cls idx y ∈ tWs) (hi : Cond.instanceMethod y ∈ tWs) (hs : Cond.selects "java/lang/String" y y ∈ tWs) (hrm : rm.cells = 0 ∧ rm.slots = 0 ∧ rm.frames + 1 ≤ R.frames ∧ 8 + (maxL + 11) + rm.locals ≤ R.locals) (hn : As.length = n)
    (h9 : (parseMethodDescriptor y.desc).map (fun d => d.parameters.length) = some n) (hsz : ls.size = nL) (hwt : (rest.map fun v => v.category).sum ≤ 8) (hd : decode cc pc = .ok (.invokevirtual idx, 3))
    (k : W p l e R s m args below meth c s.heap [] 0 0 Q (F0 m (pc + 3) ls (v.toList ++ rest))) : W p l e R s m args below meth c s.heap [] 0 0 Q (F0 m pc ls (As.reverse ++ .ref (G.2.1 t) :: rest)) := by
  have hE := C.2.2.2.2.2.1
  have hts := C.2.2.2.2.1
  refine m_run1 (va_runV (As := As) (C := "java/lang/String") (n := n) (Ts := mGW) ⟨C.1, C.2.1, C.2.2.1, C.2.2.2.1, hts⟩ hM
        ⟨⟨hrm.1, hrm.2.1, hrm.2.2.1, hrm.2.2.2, pay_in hts (mGood_c hcode rfl), List.mem_cons_self, hts _ (mTb_gw hcode rfl), by rw [hy]; exact C.w (by simp [tWs]), by rw [hy]; exact ⟨by decide +kernel, by decide +kernel⟩, fun sig hsig => by
          rw [hsig] at h9
          exact (Option.some.inj h9).symm, C.w hl⟩, C.w hi, C.w hs⟩
        ⟨fun a U g mk hq => ⟨hq.1, mE_calling hq.2⟩, mStr_recv hE ht va_S.rf, fun U hU hW => ⟨rfl, mE_call hE hW hU va_S.rf⟩⟩ rfl hn hsz rfl (lv_room hwt) hd ⟨Nat.zero_le _, Nat.zero_le _⟩) k
theorem t_callS (C : tCx p s m args meth c G cls cc nL ret) {y : MethodName} {bytes : ByteArray} {maxL n idx : Nat} {r2 : Option FieldType} {rm : Room} {As : List Value} {v : Option Value} (hM : Met l y (Cond.code y bytes maxL r2 :: mGW) rm (va_Pc As (fun U => mE G U U.heap)) (tQ v) 0 0 (fun _ => False))
    (hcode : Cond.code y bytes maxL r2 ∈ tables_1) (hy : y.cls ≠ "java/lang/invoke/MethodHandle" ∧ y.cls ≠ "java/lang/invoke/VarHandle") (hl : Cond.methodLink cls idx y ∈ tWs) (hi : Cond.static y ∈ tWs) (hini : Cond.initialized y.cls ∈ tWs) (hrm : rm.cells = 0 ∧ rm.slots = 0 ∧ rm.frames + 1 ≤ R.frames ∧ 8 + (maxL + 11) + rm.locals ≤ R.locals) (hn : As.length = n)
    (h9 : (parseMethodDescriptor y.desc).map (fun d => d.parameters.length) = some n) (hsz : ls.size = nL) (hwt : (rest.map fun v => v.category).sum ≤ 8) (hd : decode cc pc = .ok (.invokestatic idx, 3))
    (k : W p l e R s m args below meth c s.heap [] 0 0 Q (F0 m (pc + 3) ls (v.toList ++ rest))) : W p l e R s m args below meth c s.heap [] 0 0 Q (F0 m pc ls (As.reverse ++ rest)) := by
  have hE := C.2.2.2.2.2.1
  have hts := C.2.2.2.2.1
  refine m_run1 (va_runS (As := As) (n := n) (Ts := mGW) ⟨C.1, C.2.1, C.2.2.1, C.2.2.2.1, hts⟩ hM
        ⟨⟨hrm.1, hrm.2.1, hrm.2.2.1, hrm.2.2.2, pay_in hts (mGood_c hcode rfl), List.mem_cons_self, hts _ (mTb_gw hcode rfl), C.w hini, hy, fun sig hsig => by
          rw [hsig] at h9
          exact (Option.some.inj h9).symm, C.w hl⟩, C.w hi⟩
        ⟨fun a U g mk hq => ⟨hq.1, mE_calling hq.2⟩, fun U hU hW => ⟨rfl, mE_call hE hW hU va_S.rf⟩⟩ rfl hn hsz rfl (lv_room hwt) hd ⟨Nat.zero_le _, Nat.zero_le _⟩) k
end TXW
theorem t_cod (l : Launch) (G : mG) {t : Nat} (ht : t < 15) : Met l tyCod (Cond.code tyCod prog_9_method_152_code 1 (some .byte) :: mGW) ({ frames := 0, cells := 0, slots := 0, locals := 0 }) (va_Pc [.ref (G.2.1 t)] (fun U => mE G U U.heap)) (tQ (some (.int 0))) 0 0 (fun _ => False) := by
  refine t_met (by decide +kernel) (by simp [Value.category]) (by simp) ?_
  intro p e s m below meth c ls C hsz hls
  replace C : tCx p s m _ meth c G "java/lang/String" _ _ _ := C
  have h0 := hls 0 _ rfl
  refine t_comp C (by decide +kernel) ?_
  refine lv_if_eq (tgt := 13) C.1 C.2.1 (off := 10) (by decide +kernel) rfl (fun h => by cases h) (fun _ => ?_)
  refine lv_aload_n C.1 C.2.1 (k := 0) (by decide +kernel) rfl h0 ?_
  refine t_getf C ht (idx := 15) (by simp [tWs]) (C.2.2.2.2.2.1.2.2.2.1 t ht).2.1 (by decide +kernel) ?_
  refine lv_goto (tgt := 14) C.1 C.2.1 (off := 4) (by decide +kernel) rfl ?_
  exact t_ret C rfl rfl (by decide +kernel)
theorem t_lat (l : Launch) (G : mG) {t : Nat} (ht : t < 15) : Met l tyLat (Cond.code tyLat prog_9_method_154_code 1 (some .boolean) :: mGW) ({ frames := 0, cells := 0, slots := 0, locals := 0 }) (va_Pc [.ref (G.2.1 t)] (fun U => mE G U U.heap)) (tQ (some (.int 1))) 0 0 (fun _ => False) := by
  refine t_met (by decide +kernel) (by simp [Value.category]) (by simp) ?_
  intro p e s m below meth c ls C hsz hls
  replace C : tCx p s m _ meth c G "java/lang/String" _ _ _ := C
  have h0 := hls 0 _ rfl
  refine t_comp C (by decide +kernel) ?_
  refine lv_if_eq (tgt := 17) C.1 C.2.1 (off := 14) (by decide +kernel) rfl (fun h => by cases h) (fun _ => ?_)
  refine lv_aload_n C.1 C.2.1 (k := 0) (by decide +kernel) rfl h0 ?_
  refine t_getf C ht (idx := 15) (by simp [tWs]) (C.2.2.2.2.2.1.2.2.2.1 t ht).2.1 (by decide +kernel) ?_
  refine lv_if_ne (tgt := 17) C.1 C.2.1 (off := 7) (by decide +kernel) rfl (fun h => absurd rfl h) (fun _ => ?_)
  refine lv_iconst C.1 C.2.1 (n := 1) (v := 1) (by decide +kernel) rfl ?_
  refine lv_goto (tgt := 18) C.1 C.2.1 (off := 4) (by decide +kernel) rfl ?_
  exact t_ret C rfl rfl (by decide +kernel)
theorem t_pre (l : Launch) (G : mG) {k : Int32} {N : Nat} (hk : vp_in k N) (hN : N ≤ 1000) (x : Value) (hx : x.category = 1) : Met l tyPre (Cond.code tyPre prog_13_method_11_code 3 (some .int) :: mGW) ({ frames := 0, cells := 0, slots := 0, locals := 0 }) (va_Pc [.int k, .int (Int32.ofNat N), x] (fun U => mE G U U.heap)) (tQ (some (.int k))) 0 0 (fun _ => False) := by
  refine t_met (by decide +kernel) (by simpa [Value.category] using hx) (by simp) ?_
  intro p e s m below meth c ls C hsz hls
  replace C : tCx p s m _ meth c G "jdk/internal/util/Preconditions" _ _ _ := C
  have h0 := hls 0 _ rfl
  have h1 := hls 1 _ rfl
  have g0 : ¬ k < 0 := fun h => hk (Or.inl h)
  have g1 : k.toNatClampNeg < N := Nat.not_le.mp fun h => hk (Or.inr h)
  refine lv_iload_n C.1 C.2.1 (k := 0) (by decide +kernel) rfl h0 ?_
  refine lv_if_lt (tgt := 9) C.1 C.2.1 (off := 8) (by decide +kernel) rfl (fun h => absurd h g0) (fun _ => ?_)
  refine lv_iload_n C.1 C.2.1 (k := 0) (by decide +kernel) rfl h0 ?_
  refine lv_iload_n C.1 C.2.1 (k := 1) (by decide +kernel) rfl h1 ?_
  refine lv_icmp_lt (tgt := 16) C.1 C.2.1 (off := 10) (by decide +kernel) rfl (fun _ => ?_) (fun h => absurd ?_ h)
  · refine lv_iload_n C.1 C.2.1 (k := 0) (by decide +kernel) rfl h0 ?_
    exact t_ret C rfl rfl (by decide +kernel)
  · have e1 : (Int32.ofNat N).toInt = (N : Int) := Int32.toInt_ofNat_of_lt (by omega)
    rw [Int32.lt_iff_toInt_lt, e1]
    have e2 : k.toInt = (k.toNatClampNeg : Int) := by
      have h3 : (0 : Int) ≤ k.toInt := by
        have := Int32.not_lt.mp g0
        simpa using Int32.le_iff_toInt_le.mp this
      show k.toInt = ((k.toInt.toNat : Nat) : Int)
      omega
    omega
theorem t_chk (l : Launch) (G : mG) {k : Int32} {N : Nat} (hk : vp_in k N) (hN : N ≤ 1000) : Met l tyChk (Cond.code tyChk prog_9_method_155_code 2 none :: mGW) ({ frames := 1, cells := 0, slots := 0, locals := 22 }) (va_Pc [.int k, .int (Int32.ofNat N)] (fun U => mE G U U.heap)) (tQ none) 0 0 (fun _ => False) := by
  refine t_met (by decide +kernel) (by simp [Value.category]) (by simp) ?_
  intro p e s m below meth c ls C hsz hls
  replace C : tCx p s m _ meth c G "java/lang/String" _ _ _ := C
  have h0 := hls 0 _ rfl
  have h1 := hls 1 _ rfl
  have key : ∀ x : Value, x.category = 1 → va_Z "jdk/internal/util/Preconditions" "SIOOBE_FORMATTER" "Ljava/util/function/BiFunction;" x (mA G) s s.heap → W p l e ({ frames := 1, cells := 0, slots := 0, locals := 22 }) s m #[.int k, .int (Int32.ofNat N)] below meth c s.heap [] 0 0 (MQ below (tQ none) #[.int k, .int (Int32.ofNat N)] s 0 0 (fun _ => False)) (F0 m 2 ls [.int (Int32.ofNat N), .int k]) := by
    intro x hx hz
    refine va_gets C.1 C.2.1 hz va_S.rf C.2.2.2.1 (C.w (w := Cond.fieldLink "java/lang/String" 1053 "jdk/internal/util/Preconditions" "SIOOBE_FORMATTER" "Ljava/util/function/BiFunction;") (by simp [tWs])) (fun _ h => h) (by decide +kernel) ?_
    refine t_callS (As := [.int k, .int (Int32.ofNat N), x]) (rest := []) C (t_pre l G hk hN x hx) t_codes.2.2.2.2 ⟨by decide +kernel, by decide +kernel⟩ (idx := 1059) (by simp [tWs]) (by simp [tWs]) (by simp [tWs, tyPre]) ⟨rfl, rfl, by decide, by decide⟩ rfl (n := 3) (by decide +kernel) hsz (by decide) (by decide +kernel) ?_
    refine lv_pop C.1 C.2.1 (by decide +kernel) rfl ?_
    exact W.vret C.1 C.2.1 C.2.2.2.2.2.2.1 (fun t ht _ => ⟨rfl, ht⟩) (fun _ h => by cases h) (by decide +kernel) C.2.2.2.2.2.2.2
  refine lv_iload_n C.1 C.2.1 (k := 0) (by decide +kernel) rfl h0 ?_
  refine lv_iload_n C.1 C.2.1 (k := 1) (by decide +kernel) rfl h1 ?_
  rcases C.2.2.2.2.2.1.2.2.2.2.2.2.2.2.2 with hz | ⟨q, hz⟩
  · exact key _ rfl hz
  · exact key _ rfl hz
theorem t_lch (l : Launch) (G : mG) {t : Nat} (ht : t < 15) {k : Int32} (hk : vp_in k (mTx.getD t []).length) (hN : (mTx.getD t []).length ≤ 1000) : Met l tyLch (Cond.code tyLch prog_10_method_2_code 2 (some .char) :: mGW) ({ frames := 2, cells := 0, slots := 0, locals := 43 }) (va_Pc [.ref (G.2.1 (300 + t)), .int k] (fun U => mE G U U.heap)) (tQ (some (.int (nI ((mTx.getD t []).getD k.toNatClampNeg 0))))) 0 0 (fun _ => False) := by
  refine t_met (by decide +kernel) (by simp [Value.category]) (by simp) ?_
  intro p e s m below meth c ls C hsz hls
  replace C : tCx p s m _ meth c G "java/lang/StringLatin1" _ _ _ := C
  have h0 := hls 0 _ rfl
  have h1 := hls 1 _ rfl
  have hT := (C.2.2.2.2.2.1.2.2.2.1 t ht).2.2.2
  obtain ⟨n1, n2, n3⟩ := tNi (tTx_at (t := t) k.toNatClampNeg)
  refine lv_iload_n C.1 C.2.1 (k := 1) (by decide +kernel) rfl h1 ?_
  refine lv_aload_n C.1 C.2.1 (k := 0) (by decide +kernel) rfl h0 ?_
  refine va_tlen C.1 C.2.1 hT va_S.rf rfl (by decide +kernel) ?_
  refine t_callS (As := [.int k, .int (Int32.ofNat (mTx.getD t []).length)]) (rest := []) C (t_chk l G hk hN) t_codes.2.2.1 ⟨by decide +kernel, by decide +kernel⟩ (idx := 9) (by simp [tWs]) (by simp [tWs]) (by simp [tWs, tyChk]) ⟨rfl, rfl, by decide, by decide⟩ rfl (n := 2) (by decide +kernel) hsz (by decide) (by decide +kernel) ?_
  refine lv_aload_n C.1 C.2.1 (k := 0) (by decide +kernel) rfl h0 ?_
  refine lv_iload_n C.1 C.2.1 (k := 1) (by decide +kernel) rfl h1 ?_
  refine va_tb C.1 C.2.1 hT va_S.rf hk rfl (by decide +kernel) ?_
  refine lv_sipush C.1 C.2.1 (n := 255) (by decide +kernel) rfl ?_
  refine lv_iand C.1 C.2.1 (by decide +kernel) ?_
  rw [n1]
  refine lv_i2c C.1 C.2.1 (by decide +kernel) n2 ?_
  exact t_ret C rfl n3 (by decide +kernel)
theorem mTx_short : mTx.all (fun x => Nat.ble x.length 1000) = true := by decide +kernel
theorem mTx_le (t : Nat) : (mTx.getD t []).length ≤ 1000 := by
  rw [List.getD_eq_getElem?_getD]
  cases h1 : mTx[t]? with
  | none => simp
  | some x => exact Nat.le_of_ble_eq_true (List.all_eq_true.mp mTx_short x (List.mem_of_getElem? h1))
theorem tSh_ck : (List.range 15).all (fun t => decide ((Int32.ofNat (mTx.getD t []).length) >>> ((0 : Int32) &&& 31) = nI (mTx.getD t []).length)) = true := by decide +kernel
theorem tSh {t : Nat} (ht : t < 15) : (Int32.ofNat (mTx.getD t []).length) >>> ((0 : Int32) &&& 31) = nI (mTx.getD t []).length := of_decide_eq_true (List.all_eq_true.mp tSh_ck t (List.mem_range.mpr ht))
theorem m_so (l : Launch) (G : mG) : mSO l G := by
  refine ⟨fun t ht => ?_, fun t ht k hk => ?_⟩
  · refine t_met (by decide +kernel) (by simp [Value.category]) (by simp) ?_
    intro p e s m below meth c ls C hsz hls
    replace C : tCx p s m _ meth c G "java/lang/String" _ _ _ := C
    have h0 := hls 0 _ rfl
    obtain ⟨-, -, hV, hT⟩ := C.2.2.2.2.2.1.2.2.2.1 t ht
    refine lv_aload_n C.1 C.2.1 (k := 0) (by decide +kernel) rfl h0 ?_
    refine t_getf C ht (idx := 9) (by simp [tWs]) hV (by decide +kernel) ?_
    refine va_tlen C.1 C.2.1 hT va_S.rf rfl (by decide +kernel) ?_
    refine lv_aload_n C.1 C.2.1 (k := 0) (by decide +kernel) rfl h0 ?_
    refine t_callV (As := []) C ht (t_cod l G ht) t_codes.1 rfl (idx := 335) (by simp [tWs]) (by simp [tWs]) (by simp [tWs]) ⟨rfl, rfl, by decide, by decide⟩ rfl (n := 0) (by decide +kernel) hsz (by show _ ≤ 8; simp [Value.category]) (by decide +kernel) ?_
    refine lv_ishr C.1 C.2.1 (by decide +kernel) ?_
    have e1 : (Int32.ofNat (mTx.getD t []).length) >>> ((0 : Int32) &&& 31) = nI (mTx.getD t []).length := tSh ht
    rw [e1]
    exact t_ret C rfl rfl (by decide +kernel)
  · refine t_met (by decide +kernel) (by simp [Value.category]) (by simp) ?_
    intro p e s m below meth c ls C hsz hls
    replace C : tCx p s m _ meth c G "java/lang/String" _ _ _ := C
    have h0 := hls 0 _ rfl
    have h1 := hls 1 _ rfl
    obtain ⟨-, -, hV, hT⟩ := C.2.2.2.2.2.1.2.2.2.1 t ht
    refine lv_aload_n C.1 C.2.1 (k := 0) (by decide +kernel) rfl h0 ?_
    refine t_callV (As := []) C ht (t_lat l G ht) t_codes.2.1 rfl (idx := 492) (by simp [tWs]) (by simp [tWs]) (by simp [tWs]) ⟨rfl, rfl, by decide, by decide⟩ rfl (n := 0) (by decide +kernel) hsz (by decide) (by decide +kernel) ?_
    refine lv_if_eq (tgt := 16) C.1 C.2.1 (off := 12) (by decide +kernel) rfl (fun h => by cases h) (fun _ => ?_)
    refine lv_aload_n C.1 C.2.1 (k := 0) (by decide +kernel) rfl h0 ?_
    refine t_getf C ht (idx := 9) (by simp [tWs]) hV (by decide +kernel) ?_
    refine lv_iload_n C.1 C.2.1 (k := 1) (by decide +kernel) rfl h1 ?_
    refine t_callS (As := [.ref (G.2.1 (300 + t)), .int k]) (rest := []) C (t_lch l G ht hk (mTx_le t)) t_codes.2.2.2.1 ⟨by decide +kernel, by decide +kernel⟩ (idx := 495) (by simp [tWs]) (by simp [tWs]) (by simp [tWs, tyLch]) ⟨rfl, rfl, by decide, by decide⟩ rfl (n := 2) (by decide +kernel) hsz (by decide) (by decide +kernel) ?_
    exact t_ret C rfl (tNi (tTx_at _)).2.2 (by decide +kernel)
end
section
/-! ===== runs of the small machine: how they go on ===== -/
theorem mRun_more (X : mSc) : ∀ (n : Nat) (mid pc : Nat) (L : mLoc) (st : List Value) (D : mHp) (z : Option Value × mHp) (k : Nat), mRun X n mid pc L st D = some z → mRun X (n + k) mid pc L st D = some z := by
  intro n
  induction n with
  | zero => intro mid pc L st D z k h; cases h
  | succ n ih =>
    intro mid pc L st D z k h
    rw [show n + 1 + k = (n + k) + 1 by omega]
    unfold mRun at h ⊢
    cases hm : mMet mid with
    | none => rw [hm] at h; cases h
    | some row =>
      rw [hm] at h
      cases hf : mFetch mid pc with
      | none => rw [hf] at h; cases h
      | some e =>
        rw [hf] at h
        dsimp only at h ⊢
        cases hs : mStep X row e pc L st D with
        | none => rw [hs] at h; cases h
        | some res =>
          rw [hs] at h
          cases res with
          | inl q => exact ih _ _ _ _ _ _ k h
          | inr res =>
            cases res with
            | inl v => exact h
            | inr x =>
              dsimp only at h ⊢
              cases hr : mMet x.1 with
              | none => rw [hr] at h; cases h
              | some r =>
                rw [hr] at h
                dsimp only at h ⊢
                obtain ⟨hb, h⟩ := mCond_eq h
                rw [hb]
                split at h
                · rename_i z1 hz
                  rw [ih _ _ _ _ _ _ k hz]
                  exact ih _ _ _ _ _ _ k h
                · cases h
/-- a run from here ends, so -/
def mEv (X : mSc) (Q : Option Value → mHp → Prop) (mid pc : Nat) (L : mLoc) (st : List Value) (D : mHp) : Prop := ∃ (n : Nat) (r : Option Value) (D' : mHp), mRun X n mid pc L st D = some (r, D') ∧ Q r D'
/-- a call ends so -/
def mT (X : mSc) (mid : Nat) (as : List Value) (D : mHp) (r : Option Value) (D' : mHp) : Prop := ∃ (row : mRow) (n : Nat), mMet mid = some row ∧ as.length ≤ row.2.2.2.1 ∧ mRun X n mid 0 (mEnv row.2.2.2.1 as) [] D = some (r, D')
section MEV
variable {X : mSc} {Q : Option Value → mHp → Prop} {mid pc : Nat} {L : mLoc} {st : List Value} {D : mHp} {row : mRow} {e : mEnt} {ex : Nat × Nat × Nat × Nat × Nat × Int}
theorem ev_inl (hm : mMet mid = some row) (hf : mFetch mid pc = some e) {q : Nat × mLoc × List Value × mHp} (hs : mStep X row e pc L st D = some (.inl q)) (k : mEv X Q mid q.1 q.2.1 q.2.2.1 q.2.2.2) : mEv X Q mid pc L st D := by
  obtain ⟨n, r, D', h, hq⟩ := k
  refine ⟨n + 1, r, D', ?_, hq⟩
  unfold mRun
  rw [hm, hf]
  dsimp only
  rw [hs]
  exact h
theorem ev_ret (hm : mMet mid = some row) (hf : mFetch mid pc = some e) {v : Option Value} (hs : mStep X row e pc L st D = some (.inr (.inl v))) (hq : Q v D) : mEv X Q mid pc L st D := by
  refine ⟨1, v, D, ?_, hq⟩
  unfold mRun
  rw [hm, hf]
  dsimp only
  rw [hs]
theorem ev_call (hm : mMet mid = some row) (hf : mFetch mid pc = some e) {x : Nat × List Value × List Value} (hs : mStep X row e pc L st D = some (.inr (.inr x))) {r : Option Value} {D1 : mHp} (hc : mT X x.1 x.2.1 D r D1) (k : mEv X Q mid (pc + 3) L (r.toList ++ x.2.2) D1) : mEv X Q mid pc L st D := by
  obtain ⟨row2, n1, hm2, hb, h1⟩ := hc
  obtain ⟨n2, r2, D2, h2, hq⟩ := k
  refine ⟨n1 + n2 + 1, r2, D2, ?_, hq⟩
  unfold mRun
  rw [hm, hf]
  dsimp only
  rw [hs]
  dsimp only
  rw [hm2]
  dsimp only
  rw [Nat.ble_eq_true_of_le hb, mRun_more X n1 _ _ _ _ _ _ n2 h1]
  dsimp only [cond_true]
  rw [show n1 + n2 = n2 + n1 by omega]
  exact mRun_more X n2 _ _ _ _ _ _ n1 h2
/-- the contract of a method out of the run of its body -/
theorem mT.of {as : List Value} {r : Option Value} {D' : mHp} (hm : mMet mid = some row) (hb : as.length ≤ row.2.2.2.1) (h : mEv X (fun r1 D1 => r1 = r ∧ D1 = D') mid 0 (mEnv row.2.2.2.1 as) [] D) : mT X mid as D r D' := by
  obtain ⟨n, r1, D1, h1, rfl, rfl⟩ := h
  exact ⟨row, n, hm, hb, h1⟩

theorem x_iconst {n : Int} {v : Int32} (hm : mMet mid = some row) (hf : mFetch mid pc = some (.iconst n, ex)) (hv : Int32.ofInt n = v) (k : mEv X Q mid (pc + 1) (L) (.int v :: st) (D)) : mEv X Q mid pc L (st) D := ev_inl hm hf (q := (pc + 1, L, .int v :: st, D)) (by rw [← hv]; rfl) k
theorem x_bipush {n : Int} {v : Int32} (hm : mMet mid = some row) (hf : mFetch mid pc = some (.bipush n, ex)) (hv : (Int8.ofInt n).toInt32 = v) (k : mEv X Q mid (pc + 2) (L) (.int v :: st) (D)) : mEv X Q mid pc L (st) D := ev_inl hm hf (q := (pc + 2, L, .int v :: st, D)) (by rw [← hv]; rfl) k
theorem x_sipush {n : Int} {v : Int32} (hm : mMet mid = some row) (hf : mFetch mid pc = some (.sipush n, ex)) (hv : (Int16.ofInt n).toInt32 = v) (k : mEv X Q mid (pc + 3) (L) (.int v :: st) (D)) : mEv X Q mid pc L (st) D := ev_inl hm hf (q := (pc + 3, L, .int v :: st, D)) (by rw [← hv]; rfl) k
theorem x_lconst {n : Fin 2} {v : Int64} (hm : mMet mid = some row) (hf : mFetch mid pc = some (.lconst n, ex)) (hv : Int64.ofNat n.val = v) (k : mEv X Q mid (pc + 1) (L) (.long v :: st) (D)) : mEv X Q mid pc L (st) D := ev_inl hm hf (q := (pc + 1, L, .long v :: st, D)) (by rw [← hv]; rfl) k
theorem x_ldcI {i j a b : Nat} {z : Int} {v : Int32} (hm : mMet mid = some row) (hf : mFetch mid pc = some (.ldc i, 2, j, 2, a, b, z)) (hv : Int32.ofInt z = v) (k : mEv X Q mid (pc + 2) L (.int v :: st) D) : mEv X Q mid pc L st D := ev_inl hm hf (q := (pc + 2, L, .int v :: st, D)) (by rw [← hv]; rfl) k
theorem x_ldcS {i j a b : Nat} {z : Int} (hm : mMet mid = some row) (hf : mFetch mid pc = some (.ldc i, 2, j, 3, a, b, z)) (k : mEv X Q mid (pc + 2) L (.ref (1000000 + b) :: st) D) : mEv X Q mid pc L st D := ev_inl hm hf (q := (pc + 2, L, .ref (1000000 + b) :: st, D)) (by rfl) k
theorem x_ldc_wI {i j a b : Nat} {z : Int} {v : Int32} (hm : mMet mid = some row) (hf : mFetch mid pc = some (.ldc_w i, 3, j, 2, a, b, z)) (hv : Int32.ofInt z = v) (k : mEv X Q mid (pc + 3) L (.int v :: st) D) : mEv X Q mid pc L st D := ev_inl hm hf (q := (pc + 3, L, .int v :: st, D)) (by rw [← hv]; rfl) k
theorem x_ldc_wS {i j a b : Nat} {z : Int} (hm : mMet mid = some row) (hf : mFetch mid pc = some (.ldc_w i, 3, j, 3, a, b, z)) (k : mEv X Q mid (pc + 3) L (.ref (1000000 + b) :: st) D) : mEv X Q mid pc L st D := ev_inl hm hf (q := (pc + 3, L, .ref (1000000 + b) :: st, D)) (by rfl) k
theorem x_iload_n {i : Fin 4} {x : Int32} (hm : mMet mid = some row) (hf : mFetch mid pc = some (.iload_n i, ex)) (hL : L[i.val]? = some (some (.int x))) (k : mEv X Q mid (pc + 1) (L) (.int x :: st) (D)) : mEv X Q mid pc L (st) D := ev_inl hm hf (q := (pc + 1, L, .int x :: st, D)) (by unfold mStep; dsimp only; rw [hL]; rfl) k
theorem x_iload {i : Nat} {x : Int32} (hm : mMet mid = some row) (hf : mFetch mid pc = some (.iload i, ex)) (hL : L[i]? = some (some (.int x))) (k : mEv X Q mid (pc + 2) (L) (.int x :: st) (D)) : mEv X Q mid pc L (st) D := ev_inl hm hf (q := (pc + 2, L, .int x :: st, D)) (by unfold mStep; dsimp only; rw [hL]; rfl) k
theorem x_istore_n {i : Fin 4} {x : Int32} {L' : mLoc} (hm : mMet mid = some row) (hf : mFetch mid pc = some (.istore_n i, ex)) (hL : mS1 L i.val (.int x) = some L') (k : mEv X Q mid (pc + 1) (L') (st) (D)) : mEv X Q mid pc L (.int x :: st) D := ev_inl hm hf (q := (pc + 1, L', st, D)) (by unfold mStep; dsimp only; rw [hL]; rfl) k
theorem x_istore {i : Nat} {x : Int32} {L' : mLoc} (hm : mMet mid = some row) (hf : mFetch mid pc = some (.istore i, ex)) (hL : mS1 L i (.int x) = some L') (k : mEv X Q mid (pc + 2) (L') (st) (D)) : mEv X Q mid pc L (.int x :: st) D := ev_inl hm hf (q := (pc + 2, L', st, D)) (by unfold mStep; dsimp only; rw [hL]; rfl) k
theorem x_lload_n {i : Fin 4} {x : Int64} (hm : mMet mid = some row) (hf : mFetch mid pc = some (.lload_n i, ex)) (hL : L[i.val]? = some (some (.long x))) (k : mEv X Q mid (pc + 1) (L) (.long x :: st) (D)) : mEv X Q mid pc L (st) D := ev_inl hm hf (q := (pc + 1, L, .long x :: st, D)) (by unfold mStep; dsimp only; rw [hL]; rfl) k
theorem x_lload {i : Nat} {x : Int64} (hm : mMet mid = some row) (hf : mFetch mid pc = some (.lload i, ex)) (hL : L[i]? = some (some (.long x))) (k : mEv X Q mid (pc + 2) (L) (.long x :: st) (D)) : mEv X Q mid pc L (st) D := ev_inl hm hf (q := (pc + 2, L, .long x :: st, D)) (by unfold mStep; dsimp only; rw [hL]; rfl) k
theorem x_lstore_n {i : Fin 4} {x : Int64} {L' : mLoc} (hm : mMet mid = some row) (hf : mFetch mid pc = some (.lstore_n i, ex)) (hL : mS2 L i.val (.long x) = some L') (k : mEv X Q mid (pc + 1) (L') (st) (D)) : mEv X Q mid pc L (.long x :: st) D := ev_inl hm hf (q := (pc + 1, L', st, D)) (by unfold mStep; dsimp only; rw [hL]; rfl) k
theorem x_lstore {i : Nat} {x : Int64} {L' : mLoc} (hm : mMet mid = some row) (hf : mFetch mid pc = some (.lstore i, ex)) (hL : mS2 L i (.long x) = some L') (k : mEv X Q mid (pc + 2) (L') (st) (D)) : mEv X Q mid pc L (.long x :: st) D := ev_inl hm hf (q := (pc + 2, L', st, D)) (by unfold mStep; dsimp only; rw [hL]; rfl) k
theorem x_aload_n {i : Fin 4} {x : Nat} (hm : mMet mid = some row) (hf : mFetch mid pc = some (.aload_n i, ex)) (hL : L[i.val]? = some (some (.ref x))) (k : mEv X Q mid (pc + 1) (L) (.ref x :: st) (D)) : mEv X Q mid pc L (st) D := ev_inl hm hf (q := (pc + 1, L, .ref x :: st, D)) (by unfold mStep; dsimp only; rw [hL]; rfl) k
theorem x_aload {i : Nat} {x : Nat} (hm : mMet mid = some row) (hf : mFetch mid pc = some (.aload i, ex)) (hL : L[i]? = some (some (.ref x))) (k : mEv X Q mid (pc + 2) (L) (.ref x :: st) (D)) : mEv X Q mid pc L (st) D := ev_inl hm hf (q := (pc + 2, L, .ref x :: st, D)) (by unfold mStep; dsimp only; rw [hL]; rfl) k
theorem x_astore_n {i : Fin 4} {x : Nat} {L' : mLoc} (hm : mMet mid = some row) (hf : mFetch mid pc = some (.astore_n i, ex)) (hL : mS1 L i.val (.ref x) = some L') (k : mEv X Q mid (pc + 1) (L') (st) (D)) : mEv X Q mid pc L (.ref x :: st) D := ev_inl hm hf (q := (pc + 1, L', st, D)) (by unfold mStep; dsimp only; rw [hL]; rfl) k
theorem x_astore {i : Nat} {x : Nat} {L' : mLoc} (hm : mMet mid = some row) (hf : mFetch mid pc = some (.astore i, ex)) (hL : mS1 L i (.ref x) = some L') (k : mEv X Q mid (pc + 2) (L') (st) (D)) : mEv X Q mid pc L (.ref x :: st) D := ev_inl hm hf (q := (pc + 2, L', st, D)) (by unfold mStep; dsimp only; rw [hL]; rfl) k
theorem x_iinc {i : Nat} {n : Int} {x v : Int32} {L' : mLoc} (hm : mMet mid = some row) (hf : mFetch mid pc = some (.iinc i n, ex)) (hL : L[i]? = some (some (.int x))) (hv : Int32.ofInt n = v) (hS : mS1 L i (.int (x + v)) = some L') (k : mEv X Q mid (pc + 3) (L') (st) (D)) : mEv X Q mid pc L (st) D := ev_inl hm hf (q := (pc + 3, L', st, D)) (by unfold mStep; dsimp only; rw [hL, hv]; dsimp only; rw [hS]; rfl) k
theorem x_iadd {x y : Int32} (hm : mMet mid = some row) (hf : mFetch mid pc = some (.iadd, ex)) (k : mEv X Q mid (pc + 1) (L) (.int (x + y) :: st) (D)) : mEv X Q mid pc L (.int y :: .int x :: st) D := ev_inl hm hf (q := (pc + 1, L, .int (x + y) :: st, D)) (by rfl) k
theorem x_isub {x y : Int32} (hm : mMet mid = some row) (hf : mFetch mid pc = some (.isub, ex)) (k : mEv X Q mid (pc + 1) (L) (.int (x - y) :: st) (D)) : mEv X Q mid pc L (.int y :: .int x :: st) D := ev_inl hm hf (q := (pc + 1, L, .int (x - y) :: st, D)) (by rfl) k
theorem x_imul {x y : Int32} (hm : mMet mid = some row) (hf : mFetch mid pc = some (.imul, ex)) (k : mEv X Q mid (pc + 1) (L) (.int (x * y) :: st) (D)) : mEv X Q mid pc L (.int y :: .int x :: st) D := ev_inl hm hf (q := (pc + 1, L, .int (x * y) :: st, D)) (by rfl) k
theorem x_iand {x y : Int32} (hm : mMet mid = some row) (hf : mFetch mid pc = some (.iand, ex)) (k : mEv X Q mid (pc + 1) (L) (.int (x &&& y) :: st) (D)) : mEv X Q mid pc L (.int y :: .int x :: st) D := ev_inl hm hf (q := (pc + 1, L, .int (x &&& y) :: st, D)) (by rfl) k
theorem x_ior {x y : Int32} (hm : mMet mid = some row) (hf : mFetch mid pc = some (.ior, ex)) (k : mEv X Q mid (pc + 1) (L) (.int (x ||| y) :: st) (D)) : mEv X Q mid pc L (.int y :: .int x :: st) D := ev_inl hm hf (q := (pc + 1, L, .int (x ||| y) :: st, D)) (by rfl) k
theorem x_ixor {x y : Int32} (hm : mMet mid = some row) (hf : mFetch mid pc = some (.ixor, ex)) (k : mEv X Q mid (pc + 1) (L) (.int (x ^^^ y) :: st) (D)) : mEv X Q mid pc L (.int y :: .int x :: st) D := ev_inl hm hf (q := (pc + 1, L, .int (x ^^^ y) :: st, D)) (by rfl) k
theorem x_ishl {x y : Int32} (hm : mMet mid = some row) (hf : mFetch mid pc = some (.ishl, ex)) (k : mEv X Q mid (pc + 1) (L) (.int (x <<< (y &&& 31)) :: st) (D)) : mEv X Q mid pc L (.int y :: .int x :: st) D := ev_inl hm hf (q := (pc + 1, L, .int (x <<< (y &&& 31)) :: st, D)) (by rfl) k
theorem x_ishr {x y : Int32} (hm : mMet mid = some row) (hf : mFetch mid pc = some (.ishr, ex)) (k : mEv X Q mid (pc + 1) (L) (.int (x >>> (y &&& 31)) :: st) (D)) : mEv X Q mid pc L (.int y :: .int x :: st) D := ev_inl hm hf (q := (pc + 1, L, .int (x >>> (y &&& 31)) :: st, D)) (by rfl) k
theorem x_iushr {x y : Int32} (hm : mMet mid = some row) (hf : mFetch mid pc = some (.iushr, ex)) (k : mEv X Q mid (pc + 1) (L) (.int ((x.toUInt32 >>> (y.toUInt32 &&& Int32.toUInt32 31)).toInt32) :: st) (D)) : mEv X Q mid pc L (.int y :: .int x :: st) D := ev_inl hm hf (q := (pc + 1, L, .int ((x.toUInt32 >>> (y.toUInt32 &&& Int32.toUInt32 31)).toInt32) :: st, D)) (by rfl) k
theorem x_idiv {x y : Int32} (hm : mMet mid = some row) (hf : mFetch mid pc = some (.idiv, ex)) (hy : ¬ y = 0) (k : mEv X Q mid (pc + 1) (L) (.int (x / y) :: st) (D)) : mEv X Q mid pc L (.int y :: .int x :: st) D := ev_inl hm hf (q := (pc + 1, L, .int (x / y) :: st, D)) (by unfold mStep; dsimp only; rw [if_neg hy]; rfl) k
theorem x_irem {x y : Int32} (hm : mMet mid = some row) (hf : mFetch mid pc = some (.irem, ex)) (hy : ¬ y = 0) (k : mEv X Q mid (pc + 1) (L) (.int (x - x / y * y) :: st) (D)) : mEv X Q mid pc L (.int y :: .int x :: st) D := ev_inl hm hf (q := (pc + 1, L, .int (x - x / y * y) :: st, D)) (by unfold mStep; dsimp only; rw [if_neg hy]; rfl) k
theorem x_i2l {x : Int32} (hm : mMet mid = some row) (hf : mFetch mid pc = some (.i2l, ex)) (k : mEv X Q mid (pc + 1) (L) (.long x.toInt64 :: st) (D)) : mEv X Q mid pc L (.int x :: st) D := ev_inl hm hf (q := (pc + 1, L, .long x.toInt64 :: st, D)) (by rfl) k
theorem x_i2b {x : Int32} (hm : mMet mid = some row) (hf : mFetch mid pc = some (.i2b, ex)) (k : mEv X Q mid (pc + 1) (L) (.int x.toInt8.toInt32 :: st) (D)) : mEv X Q mid pc L (.int x :: st) D := ev_inl hm hf (q := (pc + 1, L, .int x.toInt8.toInt32 :: st, D)) (by rfl) k
theorem x_i2s {x : Int32} (hm : mMet mid = some row) (hf : mFetch mid pc = some (.i2s, ex)) (k : mEv X Q mid (pc + 1) (L) (.int x.toInt16.toInt32 :: st) (D)) : mEv X Q mid pc L (.int x :: st) D := ev_inl hm hf (q := (pc + 1, L, .int x.toInt16.toInt32 :: st, D)) (by rfl) k
theorem x_ladd {x y : Int64} (hm : mMet mid = some row) (hf : mFetch mid pc = some (.ladd, ex)) (k : mEv X Q mid (pc + 1) (L) (.long (x + y) :: st) (D)) : mEv X Q mid pc L (.long y :: .long x :: st) D := ev_inl hm hf (q := (pc + 1, L, .long (x + y) :: st, D)) (by rfl) k
theorem x_lmul {x y : Int64} (hm : mMet mid = some row) (hf : mFetch mid pc = some (.lmul, ex)) (k : mEv X Q mid (pc + 1) (L) (.long (x * y) :: st) (D)) : mEv X Q mid pc L (.long y :: .long x :: st) D := ev_inl hm hf (q := (pc + 1, L, .long (x * y) :: st, D)) (by rfl) k
theorem x_lcmp {x y : Int64} (hm : mMet mid = some row) (hf : mFetch mid pc = some (.lcmp, ex)) (k : mEv X Q mid (pc + 1) (L) (.int (lg_cmp x y) :: st) (D)) : mEv X Q mid pc L (.long y :: .long x :: st) D := ev_inl hm hf (q := (pc + 1, L, .int (lg_cmp x y) :: st, D)) (by rfl) k
theorem x_dup {v : Value} (hm : mMet mid = some row) (hf : mFetch mid pc = some (.dup, ex)) (hc : v.category = 1) (k : mEv X Q mid (pc + 1) (L) (v :: v :: st) (D)) : mEv X Q mid pc L (v :: st) D := ev_inl hm hf (q := (pc + 1, L, v :: v :: st, D)) (by unfold mStep; dsimp only; rw [hc]; rfl) k
theorem x_pop {v : Value} (hm : mMet mid = some row) (hf : mFetch mid pc = some (.pop, ex)) (hc : v.category = 1) (k : mEv X Q mid (pc + 1) (L) (st) (D)) : mEv X Q mid pc L (v :: st) D := ev_inl hm hf (q := (pc + 1, L, st, D)) (by unfold mStep; dsimp only; rw [hc]; rfl) k
theorem x_dup2 {v w : Value} (hm : mMet mid = some row) (hf : mFetch mid pc = some (.dup2, ex)) (hc : v.category = 1) (hw : w.category = 1) (k : mEv X Q mid (pc + 1) (L) (v :: w :: v :: w :: st) (D)) : mEv X Q mid pc L (v :: w :: st) D := ev_inl hm hf (q := (pc + 1, L, v :: w :: v :: w :: st, D)) (by unfold mStep; dsimp only; rw [hc, hw]; rfl) k
theorem x_pop2 {x : Int64} (hm : mMet mid = some row) (hf : mFetch mid pc = some (.pop2, ex)) (k : mEv X Q mid (pc + 1) (L) (st) (D)) : mEv X Q mid pc L (.long x :: st) D := ev_inl hm hf (q := (pc + 1, L, st, D)) (by rfl) k
theorem x_if_eq {x : Int32} {off : Int} {t : Nat} (hm : mMet mid = some row) (hf : mFetch mid pc = some (.ifCond .eq off, ex)) (ht : mTo pc off = some t) (kt : x = 0 → mEv X Q mid t L st D) (kf : ¬ (x = 0) → mEv X Q mid (pc + 3) L st D) : mEv X Q mid pc L (.int x :: st) D := by
  by_cases hc : x = 0
  · exact ev_inl hm hf (q := (t, L, st, D)) (by unfold mStep mBr; dsimp only; rw [show mTo pc off = some t from ht]; simp [hc]) (kt hc)
  · exact ev_inl hm hf (q := (pc + 3, L, st, D)) (by unfold mStep mBr; dsimp only; rw [show mTo pc off = some t from ht]; simp [hc]) (kf hc)
theorem x_icmp_eq {x y : Int32} {off : Int} {t : Nat} (hm : mMet mid = some row) (hf : mFetch mid pc = some (.if_icmp .eq off, ex)) (ht : mTo pc off = some t) (kt : x = y → mEv X Q mid t L st D) (kf : ¬ (x = y) → mEv X Q mid (pc + 3) L st D) : mEv X Q mid pc L (.int y :: .int x :: st) D := by
  by_cases hc : x = y
  · exact ev_inl hm hf (q := (t, L, st, D)) (by unfold mStep mBr; dsimp only; rw [show mTo pc off = some t from ht]; simp [hc]) (kt hc)
  · exact ev_inl hm hf (q := (pc + 3, L, st, D)) (by unfold mStep mBr; dsimp only; rw [show mTo pc off = some t from ht]; simp [hc]) (kf hc)
theorem x_if_ne {x : Int32} {off : Int} {t : Nat} (hm : mMet mid = some row) (hf : mFetch mid pc = some (.ifCond .ne off, ex)) (ht : mTo pc off = some t) (kt : ¬ x = 0 → mEv X Q mid t L st D) (kf : x = 0 → mEv X Q mid (pc + 3) L st D) : mEv X Q mid pc L (.int x :: st) D := by
  by_cases hc : x = 0
  · exact ev_inl hm hf (q := (pc + 3, L, st, D)) (by unfold mStep mBr; dsimp only; rw [show mTo pc off = some t from ht]; simp [hc]) (kf hc)
  · exact ev_inl hm hf (q := (t, L, st, D)) (by unfold mStep mBr; dsimp only; rw [show mTo pc off = some t from ht]; simp [hc]) (kt hc)
theorem x_icmp_ne {x y : Int32} {off : Int} {t : Nat} (hm : mMet mid = some row) (hf : mFetch mid pc = some (.if_icmp .ne off, ex)) (ht : mTo pc off = some t) (kt : ¬ x = y → mEv X Q mid t L st D) (kf : x = y → mEv X Q mid (pc + 3) L st D) : mEv X Q mid pc L (.int y :: .int x :: st) D := by
  by_cases hc : x = y
  · exact ev_inl hm hf (q := (pc + 3, L, st, D)) (by unfold mStep mBr; dsimp only; rw [show mTo pc off = some t from ht]; simp [hc]) (kf hc)
  · exact ev_inl hm hf (q := (t, L, st, D)) (by unfold mStep mBr; dsimp only; rw [show mTo pc off = some t from ht]; simp [hc]) (kt hc)
theorem x_if_lt {x : Int32} {off : Int} {t : Nat} (hm : mMet mid = some row) (hf : mFetch mid pc = some (.ifCond .lt off, ex)) (ht : mTo pc off = some t) (kt : x < 0 → mEv X Q mid t L st D) (kf : ¬ (x < 0) → mEv X Q mid (pc + 3) L st D) : mEv X Q mid pc L (.int x :: st) D := by
  by_cases hc : x < 0
  · exact ev_inl hm hf (q := (t, L, st, D)) (by unfold mStep mBr; dsimp only; rw [show mTo pc off = some t from ht]; simp [hc]) (kt hc)
  · exact ev_inl hm hf (q := (pc + 3, L, st, D)) (by unfold mStep mBr; dsimp only; rw [show mTo pc off = some t from ht]; simp [hc]) (kf hc)
theorem x_icmp_lt {x y : Int32} {off : Int} {t : Nat} (hm : mMet mid = some row) (hf : mFetch mid pc = some (.if_icmp .lt off, ex)) (ht : mTo pc off = some t) (kt : x < y → mEv X Q mid t L st D) (kf : ¬ (x < y) → mEv X Q mid (pc + 3) L st D) : mEv X Q mid pc L (.int y :: .int x :: st) D := by
  by_cases hc : x < y
  · exact ev_inl hm hf (q := (t, L, st, D)) (by unfold mStep mBr; dsimp only; rw [show mTo pc off = some t from ht]; simp [hc]) (kt hc)
  · exact ev_inl hm hf (q := (pc + 3, L, st, D)) (by unfold mStep mBr; dsimp only; rw [show mTo pc off = some t from ht]; simp [hc]) (kf hc)
theorem x_if_ge {x : Int32} {off : Int} {t : Nat} (hm : mMet mid = some row) (hf : mFetch mid pc = some (.ifCond .ge off, ex)) (ht : mTo pc off = some t) (kt : 0 ≤ x → mEv X Q mid t L st D) (kf : ¬ (0 ≤ x) → mEv X Q mid (pc + 3) L st D) : mEv X Q mid pc L (.int x :: st) D := by
  by_cases hc : 0 ≤ x
  · exact ev_inl hm hf (q := (t, L, st, D)) (by unfold mStep mBr; dsimp only; rw [show mTo pc off = some t from ht]; simp [hc]) (kt hc)
  · exact ev_inl hm hf (q := (pc + 3, L, st, D)) (by unfold mStep mBr; dsimp only; rw [show mTo pc off = some t from ht]; simp [hc]) (kf hc)
theorem x_icmp_ge {x y : Int32} {off : Int} {t : Nat} (hm : mMet mid = some row) (hf : mFetch mid pc = some (.if_icmp .ge off, ex)) (ht : mTo pc off = some t) (kt : y ≤ x → mEv X Q mid t L st D) (kf : ¬ (y ≤ x) → mEv X Q mid (pc + 3) L st D) : mEv X Q mid pc L (.int y :: .int x :: st) D := by
  by_cases hc : y ≤ x
  · exact ev_inl hm hf (q := (t, L, st, D)) (by unfold mStep mBr; dsimp only; rw [show mTo pc off = some t from ht]; simp [hc]) (kt hc)
  · exact ev_inl hm hf (q := (pc + 3, L, st, D)) (by unfold mStep mBr; dsimp only; rw [show mTo pc off = some t from ht]; simp [hc]) (kf hc)
theorem x_if_gt {x : Int32} {off : Int} {t : Nat} (hm : mMet mid = some row) (hf : mFetch mid pc = some (.ifCond .gt off, ex)) (ht : mTo pc off = some t) (kt : 0 < x → mEv X Q mid t L st D) (kf : ¬ (0 < x) → mEv X Q mid (pc + 3) L st D) : mEv X Q mid pc L (.int x :: st) D := by
  by_cases hc : 0 < x
  · exact ev_inl hm hf (q := (t, L, st, D)) (by unfold mStep mBr; dsimp only; rw [show mTo pc off = some t from ht]; simp [hc]) (kt hc)
  · exact ev_inl hm hf (q := (pc + 3, L, st, D)) (by unfold mStep mBr; dsimp only; rw [show mTo pc off = some t from ht]; simp [hc]) (kf hc)
theorem x_icmp_gt {x y : Int32} {off : Int} {t : Nat} (hm : mMet mid = some row) (hf : mFetch mid pc = some (.if_icmp .gt off, ex)) (ht : mTo pc off = some t) (kt : y < x → mEv X Q mid t L st D) (kf : ¬ (y < x) → mEv X Q mid (pc + 3) L st D) : mEv X Q mid pc L (.int y :: .int x :: st) D := by
  by_cases hc : y < x
  · exact ev_inl hm hf (q := (t, L, st, D)) (by unfold mStep mBr; dsimp only; rw [show mTo pc off = some t from ht]; simp [hc]) (kt hc)
  · exact ev_inl hm hf (q := (pc + 3, L, st, D)) (by unfold mStep mBr; dsimp only; rw [show mTo pc off = some t from ht]; simp [hc]) (kf hc)
theorem x_if_le {x : Int32} {off : Int} {t : Nat} (hm : mMet mid = some row) (hf : mFetch mid pc = some (.ifCond .le off, ex)) (ht : mTo pc off = some t) (kt : x ≤ 0 → mEv X Q mid t L st D) (kf : ¬ (x ≤ 0) → mEv X Q mid (pc + 3) L st D) : mEv X Q mid pc L (.int x :: st) D := by
  by_cases hc : x ≤ 0
  · exact ev_inl hm hf (q := (t, L, st, D)) (by unfold mStep mBr; dsimp only; rw [show mTo pc off = some t from ht]; simp [hc]) (kt hc)
  · exact ev_inl hm hf (q := (pc + 3, L, st, D)) (by unfold mStep mBr; dsimp only; rw [show mTo pc off = some t from ht]; simp [hc]) (kf hc)
theorem x_icmp_le {x y : Int32} {off : Int} {t : Nat} (hm : mMet mid = some row) (hf : mFetch mid pc = some (.if_icmp .le off, ex)) (ht : mTo pc off = some t) (kt : x ≤ y → mEv X Q mid t L st D) (kf : ¬ (x ≤ y) → mEv X Q mid (pc + 3) L st D) : mEv X Q mid pc L (.int y :: .int x :: st) D := by
  by_cases hc : x ≤ y
  · exact ev_inl hm hf (q := (t, L, st, D)) (by unfold mStep mBr; dsimp only; rw [show mTo pc off = some t from ht]; simp [hc]) (kt hc)
  · exact ev_inl hm hf (q := (pc + 3, L, st, D)) (by unfold mStep mBr; dsimp only; rw [show mTo pc off = some t from ht]; simp [hc]) (kf hc)
theorem x_goto {off : Int} {t : Nat} (hm : mMet mid = some row) (hf : mFetch mid pc = some (.goto off, ex)) (ht : mTo pc off = some t) (k : mEv X Q mid t L st D) : mEv X Q mid pc L st D := ev_inl hm hf (q := (t, L, st, D)) (by unfold mStep mGo; dsimp only; rw [show mTo pc off = some t from ht]; rfl) k
theorem x_tsOut {x : Int32} {dflt lo hi : Int} {offs : Array Int} {t : Nat} (hm : mMet mid = some row) (hf : mFetch mid pc = some (.tableswitch dflt lo hi offs, ex)) (hx : x.toInt < lo ∨ hi < x.toInt) (ht : mTo pc dflt = some t) (k : mEv X Q mid t L st D) : mEv X Q mid pc L (.int x :: st) D := ev_inl hm hf (q := (t, L, st, D)) (by unfold mStep mGo; dsimp only; rw [if_pos hx, show mTo pc dflt = some t from ht]; rfl) k
theorem x_tsIn {x : Int32} {dflt lo hi off : Int} {offs : Array Int} {t : Nat} (hm : mMet mid = some row) (hf : mFetch mid pc = some (.tableswitch dflt lo hi offs, ex)) (hx : ¬ (x.toInt < lo ∨ hi < x.toInt)) (ho : offs[(x.toInt - lo).toNat]? = some off) (ht : mTo pc off = some t) (k : mEv X Q mid t L st D) : mEv X Q mid pc L (.int x :: st) D := ev_inl hm hf (q := (t, L, st, D)) (by unfold mStep mGo; dsimp only; rw [if_neg hx, ho]; dsimp only; rw [show mTo pc off = some t from ht]; rfl) k
theorem x_ts {x : Int32} {dflt lo hi : Int} {offs : Array Int} (hm : mMet mid = some row) (hf : mFetch mid pc = some (.tableswitch dflt lo hi offs, ex)) (hD : (x.toInt < lo ∨ hi < x.toInt) → ∃ t, mTo pc dflt = some t ∧ mEv X Q mid t L st D) (hI : ∀ i : Nat, x.toInt = lo + i → (i : Int) ≤ hi - lo → ∃ off t, offs[i]? = some off ∧ mTo pc off = some t ∧ mEv X Q mid t L st D) : mEv X Q mid pc L (.int x :: st) D := by
  by_cases hx : x.toInt < lo ∨ hi < x.toInt
  · obtain ⟨t, h1, h2⟩ := hD hx
    exact x_tsOut hm hf hx h1 h2
  · obtain ⟨off, t, h1, h2, h3⟩ := hI (x.toInt - lo).toNat (by omega) (by omega)
    exact x_tsIn hm hf hx h1 h2 h3
theorem x_getf {i idx j kd a b : Nat} {z : Int} {v : Value} (hm : mMet mid = some row) (hf : mFetch mid pc = some (.getfield idx, 3, j, kd, a, b, z)) (hv : mGet D i a b = some v) (k : mEv X Q mid (pc + 3) L (v :: st) D) : mEv X Q mid pc L (.ref i :: st) D := ev_inl hm hf (q := (pc + 3, L, v :: st, D)) (by unfold mStep; dsimp only; rw [hv]; rfl) k
theorem x_putf {i idx j kd a b : Nat} {z : Int} {v : Value} {D1 : mHp} (hm : mMet mid = some row) (hf : mFetch mid pc = some (.putfield idx, 3, j, kd, a, b, z)) (hv : mPut row kd D i a b v = some D1) (k : mEv X Q mid (pc + 3) L st D1) : mEv X Q mid pc L (v :: .ref i :: st) D := ev_inl hm hf (q := (pc + 3, L, st, D1)) (by unfold mStep; dsimp only; rw [hv]; rfl) k
theorem x_gets {idx : Nat} (hm : mMet mid = some row) (hf : mFetch mid pc = some (.getstatic idx, ex)) (k : mEv X Q mid (pc + 3) L (.ref 1000100 :: st) D) : mEv X Q mid pc L st D := ev_inl hm hf (q := (pc + 3, L, .ref 1000100 :: st, D)) (by rfl) k
theorem x_iald {i : Nat} {j : Int32} {v : Value} (hm : mMet mid = some row) (hf : mFetch mid pc = some (.iaload, ex)) (hv : mLd X 0 D i j = some v) (k : mEv X Q mid (pc + 1) L (v :: st) D) : mEv X Q mid pc L (.int j :: .ref i :: st) D := ev_inl hm hf (q := (pc + 1, L, v :: st, D)) (by unfold mStep; dsimp only; rw [hv]; rfl) k
theorem x_bald {i : Nat} {j : Int32} {v : Value} (hm : mMet mid = some row) (hf : mFetch mid pc = some (.baload, ex)) (hv : mLd X 1 D i j = some v) (k : mEv X Q mid (pc + 1) L (v :: st) D) : mEv X Q mid pc L (.int j :: .ref i :: st) D := ev_inl hm hf (q := (pc + 1, L, v :: st, D)) (by unfold mStep; dsimp only; rw [hv]; rfl) k
theorem x_aald {i : Nat} {j : Int32} {v : Value} (hm : mMet mid = some row) (hf : mFetch mid pc = some (.aaload, ex)) (hv : mLdq D i j = some v) (k : mEv X Q mid (pc + 1) L (v :: st) D) : mEv X Q mid pc L (.int j :: .ref i :: st) D := ev_inl hm hf (q := (pc + 1, L, v :: st, D)) (by unfold mStep; dsimp only; rw [hv]; rfl) k
theorem x_iast {i : Nat} {j x : Int32} {D1 : mHp} (hm : mMet mid = some row) (hf : mFetch mid pc = some (.iastore, ex)) (hv : mStI 0 D i j x = some D1) (k : mEv X Q mid (pc + 1) L st D1) : mEv X Q mid pc L (.int x :: .int j :: .ref i :: st) D := ev_inl hm hf (q := (pc + 1, L, st, D1)) (by unfold mStep; dsimp only; rw [hv]; rfl) k
theorem x_bast {i : Nat} {j x : Int32} {D1 : mHp} (hm : mMet mid = some row) (hf : mFetch mid pc = some (.bastore, ex)) (hv : mStI 1 D i j x = some D1) (k : mEv X Q mid (pc + 1) L st D1) : mEv X Q mid pc L (.int x :: .int j :: .ref i :: st) D := ev_inl hm hf (q := (pc + 1, L, st, D1)) (by unfold mStep; dsimp only; rw [hv]; rfl) k
theorem x_alen {i : Nat} {n : Int32} (hm : mMet mid = some row) (hf : mFetch mid pc = some (.arraylength, ex)) (hv : mLen X D i = some n) (k : mEv X Q mid (pc + 1) L (.int n :: st) D) : mEv X Q mid pc L (.ref i :: st) D := ev_inl hm hf (q := (pc + 1, L, .int n :: st, D)) (by unfold mStep; dsimp only; rw [hv]; rfl) k
theorem x_callS {idx len j kd a b : Nat} {z : Int} {as r : List Value} {rv : Option Value} {D1 : mHp} (hm : mMet mid = some row) (hf : mFetch mid pc = some (.invokestatic idx, len, j, kd, a, b, z)) (hs : mCall (.invokestatic idx, len, j, kd, a, b, z) false pc L st D = some (.inr (.inr (a, as, r)))) (hc : mT X a as D rv D1) (k : mEv X Q mid (pc + 3) L (rv.toList ++ r) D1) : mEv X Q mid pc L st D := ev_call hm hf (x := (a, as, r)) hs hc k
theorem x_callV {idx len j kd a b : Nat} {z : Int} {as r : List Value} {rv : Option Value} {D1 : mHp} (hm : mMet mid = some row) (hf : mFetch mid pc = some (.invokevirtual idx, len, j, kd, a, b, z)) (hs : mCall (.invokevirtual idx, len, j, kd, a, b, z) true pc L st D = some (.inr (.inr (a, as, r)))) (hc : mT X a as D rv D1) (k : mEv X Q mid (pc + 3) L (rv.toList ++ r) D1) : mEv X Q mid pc L st D := ev_call hm hf (x := (a, as, r)) hs hc k
theorem x_callI {idx len j kd a b : Nat} {z : Int} {as r : List Value} {rv : Option Value} {D1 : mHp} (hm : mMet mid = some row) (hf : mFetch mid pc = some (.invokespecial idx, len, j, kd, a, b, z)) (hs : mCall (.invokespecial idx, len, j, kd, a, b, z) true pc L st D = some (.inr (.inr (a, as, r)))) (hc : mT X a as D rv D1) (k : mEv X Q mid (pc + 3) L (rv.toList ++ r) D1) : mEv X Q mid pc L st D := ev_call hm hf (x := (a, as, r)) hs hc k
theorem x_lib {idx len j kd a b : Nat} {z : Int} {q : Nat × mLoc × List Value × mHp} (hm : mMet mid = some row) (hf : mFetch mid pc = some (.invokestatic idx, len, j, kd, a, b, z)) (hs : mCall (.invokestatic idx, len, j, kd, a, b, z) false pc L st D = some (.inl q)) (k : mEv X Q mid q.1 q.2.1 q.2.2.1 q.2.2.2) : mEv X Q mid pc L st D := ev_inl hm hf hs k
theorem x_libV {idx len j kd a b : Nat} {z : Int} {q : Nat × mLoc × List Value × mHp} (hm : mMet mid = some row) (hf : mFetch mid pc = some (.invokevirtual idx, len, j, kd, a, b, z)) (hs : mCall (.invokevirtual idx, len, j, kd, a, b, z) true pc L st D = some (.inl q)) (k : mEv X Q mid q.1 q.2.1 q.2.2.1 q.2.2.2) : mEv X Q mid pc L st D := ev_inl hm hf hs k
theorem x_libI {idx len j kd a b : Nat} {z : Int} {q : Nat × mLoc × List Value × mHp} (hm : mMet mid = some row) (hf : mFetch mid pc = some (.invokespecial idx, len, j, kd, a, b, z)) (hs : mCall (.invokespecial idx, len, j, kd, a, b, z) true pc L st D = some (.inl q)) (k : mEv X Q mid q.1 q.2.1 q.2.2.1 q.2.2.2) : mEv X Q mid pc L st D := ev_inl hm hf hs k
theorem x_iret {v : Int32} {ty : FieldType} (hm : mMet mid = some row) (hf : mFetch mid pc = some (.ireturn, ex)) (hty : row.2.2.2.2.1 = some ty) (hn : narrow ty (.int v) = .int v) (hq : Q (some (.int v)) D) : mEv X Q mid pc L [.int v] D := ev_ret hm hf (v := some (.int v)) (by unfold mStep; dsimp only; rw [hty]; dsimp only; rw [decide_eq_true hn]; rfl) hq
theorem x_lret {v : Int64} (hm : mMet mid = some row) (hf : mFetch mid pc = some (.lreturn, ex)) (hty : row.2.2.2.2.1 = some .long) (hq : Q (some (.long v)) D) : mEv X Q mid pc L [.long v] D := ev_ret hm hf (v := some (.long v)) (by unfold mStep; dsimp only; rw [hty]; rfl) hq
theorem x_aret {v : Nat} {C : String} (hm : mMet mid = some row) (hf : mFetch mid pc = some (.areturn, ex)) (hty : row.2.2.2.2.1 = some (.object C)) (hq : Q (some (.ref v)) D) : mEv X Q mid pc L [.ref v] D := ev_ret hm hf (v := some (.ref v)) (by unfold mStep; dsimp only; rw [hty]) hq
theorem x_ret (hm : mMet mid = some row) (hf : mFetch mid pc = some (.return_, ex)) (hty : row.2.2.2.2.1 = none) (hq : Q none D) : mEv X Q mid pc L [] D := ev_ret hm hf (v := none) (by unfold mStep; dsimp only; rw [hty]; rfl) hq
end MEV
end
section
/-! ===== the world behind the constructors: its cells are fixed, its numbers are M ===== -/
abbrev mM : Type := Nat → Nat → Int32
def mSp : List (Nat × Nat × List Nat) := [(5, 3, [2, 19, 36, 53, 55, 56, 0, 57, 58]),
  (5, 2, [3, 10, 18, 0, 0, 0, 0, 0]),
  (3, 6, [3, 4, 5, 6, 7, 8]),
  (0, 8, []),
  (0, 8, []),
  (0, 8, []),
  (0, 8, []),
  (0, 8, []),
  (0, 8, []),
  (3, 7, [10, 11, 12, 13, 14, 15, 16]),
  (0, 8, []),
  (0, 8, []),
  (0, 8, []),
  (0, 8, []),
  (0, 8, []),
  (0, 8, []),
  (0, 8, []),
  (0, 10, []),
  (5, 2, [20, 27, 35, 0, 0, 0, 0, 0]),
  (3, 6, [20, 21, 22, 23, 24, 25]),
  (0, 8, []),
  (0, 8, []),
  (0, 8, []),
  (0, 8, []),
  (0, 8, []),
  (0, 8, []),
  (3, 7, [27, 28, 29, 30, 31, 32, 33]),
  (0, 8, []),
  (0, 8, []),
  (0, 8, []),
  (0, 8, []),
  (0, 8, []),
  (0, 8, []),
  (0, 8, []),
  (0, 10, []),
  (5, 2, [37, 44, 52, 0, 0, 0, 0, 0]),
  (3, 6, [37, 38, 39, 40, 41, 42]),
  (0, 8, []),
  (0, 8, []),
  (0, 8, []),
  (0, 8, []),
  (0, 8, []),
  (0, 8, []),
  (3, 7, [44, 45, 46, 47, 48, 49, 50]),
  (0, 8, []),
  (0, 8, []),
  (0, 8, []),
  (0, 8, []),
  (0, 8, []),
  (0, 8, []),
  (0, 8, []),
  (0, 10, []),
  (5, 1, [54, 0, 0, 0, 0, 0, 0]),
  (1, 120, []),
  (2, 4, [58, 60, 62, 64]),
  (0, 7, []),
  (0, 8, []),
  (0, 8, []),
  (5, 0, [60, 0, 0]),
  (0, 40, []),
  (5, 0, [62, 0, 0]),
  (0, 40, []),
  (5, 0, [64, 0, 0]),
  (0, 40, []),
  (5, 0, [66, 0, 0]),
  (0, 40, []),
  (5, 4, [68, 69, 70, 0, 71, 72, 0, 73, 74, 0, 0, 0, 0, 0, 0, 75, 76, 0, 0, 0, 77, 78, 79, 80]),
  (0, 118, []),
  (0, 118, []),
  (0, 118, []),
  (0, 8, []),
  (0, 8, []),
  (0, 8, []),
  (0, 120, []),
  (4, 7, [1000007, 1000001, 1000002, 1000003, 1000004, 1000005, 1000006]),
  (0, 840, []),
  (0, 4, []),
  (0, 4, []),
  (0, 160, []),
  (0, 40, [])]
noncomputable def mCellv (M : mM) (k : Nat) (q : Nat × Nat × List Nat) : va_E := match q.1 with
  | 0 => .inl (0, q.2.1, .inl (M k))
  | 1 => .inl (1, q.2.1, .inl (M k))
  | 5 => .inr (q.2.1, (q.2.2.zipIdx).map fun x => match x.1 with
    | 0 => .int (M k x.2)
    | r + 1 => .ref r)
  | t => .inl (t, q.2.1, .inr (.inr (.inr (.inr (fun i => q.2.2[i]?)))))
noncomputable def con (M : mM) : mHp := (mSp.zipIdx).map fun x => mCellv M x.2 x.1
def mput (M : mM) (a b : Nat) (v : Int32) : mM := fun i j => if i = a ∧ j = b then v else M i j
theorem con_get {M : mM} {k : Nat} {q : Nat × Nat × List Nat} (h : mSp[k]? = some q) : (con M)[k]? = some (mCellv M k q) := by
  unfold con
  rw [List.getElem?_map, List.getElem?_zipIdx, h]
  simp
theorem con_none {M : mM} {k : Nat} (h : 80 ≤ k) : (con M)[k]? = none := by
  have hl : mSp.length = 80 := rfl
  unfold con
  rw [List.getElem?_map, List.getElem?_zipIdx, List.getElem?_eq_none (by omega)]
  rfl
theorem con_set {M M' : mM} {k : Nat} {q : Nat × Nat × List Nat} {c : va_E} (h : mSp[k]? = some q) (hc : mCellv M' k q = c) (ho : ∀ i, i ≠ k → M' i = M i) : (con M).set k c = con M' := by
  refine List.ext_getElem? fun i => ?_
  by_cases hi : i = k
  · subst hi
    rw [List.getElem?_set_self (mLt_of (con_get (M := M) h)), con_get h, hc]
  · rw [List.getElem?_set_ne (fun e => hi e.symm)]
    cases hs : mSp[i]? with
    | none =>
      have hl : mSp.length = 80 := rfl
      have := List.getElem?_eq_none_iff.mp hs
      rw [con_none (by omega), con_none (by omega)]
    | some qi =>
      rw [con_get hs, con_get hs]
      unfold mCellv
      rw [ho i hi]
theorem con_obj {M : mM} {i a : Nat} {fs : List Nat} (h : mSp[i]? = some (5, a, fs)) : (con M)[i]? = some (.inr (a, (fs.zipIdx).map fun x => match x.1 with
    | 0 => .int (M i x.2)
    | r + 1 => .ref r)) := con_get h
theorem con_fld {M : mM} {i b : Nat} {fs : List Nat} : (((fs.zipIdx).map fun x => match x.1 with
    | 0 => (.int (M i x.2) : Value)
    | r + 1 => .ref r))[b]? = (fs[b]?).map fun y => match y with
    | 0 => .int (M i b)
    | r + 1 => .ref r := by
  rw [List.getElem?_map, List.getElem?_zipIdx]
  cases fs[b]? with
  | none => rfl
  | some y => simp
section CON
variable {X : mSc} {Q : Option Value → mHp → Prop} {mid pc : Nat} {L : mLoc} {st : List Value} {M : mM} {row : mRow} {ex : Nat × Nat × Nat × Nat × Nat × Int} {i a b n : Nat} {fs : List Nat}
theorem gI (hs : mSp[i]? = some (5, a, fs)) (hb : fs[b]? = some 0) : mGet (con M) i a b = some (.int (M i b)) := by
  unfold mGet
  rw [con_obj hs]
  dsimp only
  rw [con_fld, hb, Nat.beq_refl]
  rfl
theorem gR {r : Nat} (hs : mSp[i]? = some (5, a, fs)) (hb : fs[b]? = some (r + 1)) : mGet (con M) i a b = some (.ref r) := by
  unfold mGet
  rw [con_obj hs]
  dsimp only
  rw [con_fld, hb, Nat.beq_refl]
  rfl
theorem pI {kd : Nat} {v : Int32} (hs : mSp[i]? = some (5, a, fs)) (hb : fs[b]? = some 0) (hN : b < mFN a) (hfit : mFit (mFy a b) (.int v) = true) (hfin : (mFT a b).2.2.2 = false) : mPut row kd (con M) i a b (.int v) = some (con (mput M i b v)) := by
  unfold mPut
  rw [con_obj hs]
  dsimp only
  have hl : b < fs.length := (List.getElem?_eq_some_iff.mp hb).1
  have hl2 : b < ((fs.zipIdx).map fun x => match x.1 with
    | 0 => (.int (M i x.2) : Value)
    | r + 1 => .ref r).length := by simpa using hl
  rw [Nat.beq_refl, Nat.blt_eq.mpr hN, Nat.blt_eq.mpr hl2, hfit, hfin]
  simp only [Bool.and_true, Bool.not_false, Bool.true_or, cond_true, Option.some.injEq]
  refine con_set hs ?_ fun j hj => by funext c; simp [mput, hj]
  show (.inr (a, _) : va_E) = .inr (a, _)
  congr 2
  refine List.ext_getElem? fun c => ?_
  by_cases hc : c = b
  · subst hc
    rw [List.getElem?_set_self hl2, con_fld, hb]
    simp [mput]
  · rw [List.getElem?_set_ne (fun e => hc e.symm), con_fld, con_fld]
    simp [mput, hc]
theorem jI_int {k : Nat} (h : k < 2147483648) : (nI k).toInt = (k : Int) := Int32.toInt_ofNat_of_lt h
theorem jI_nat {k : Nat} (h : k < 2147483648) : (nI k).toNatClampNeg = k := by
  show (nI k).toInt.toNat = k
  rw [jI_int h]
  rfl
theorem jI_nn {k : Nat} (h : k < 2147483648) : ¬ nI k < 0 := by
  rw [Int32.lt_iff_toInt_lt, jI_int h]
  show ¬ (k : Int) < 0
  omega
theorem jI_out {k n : Nat} (hk : k < n) (hn : n ≤ 1000) : mOut (nI k) n = false := by
  unfold mOut
  rw [jI_nat (by omega), decide_eq_false_iff_not]
  rintro (h | h)
  · exact jI_nn (by omega) h
  · omega
theorem lI {k : Nat} (hs : mSp[i]? = some (0, n, fs)) (hk : k < n) (hn : n ≤ 1000) : mLd X 0 (con M) i (nI k) = some (.int (M i k)) := by
  unfold mLd
  rw [con_get hs]
  show cond (Nat.beq 0 0 && !mOut (nI k) n) (some (Value.int (M i (nI k).toNatClampNeg))) none = _
  rw [jI_out hk hn, jI_nat (by omega)]
  rfl
theorem lB {k : Nat} (hs : mSp[i]? = some (1, n, fs)) (hk : k < n) (hn : n ≤ 1000) : mLd X 1 (con M) i (nI k) = some (.int (M i k)) := by
  unfold mLd
  rw [con_get hs]
  show cond (Nat.beq 1 1 && !mOut (nI k) n) (some (Value.int (M i (nI k).toNatClampNeg))) none = _
  rw [jI_out hk hn, jI_nat (by omega)]
  rfl
theorem lQ {k r : Nat} (t : Nat) (ht : t = 2 ∨ t = 3 ∨ t = 4) (hs : mSp[i]? = some (t, n, fs)) (hr : fs[k]? = some r) (hk : k < n) (hn : n ≤ 1000) : mLdq (con M) i (nI k) = some (.ref r) := by
  unfold mLdq
  rw [con_get hs]
  rcases ht with rfl | rfl | rfl
  · show cond (Nat.ble 2 2 && Nat.ble 2 4 && !mOut (nI k) n) (some (va_rf (fs[(nI k).toNatClampNeg]?))) none = _
    rw [jI_out hk hn, jI_nat (by omega), hr]
    rfl
  · show cond (Nat.ble 2 3 && Nat.ble 3 4 && !mOut (nI k) n) (some (va_rf (fs[(nI k).toNatClampNeg]?))) none = _
    rw [jI_out hk hn, jI_nat (by omega), hr]
    rfl
  · show cond (Nat.ble 2 4 && Nat.ble 4 4 && !mOut (nI k) n) (some (va_rf (fs[(nI k).toNatClampNeg]?))) none = _
    rw [jI_out hk hn, jI_nat (by omega), hr]
    rfl
theorem upd_mput {k : Nat} {v : Int32} : upd (M i) k v = mput M i k v i := by
  funext c
  simp [upd, mput]
theorem sI {k : Nat} {v : Int32} (hs : mSp[i]? = some (0, n, fs)) (hk : k < n) (hn : n ≤ 1000) : mStI 0 (con M) i (nI k) v = some (con (mput M i k v)) := by
  unfold mStI
  rw [con_get hs]
  show cond (Nat.beq 0 0 && !mOut (nI k) n) (some ((con M).set i (.inl (0, n, .inl (upd (M i) (nI k).toNatClampNeg v))))) none = _
  rw [jI_out hk hn, jI_nat (by omega)]
  show some ((con M).set i _) = _
  rw [con_set (M' := mput M i k v) hs (by rw [upd_mput]; rfl) fun j hj => by funext c; simp [mput, hj]]
theorem sB {k : Nat} {v : Int32} (hs : mSp[i]? = some (1, n, fs)) (hk : k < n) (hn : n ≤ 1000) : mStI 1 (con M) i (nI k) v = some (con (mput M i k v.toInt8.toInt32)) := by
  unfold mStI
  rw [con_get hs]
  show cond (Nat.beq 1 1 && !mOut (nI k) n) (some ((con M).set i (.inl (1, n, .inl (upd (M i) (nI k).toNatClampNeg v.toInt8.toInt32))))) none = _
  rw [jI_out hk hn, jI_nat (by omega)]
  show some ((con M).set i _) = _
  rw [con_set (M' := mput M i k v.toInt8.toInt32) hs (by rw [upd_mput]; rfl) fun j hj => by funext c; simp [mput, hj]]
theorem gLen (t : Nat) (ht : Nat.ble t 4 = true) (hs : mSp[i]? = some (t, n, fs)) : mLen X (con M) i = some (nI n) := by
  unfold mLen
  rw [con_get hs]
  have h := Nat.le_of_ble_eq_true ht
  rcases (by omega : t = 0 ∨ t = 1 ∨ t = 2 ∨ t = 3 ∨ t = 4) with rfl | rfl | rfl | rfl | rfl <;> rfl
theorem lK {k : Nat} (hk : k < 7) : mLd X 0 (con M) 1000100 (nI k) = some (.int (mKA k)) := by
  unfold mLd
  rw [con_none (by decide)]
  show (match mRo X 1000100 with
    | some (n, f) => cond (!mOut (nI k) n) (some (Value.int (f (nI k).toNatClampNeg))) none
    | none => none) = _
  have : mRo X 1000100 = some (7, mKA) := rfl
  rw [this]
  dsimp only
  rw [jI_out hk (by omega), jI_nat (by omega)]
  rfl
theorem lX {k : Nat} (hk : k < X.1) (hX : X.1 ≤ 3072) : mLd X 0 (con M) 1000200 (nI k) = some (.int (X.2 k)) := by
  unfold mLd
  rw [con_none (by decide)]
  show (match mRo X 1000200 with
    | some (n, f) => cond (!mOut (nI k) n) (some (Value.int (f (nI k).toNatClampNeg))) none
    | none => none) = _
  have : mRo X 1000200 = some X := rfl
  rw [this]
  obtain ⟨xn, xf⟩ := X
  dsimp only at hk hX ⊢
  have ho : mOut (nI k) xn = false := by
    unfold mOut
    rw [jI_nat (by omega), decide_eq_false_iff_not]
    rintro (h | h)
    · exact jI_nn (by omega) h
    · omega
  rw [ho, jI_nat (by omega)]
  rfl
theorem lenX : mLen X (con M) 1000200 = some (nI X.1) := by
  unfold mLen
  rw [con_none (by decide)]
  rfl
theorem jI_add (a b : Nat) : nI a + nI b = nI (a + b) := (Int32.ofNat_add a b).symm
theorem jI_mul (a b : Nat) : nI a * nI b = nI (a * b) := (Int32.ofNat_mul a b).symm
theorem jI_lt {a b : Nat} (ha : a < 2147483648) (hb : b < 2147483648) : nI a < nI b ↔ a < b := by
  rw [Int32.lt_iff_toInt_lt, jI_int ha, jI_int hb]
  omega
theorem jI_le {a b : Nat} (ha : a < 2147483648) (hb : b < 2147483648) : nI a ≤ nI b ↔ a ≤ b := by
  rw [Int32.le_iff_toInt_le, jI_int ha, jI_int hb]
  omega
theorem jI_inj {a b : Nat} (ha : a < 2147483648) (hb : b < 2147483648) (h : nI a = nI b) : a = b := by
  have := congrArg Int32.toInt h
  rw [jI_int ha, jI_int hb] at this
  omega
/-- what lies in bounds is such a number -/
theorem jI_of {v : Int32} (h : ¬ v < 0) : ∃ k : Nat, k < 2147483648 ∧ v = nI k := by
  have h0 : (0 : Int) ≤ v.toInt := by
    have := Int32.not_lt.mp h
    simpa using Int32.le_iff_toInt_le.mp this
  refine ⟨v.toInt.toNat, ?_, ?_⟩
  · have := v.toInt_lt
    omega
  · apply Int32.toInt_inj.mp
    have := v.toInt_lt
    rw [jI_int (by omega)]
    omega
end CON
/-! ===== what always holds of the numbers; contracts of methods that write ===== -/
def kd (a b : Nat) : Nat := if a = 67 ∨ a = 68 ∨ a = 69 then (if b = 1 ∨ b = 2 then 1 else if 4 ≤ b ∧ b ≤ 13 then 2 else if 14 ≤ b ∧ b < 62 then (if (b - 14) % 6 = 0 then 3 else if (b - 14) % 6 = 4 ∨ (b - 14) % 6 = 5 then 2 else 0) else 0)
  else if a = 1 ∨ a = 18 ∨ a = 35 then (if b = 3 ∨ b = 4 then 1 else 0)
  else if a = 3 ∨ a = 20 ∨ a = 37 then 3
  else if a = 7 ∨ a = 24 ∨ a = 41 ∨ a = 8 ∨ a = 25 ∨ a = 42 ∨ a = 17 ∨ a = 34 ∨ a = 51 then 2
  else if a = 52 then (if b = 1 then 4 else 0)
  else if a = 58 ∨ a = 60 ∨ a = 62 ∨ a = 64 then (if b = 2 then 5 else 0)
  else if a = 66 then (if b = 9 then 4 else 0)
  else if a = 77 then 5 else 0
def okx (k : Nat) (v : Int32) : Prop := match k with
  | 0 => True
  | 1 => 0 ≤ v.toInt ∧ v.toInt ≤ 8
  | 2 => -1 ≤ v.toInt ∧ v.toInt ≤ 7
  | 3 => 0 ≤ v.toInt ∧ v.toInt ≤ 3
  | 4 => 0 ≤ v.toInt ∧ v.toInt ≤ 120
  | _ => 0 ≤ v.toInt ∧ v.toInt ≤ 40
def Wf (M : mM) : Prop := ∀ a b, okx (kd a b) (M a b)
theorem Wf.put {M : mM} {a b : Nat} {v : Int32} (h : Wf M) (hv : okx (kd a b) v) : Wf (mput M a b v) := by
  intro i j
  unfold mput
  split
  · rename_i e
    rw [e.1, e.2]
    exact hv
  · exact h i j
theorem jI_of2 {v : Int32} {n : Nat} (h : 0 ≤ v.toInt ∧ v.toInt ≤ (n : Int)) : ∃ k, k ≤ n ∧ v = nI k := by
  refine ⟨v.toInt.toNat, by omega, ?_⟩
  apply Int32.toInt_inj.mp
  have := v.toInt_lt
  rw [jI_int (by omega)]
  omega
theorem ok1 {v : Int32} (h : okx 1 v) : ∃ k, k ≤ 8 ∧ v = nI k := jI_of2 (n := 8) h
theorem ok3 {v : Int32} (h : okx 3 v) : ∃ k, k ≤ 3 ∧ v = nI k := jI_of2 (n := 3) h
theorem ok4 {v : Int32} (h : okx 4 v) : ∃ k, k ≤ 120 ∧ v = nI k := jI_of2 (n := 120) h
theorem ok5 {v : Int32} (h : okx 5 v) : ∃ k, k ≤ 40 ∧ v = nI k := jI_of2 (n := 40) h
theorem ok2 {v : Int32} (h : okx 2 v) : v = -1 ∨ ∃ k, k ≤ 7 ∧ v = nI k := by
  have h1 : -1 ≤ v.toInt ∧ v.toInt ≤ 7 := h
  by_cases h0 : v.toInt = -1
  · exact Or.inl (Int32.toInt_inj.mp (by rw [h0]; rfl))
  · exact Or.inr (jI_of2 (n := 7) (by omega))
theorem okI1 {k : Nat} (h : k ≤ 8) : okx 1 (nI k) := by
  show 0 ≤ (nI k).toInt ∧ (nI k).toInt ≤ 8
  rw [jI_int (by omega)]
  omega
theorem okI2 {k : Nat} (h : k ≤ 7) : okx 2 (nI k) := by
  show -1 ≤ (nI k).toInt ∧ (nI k).toInt ≤ 7
  rw [jI_int (by omega)]
  omega
theorem okI3 {k : Nat} (h : k ≤ 3) : okx 3 (nI k) := by
  show 0 ≤ (nI k).toInt ∧ (nI k).toInt ≤ 3
  rw [jI_int (by omega)]
  omega
theorem okI4 {k : Nat} (h : k ≤ 120) : okx 4 (nI k) := by
  show 0 ≤ (nI k).toInt ∧ (nI k).toInt ≤ 120
  rw [jI_int (by omega)]
  omega
theorem okI5 {k : Nat} (h : k ≤ 40) : okx 5 (nI k) := by
  show 0 ≤ (nI k).toInt ∧ (nI k).toInt ≤ 40
  rw [jI_int (by omega)]
  omega
theorem okM1 : okx 2 (-1) := by
  show -1 ≤ (-1 : Int32).toInt ∧ (-1 : Int32).toInt ≤ 7
  decide
section CTR
variable {X : mSc} {Q : Option Value → mHp → Prop} {mid pc : Nat} {L : mLoc} {st : List Value} {M : mM} {row : mRow} {as : List Value}
def QE (M : mM) (R : Int32 → Prop) : Option Value → mHp → Prop := fun r D => ∃ v, r = some (.int v) ∧ D = con M ∧ R v
def QI (P : Int32 → mM → Prop) : Option Value → mHp → Prop := fun r D => ∃ v M', r = some (.int v) ∧ D = con M' ∧ P v M'
def QV (P : mM → Prop) : Option Value → mHp → Prop := fun r D => ∃ M', r = none ∧ D = con M' ∧ P M'
theorem te_of {R : Int32 → Prop} (hm : mMet mid = some row) (hb : as.length ≤ row.2.2.2.1) (h : mEv X (QE M R) mid 0 (mEnv row.2.2.2.1 as) [] (con M)) : ∃ v, mT X mid as (con M) (some (.int v)) (con M) ∧ R v := by
  obtain ⟨n, r1, D1, h1, v, rfl, rfl, hr⟩ := h
  exact ⟨v, ⟨row, n, hm, hb, h1⟩, hr⟩
theorem ti_of {P : Int32 → mM → Prop} (hm : mMet mid = some row) (hb : as.length ≤ row.2.2.2.1) (h : mEv X (QI P) mid 0 (mEnv row.2.2.2.1 as) [] (con M)) : ∃ v M', mT X mid as (con M) (some (.int v)) (con M') ∧ P v M' := by
  obtain ⟨n, r1, D1, h1, v, M', rfl, rfl, hr⟩ := h
  exact ⟨v, M', ⟨row, n, hm, hb, h1⟩, hr⟩
theorem tv_of {P : mM → Prop} (hm : mMet mid = some row) (hb : as.length ≤ row.2.2.2.1) (h : mEv X (QV P) mid 0 (mEnv row.2.2.2.1 as) [] (con M)) : ∃ M', mT X mid as (con M) none (con M') ∧ P M' := by
  obtain ⟨n, r1, D1, h1, M', rfl, rfl, hr⟩ := h
  exact ⟨M', ⟨row, n, hm, hb, h1⟩, hr⟩
theorem x_cSe {idx len j kd a b : Nat} {z : Int} {as r : List Value} {R : Int32 → Prop} (hm : mMet mid = some row) (hf : mFetch mid pc = some (.invokestatic idx, len, j, kd, a, b, z)) (hs : mCall (.invokestatic idx, len, j, kd, a, b, z) false pc L st (con M) = some (.inr (.inr (a, as, r)))) (hc : ∃ v, mT X a as (con M) (some (.int v)) (con M) ∧ R v) (k : ∀ v, R v → mEv X Q mid (pc + 3) L (.int v :: r) (con M)) : mEv X Q mid pc L st (con M) := by
  obtain ⟨v, h1, h2⟩ := hc
  exact x_callS hm hf hs h1 (k v h2)
theorem x_cSi {idx len j kd a b : Nat} {z : Int} {as r : List Value} {P : Int32 → mM → Prop} (hm : mMet mid = some row) (hf : mFetch mid pc = some (.invokestatic idx, len, j, kd, a, b, z)) (hs : mCall (.invokestatic idx, len, j, kd, a, b, z) false pc L st (con M) = some (.inr (.inr (a, as, r)))) (hc : ∃ v M', mT X a as (con M) (some (.int v)) (con M') ∧ P v M') (k : ∀ v M', P v M' → mEv X Q mid (pc + 3) L (.int v :: r) (con M')) : mEv X Q mid pc L st (con M) := by
  obtain ⟨v, M', h1, h2⟩ := hc
  exact x_callS hm hf hs h1 (k v M' h2)
theorem x_cSv {idx len j kd a b : Nat} {z : Int} {as r : List Value} {P : mM → Prop} (hm : mMet mid = some row) (hf : mFetch mid pc = some (.invokestatic idx, len, j, kd, a, b, z)) (hs : mCall (.invokestatic idx, len, j, kd, a, b, z) false pc L st (con M) = some (.inr (.inr (a, as, r)))) (hc : ∃ M', mT X a as (con M) none (con M') ∧ P M') (k : ∀ M', P M' → mEv X Q mid (pc + 3) L r (con M')) : mEv X Q mid pc L st (con M) := by
  obtain ⟨M', h1, h2⟩ := hc
  exact x_callS hm hf hs h1 (k M' h2)
theorem x_cVe {idx len j kd a b : Nat} {z : Int} {as r : List Value} {R : Int32 → Prop} (hm : mMet mid = some row) (hf : mFetch mid pc = some (.invokevirtual idx, len, j, kd, a, b, z)) (hs : mCall (.invokevirtual idx, len, j, kd, a, b, z) true pc L st (con M) = some (.inr (.inr (a, as, r)))) (hc : ∃ v, mT X a as (con M) (some (.int v)) (con M) ∧ R v) (k : ∀ v, R v → mEv X Q mid (pc + 3) L (.int v :: r) (con M)) : mEv X Q mid pc L st (con M) := by
  obtain ⟨v, h1, h2⟩ := hc
  exact x_callV hm hf hs h1 (k v h2)
theorem x_cVi {idx len j kd a b : Nat} {z : Int} {as r : List Value} {P : Int32 → mM → Prop} (hm : mMet mid = some row) (hf : mFetch mid pc = some (.invokevirtual idx, len, j, kd, a, b, z)) (hs : mCall (.invokevirtual idx, len, j, kd, a, b, z) true pc L st (con M) = some (.inr (.inr (a, as, r)))) (hc : ∃ v M', mT X a as (con M) (some (.int v)) (con M') ∧ P v M') (k : ∀ v M', P v M' → mEv X Q mid (pc + 3) L (.int v :: r) (con M')) : mEv X Q mid pc L st (con M) := by
  obtain ⟨v, M', h1, h2⟩ := hc
  exact x_callV hm hf hs h1 (k v M' h2)
theorem x_cVv {idx len j kd a b : Nat} {z : Int} {as r : List Value} {P : mM → Prop} (hm : mMet mid = some row) (hf : mFetch mid pc = some (.invokevirtual idx, len, j, kd, a, b, z)) (hs : mCall (.invokevirtual idx, len, j, kd, a, b, z) true pc L st (con M) = some (.inr (.inr (a, as, r)))) (hc : ∃ M', mT X a as (con M) none (con M') ∧ P M') (k : ∀ M', P M' → mEv X Q mid (pc + 3) L r (con M')) : mEv X Q mid pc L st (con M) := by
  obtain ⟨M', h1, h2⟩ := hc
  exact x_callV hm hf hs h1 (k M' h2)
theorem x_cIe {idx len j kd a b : Nat} {z : Int} {as r : List Value} {R : Int32 → Prop} (hm : mMet mid = some row) (hf : mFetch mid pc = some (.invokespecial idx, len, j, kd, a, b, z)) (hs : mCall (.invokespecial idx, len, j, kd, a, b, z) true pc L st (con M) = some (.inr (.inr (a, as, r)))) (hc : ∃ v, mT X a as (con M) (some (.int v)) (con M) ∧ R v) (k : ∀ v, R v → mEv X Q mid (pc + 3) L (.int v :: r) (con M)) : mEv X Q mid pc L st (con M) := by
  obtain ⟨v, h1, h2⟩ := hc
  exact x_callI hm hf hs h1 (k v h2)
theorem x_cIi {idx len j kd a b : Nat} {z : Int} {as r : List Value} {P : Int32 → mM → Prop} (hm : mMet mid = some row) (hf : mFetch mid pc = some (.invokespecial idx, len, j, kd, a, b, z)) (hs : mCall (.invokespecial idx, len, j, kd, a, b, z) true pc L st (con M) = some (.inr (.inr (a, as, r)))) (hc : ∃ v M', mT X a as (con M) (some (.int v)) (con M') ∧ P v M') (k : ∀ v M', P v M' → mEv X Q mid (pc + 3) L (.int v :: r) (con M')) : mEv X Q mid pc L st (con M) := by
  obtain ⟨v, M', h1, h2⟩ := hc
  exact x_callI hm hf hs h1 (k v M' h2)
theorem x_cIv {idx len j kd a b : Nat} {z : Int} {as r : List Value} {P : mM → Prop} (hm : mMet mid = some row) (hf : mFetch mid pc = some (.invokespecial idx, len, j, kd, a, b, z)) (hs : mCall (.invokespecial idx, len, j, kd, a, b, z) true pc L st (con M) = some (.inr (.inr (a, as, r)))) (hc : ∃ M', mT X a as (con M) none (con M') ∧ P M') (k : ∀ M', P M' → mEv X Q mid (pc + 3) L r (con M')) : mEv X Q mid pc L st (con M) := by
  obtain ⟨M', h1, h2⟩ := hc
  exact x_callI hm hf hs h1 (k M' h2)
end CTR
end
section
/-! ===== the small methods ===== -/
/-- a truth value as the machine has it -/
def bI (c : Prop) [Decidable c] : Int32 := if c then nI 1 else nI 0
theorem bI_t {c : Prop} [Decidable c] (h : c) : nI 1 = bI c := (if_pos h).symm
theorem bI_f {c : Prop} [Decidable c] (h : ¬ c) : nI 0 = bI c := (if_neg h).symm
theorem qt {a b : Value} {D : mHp} (h : a = b) : (some a = some b ∧ D = D) := ⟨by rw [h], rfl⟩
theorem bI_eq0 {c : Prop} [Decidable c] : bI c = 0 ↔ ¬ c := by
  unfold bI
  by_cases h : c <;> simp [h, nI] <;> decide
theorem bI_nar {c : Prop} [Decidable c] : narrow .boolean (.int (bI c)) = .int (bI c) := by
  unfold bI
  by_cases h : c
  · rw [if_pos h]; rfl
  · rw [if_neg h]; rfl
theorem bI_iff {c d : Prop} [Decidable c] [Decidable d] (h : c ↔ d) : bI c = bI d := by
  unfold bI
  by_cases hc : c
  · rw [if_pos hc, if_pos (h.mp hc)]
  · rw [if_neg hc, if_neg fun x => hc (h.mpr x)]

section SM
variable {X : mSc} {M : mM}
theorem t6 {v a b : Int32} : mT X 6 [.int v, .int a, .int b] (con M) (some (.int (bI (a ≤ v ∧ v ≤ b)))) (con M) := by
  refine mT.of (row := _) rfl (Nat.le_of_ble_eq_true rfl) ?_
  have hm : mMet 6 = some _ := rfl
  refine x_iload_n hm rfl rfl ?_
  refine x_iload_n hm rfl rfl ?_
  refine x_icmp_lt hm rfl (t := 14) rfl (fun h1 => ?_) (fun h1 => ?_)
  · refine x_iconst hm rfl (v := nI 0) (by decide) ?_
    refine x_iret hm rfl rfl (by first | rfl | exact bI_nar | decide) ?_
    exact qt (congrArg Value.int (by first | exact bI_t ⟨Int32.not_lt.mp h1, Int32.not_lt.mp h2⟩ | exact bI_f (fun h => Int32.not_lt.mpr h.1 h1) | exact bI_f (fun h => Int32.not_lt.mpr h.2 h2)))
  · refine x_iload_n hm rfl rfl ?_
    refine x_iload_n hm rfl rfl ?_
    refine x_icmp_gt hm rfl (t := 14) rfl (fun h2 => ?_) (fun h2 => ?_)
    · refine x_iconst hm rfl (v := nI 0) (by decide) ?_
      refine x_iret hm rfl rfl (by first | rfl | exact bI_nar | decide) ?_
      exact qt (congrArg Value.int (by first | exact bI_t ⟨Int32.not_lt.mp h1, Int32.not_lt.mp h2⟩ | exact bI_f (fun h => Int32.not_lt.mpr h.1 h1) | exact bI_f (fun h => Int32.not_lt.mpr h.2 h2)))
    · refine x_iconst hm rfl (v := nI 1) (by decide) ?_
      refine x_goto hm rfl (t := 15) rfl ?_
      refine x_iret hm rfl rfl (by first | rfl | exact bI_nar | decide) ?_
      exact qt (congrArg Value.int (by first | exact bI_t ⟨Int32.not_lt.mp h1, Int32.not_lt.mp h2⟩ | exact bI_f (fun h => Int32.not_lt.mpr h.1 h1) | exact bI_f (fun h => Int32.not_lt.mpr h.2 h2)))
theorem t133 {v a b : Int32} : mT X 133 [.int v, .int a, .int b] (con M) (some (.int (bI (a ≤ v ∧ v ≤ b)))) (con M) := by
  refine mT.of (row := _) rfl (Nat.le_of_ble_eq_true rfl) ?_
  have hm : mMet 133 = some _ := rfl
  refine x_iload_n hm rfl rfl ?_
  refine x_iload_n hm rfl rfl ?_
  refine x_icmp_lt hm rfl (t := 14) rfl (fun h1 => ?_) (fun h1 => ?_)
  · refine x_iconst hm rfl (v := nI 0) (by decide) ?_
    refine x_iret hm rfl rfl (by first | rfl | exact bI_nar | decide) ?_
    exact qt (congrArg Value.int (by first | exact bI_t ⟨Int32.not_lt.mp h1, Int32.not_lt.mp h2⟩ | exact bI_f (fun h => Int32.not_lt.mpr h.1 h1) | exact bI_f (fun h => Int32.not_lt.mpr h.2 h2)))
  · refine x_iload_n hm rfl rfl ?_
    refine x_iload_n hm rfl rfl ?_
    refine x_icmp_gt hm rfl (t := 14) rfl (fun h2 => ?_) (fun h2 => ?_)
    · refine x_iconst hm rfl (v := nI 0) (by decide) ?_
      refine x_iret hm rfl rfl (by first | rfl | exact bI_nar | decide) ?_
      exact qt (congrArg Value.int (by first | exact bI_t ⟨Int32.not_lt.mp h1, Int32.not_lt.mp h2⟩ | exact bI_f (fun h => Int32.not_lt.mpr h.1 h1) | exact bI_f (fun h => Int32.not_lt.mpr h.2 h2)))
    · refine x_iconst hm rfl (v := nI 1) (by decide) ?_
      refine x_goto hm rfl (t := 15) rfl ?_
      refine x_iret hm rfl rfl (by first | rfl | exact bI_nar | decide) ?_
      exact qt (congrArg Value.int (by first | exact bI_t ⟨Int32.not_lt.mp h1, Int32.not_lt.mp h2⟩ | exact bI_f (fun h => Int32.not_lt.mpr h.1 h1) | exact bI_f (fun h => Int32.not_lt.mpr h.2 h2)))
theorem t137 {t f : Nat} : mT X 137 [.int (nI t), .int (nI f)] (con M) (some (.int (nI (14 + 6 * t + f)))) (con M) := by
  refine mT.of (row := _) rfl (Nat.le_of_ble_eq_true rfl) ?_
  have hm : mMet 137 = some _ := rfl
  refine x_bipush hm rfl (v := nI 14) (by decide) ?_
  refine x_bipush hm rfl (v := nI 6) (by decide) ?_
  refine x_iload_n hm rfl rfl ?_
  refine x_imul hm rfl ?_
  refine x_iadd hm rfl ?_
  refine x_iload_n hm rfl rfl ?_
  refine x_iadd hm rfl ?_
  refine x_iret hm rfl rfl (by first | rfl | exact bI_nar | decide) ?_
  exact qt (by rw [jI_mul, jI_add, jI_add])
theorem t142 {t f : Nat} : mT X 142 [.int (nI t), .int (nI f)] (con M) (some (.int (nI (62 + 7 * t + f)))) (con M) := by
  refine mT.of (row := _) rfl (Nat.le_of_ble_eq_true rfl) ?_
  have hm : mMet 142 = some _ := rfl
  refine x_bipush hm rfl (v := nI 62) (by decide) ?_
  refine x_bipush hm rfl (v := nI 7) (by decide) ?_
  refine x_iload_n hm rfl rfl ?_
  refine x_imul hm rfl ?_
  refine x_iadd hm rfl ?_
  refine x_iload_n hm rfl rfl ?_
  refine x_iadd hm rfl ?_
  refine x_iret hm rfl rfl (by first | rfl | exact bI_nar | decide) ?_
  exact qt (by rw [jI_mul, jI_add, jI_add])
theorem t143 {t f : Nat} (ht : t < 8) (hf : f < 6) : mT X 143 [.ref 66, .int (nI t), .int (nI f)] (con M) (some (.int (M 67 (14 + 6 * t + f)))) (con M) := by
  refine mT.of (row := _) rfl (Nat.le_of_ble_eq_true rfl) ?_
  have hm : mMet 143 = some _ := rfl
  refine x_aload_n hm rfl rfl ?_
  refine x_getf hm rfl (gR rfl rfl) ?_
  refine x_iload_n hm rfl rfl ?_
  refine x_iload_n hm rfl rfl ?_
  refine x_callS hm rfl rfl (t137) ?_
  refine x_iald hm rfl (lI rfl (by omega) (by decide)) ?_
  refine x_iret hm rfl rfl (by first | rfl | exact bI_nar | decide) ?_
  exact qt rfl
theorem t141 {t f : Nat} (ht : t < 8) (hf : f < 7) : mT X 141 [.ref 66, .int (nI t), .int (nI f)] (con M) (some (.int (M 67 (62 + 7 * t + f)))) (con M) := by
  refine mT.of (row := _) rfl (Nat.le_of_ble_eq_true rfl) ?_
  have hm : mMet 141 = some _ := rfl
  refine x_aload_n hm rfl rfl ?_
  refine x_getf hm rfl (gR rfl rfl) ?_
  refine x_iload_n hm rfl rfl ?_
  refine x_iload_n hm rfl rfl ?_
  refine x_callS hm rfl rfl (t142) ?_
  refine x_iald hm rfl (lI rfl (by omega) (by decide)) ?_
  refine x_iret hm rfl rfl (by first | rfl | exact bI_nar | decide) ?_
  exact qt rfl
end SM
end
section
/-! ===== the reference: what only reads ===== -/
abbrev FD (v : Int32) : Prop := v = -1000001 ∨ v = -1000002 ∨ v = -1000003 ∨ v = -1000004 ∨ v = -1000005 ∨ v = -1000006 ∨ v = -1000007
theorem FD_k {v : Int32} (h : FD v) : ∃ k, k ≤ 7 ∧ (-1000001 : Int32) - v + nI 1 = nI k := by
  rcases h with rfl | rfl | rfl | rfl | rfl | rfl | rfl
  · exact ⟨1, by omega, by decide⟩
  · exact ⟨2, by omega, by decide⟩
  · exact ⟨3, by omega, by decide⟩
  · exact ⟨4, by omega, by decide⟩
  · exact ⟨5, by omega, by decide⟩
  · exact ⟨6, by omega, by decide⟩
  · exact ⟨7, by omega, by decide⟩
/-- a number below another that is one of the small ones -/
theorem in_k {v w : Int32} {n : Nat} (hw : w = nI n) (hn : n ≤ 1000) (h : nI 0 ≤ v ∧ v ≤ w - nI 1) : ∃ k, k < n ∧ v = nI k := by
  obtain ⟨k, hk, rfl⟩ := jI_of (v := v) (by
    have h0 : (nI 0 : Int32) = 0 := rfl
    rw [← h0]
    exact Int32.not_lt.mpr h.1)
  refine ⟨k, ?_, rfl⟩
  have h2 := h.2
  subst hw
  cases n with
  | zero =>
    have e : nI 0 - nI 1 = -1 := by decide
    rw [e, Int32.le_iff_toInt_le, jI_int hk] at h2
    have e2 : (-1 : Int32).toInt = -1 := by decide
    omega
  | succ m =>
    have e : nI (m + 1) - nI 1 = nI m := by
      rw [← jI_add m 1]
      exact Int32.add_sub_cancel _ _
    rw [e, jI_le hk (by omega)] at h2
    omega
theorem le_k {v : Int32} {n : Nat} (hn : n ≤ 999) (h : nI 0 ≤ v ∧ v ≤ nI n) : ∃ k, k ≤ n ∧ v = nI k := by
  have h0 : nI n = nI (n + 1) - nI 1 := by
    rw [← jI_add n 1]
    exact (Int32.add_sub_cancel _ _).symm
  rw [h0] at h
  obtain ⟨k, hk, e⟩ := in_k (n := n + 1) rfl (by omega) h
  exact ⟨k, by omega, e⟩
theorem bI_ne0 {c : Prop} [Decidable c] (h : ¬ bI c = 0) : c := Classical.byContradiction fun hc => h (bI_eq0.mpr hc)
theorem bI_01 {c : Prop} [Decidable c] : bI c = nI 0 ∨ bI c = nI 1 := by
  unfold bI
  by_cases h : c
  · rw [if_pos h]; exact Or.inr rfl
  · rw [if_neg h]; exact Or.inl rfl
theorem kd_t : ∀ t, t < 8 → ∀ f, f < 6 → kd 67 (14 + 6 * t + f) = if f = 0 then 3 else if f = 4 ∨ f = 5 then 2 else 0 := by decide
theorem Wf.sort {M : mM} (h : Wf M) {t : Nat} (ht : t < 8) : ∃ k, k ≤ 3 ∧ M 67 (14 + 6 * t + 0) = nI k := by
  have := h 67 (14 + 6 * t + 0)
  rw [kd_t t ht 0 (by decide)] at this
  exact ok3 this
theorem Wf.owner {M : mM} (h : Wf M) {t : Nat} (ht : t < 8) : okx 2 (M 67 (14 + 6 * t + 4)) := by
  have := h 67 (14 + 6 * t + 4)
  rwa [kd_t t ht 4 (by decide)] at this
theorem Wf.on {M : mM} (h : Wf M) {t : Nat} (ht : t < 8) : okx 2 (M 67 (14 + 6 * t + 5)) := by
  have := h 67 (14 + 6 * t + 5)
  rwa [kd_t t ht 5 (by decide)] at this
theorem Wf.nt {M : mM} (h : Wf M) : ∃ n, n ≤ 8 ∧ M 67 1 = nI n := ok1 (h 67 1)
theorem Wf.np {M : mM} (h : Wf M) : ∃ n, n ≤ 8 ∧ M 67 2 = nI n := ok1 (h 67 2)
def ab (k : Int32) : Int32 := if k = 0 then -1 else if k = nI 3 then nI 2 else if k = nI 4 then nI 3 else if k = nI 6 then nI 1 else nI 0
def rkU (k : Int32) : Nat := if k < 0 then 0 else if k = 0 then 1 else if k = nI 3 then 3 else if k = nI 4 then 4 else if k = nI 6 then 3 else 2
theorem ab_rk {k : Int32} (h : ¬ k < 0) : rkU (ab k) < rkU k := by
  unfold ab
  by_cases h0 : k = 0
  · subst h0; decide
  · rw [if_neg h0]
    by_cases h3 : k = nI 3
    · subst h3; decide
    · rw [if_neg h3]
      by_cases h4 : k = nI 4
      · subst h4; decide
      · rw [if_neg h4]
        by_cases h6 : k = nI 6
        · subst h6; decide
        · rw [if_neg h6]
          unfold rkU
          rw [if_neg h, if_neg h0, if_neg h3, if_neg h4, if_neg h6]
          decide
theorem rkU_le (k : Int32) : rkU k ≤ 4 := by
  unfold rkU
  repeat' split
  all_goals omega

section RR
variable {X : mSc} {Q : Option Value → mHp → Prop} {M : mM}
theorem t134 {v : Int32} : mT X 134 [.int v] (con M) (some (.int (bI (nI 0 ≤ v ∧ v ≤ nI 15)))) (con M) := by
  refine mT.of (row := _) rfl (Nat.le_of_ble_eq_true rfl) ?_
  have hm : mMet 134 = some _ := rfl
  refine x_iload_n hm rfl rfl ?_
  refine x_iconst hm rfl (v := nI 0) (by decide) ?_
  refine x_bipush hm rfl (v := nI 15) (by decide) ?_
  refine x_callS hm rfl rfl (t133) ?_
  refine x_iret hm rfl rfl (by first | rfl | exact bI_nar | decide) ?_
  exact qt rfl
theorem t157 {v : Int32} : mT X 157 [.int v] (con M) (some (.int (bI (nI 0 ≤ v ∧ v ≤ nI 6)))) (con M) := by
  refine mT.of (row := _) rfl (Nat.le_of_ble_eq_true rfl) ?_
  have hm : mMet 157 = some _ := rfl
  refine x_iload_n hm rfl rfl ?_
  refine x_iconst hm rfl (v := nI 0) (by decide) ?_
  refine x_bipush hm rfl (v := nI 6) (by decide) ?_
  refine x_callS hm rfl rfl (t133) ?_
  refine x_iret hm rfl rfl (by first | rfl | exact bI_nar | decide) ?_
  exact qt rfl
theorem t151 {v : Int32} : mT X 151 [.int v] (con M) (some (.int (bI (nI 0 ≤ v ∧ v ≤ nI 999)))) (con M) := by
  refine mT.of (row := _) rfl (Nat.le_of_ble_eq_true rfl) ?_
  have hm : mMet 151 = some _ := rfl
  refine x_iload_n hm rfl rfl ?_
  refine x_iconst hm rfl (v := nI 0) (by decide) ?_
  refine x_sipush hm rfl (v := nI 999) (by decide) ?_
  refine x_callS hm rfl rfl (t133) ?_
  refine x_iret hm rfl rfl (by first | rfl | exact bI_nar | decide) ?_
  exact qt rfl
theorem t152 {v : Int32} : mT X 152 [.int v] (con M) (some (.int (bI (nI 0 ≤ v ∧ v ≤ nI 9)))) (con M) := by
  refine mT.of (row := _) rfl (Nat.le_of_ble_eq_true rfl) ?_
  have hm : mMet 152 = some _ := rfl
  refine x_iload_n hm rfl rfl ?_
  refine x_iconst hm rfl (v := nI 0) (by decide) ?_
  refine x_bipush hm rfl (v := nI 9) (by decide) ?_
  refine x_callS hm rfl rfl (t133) ?_
  refine x_iret hm rfl rfl (by first | rfl | exact bI_nar | decide) ?_
  exact qt rfl
theorem t232 {v : Int32} : mT X 232 [.int v] (con M) (some (.int (bI (nI 0 ≤ v ∧ v ≤ nI 9)))) (con M) := by
  refine mT.of (row := _) rfl (Nat.le_of_ble_eq_true rfl) ?_
  have hm : mMet 232 = some _ := rfl
  refine x_iload_n hm rfl rfl ?_
  refine x_iconst hm rfl (v := nI 0) (by decide) ?_
  refine x_bipush hm rfl (v := nI 9) (by decide) ?_
  refine x_callS hm rfl rfl (t133) ?_
  refine x_iret hm rfl rfl (by first | rfl | exact bI_nar | decide) ?_
  exact qt rfl
theorem t210 {v : Int32} : mT X 210 [.int v] (con M) (some (.int (bI (nI 0 ≤ v ∧ v ≤ nI 3)))) (con M) := by
  refine mT.of (row := _) rfl (Nat.le_of_ble_eq_true rfl) ?_
  have hm : mMet 210 = some _ := rfl
  refine x_iload_n hm rfl rfl ?_
  refine x_iconst hm rfl (v := nI 0) (by decide) ?_
  refine x_iconst hm rfl (v := nI 3) (by decide) ?_
  refine x_callS hm rfl rfl (t133) ?_
  refine x_iret hm rfl rfl (by first | rfl | exact bI_nar | decide) ?_
  exact qt rfl
theorem t139 {v : Int32} : mT X 139 [.ref 66, .int v] (con M) (some (.int (bI (nI 0 ≤ v ∧ v ≤ M 67 1 - nI 1)))) (con M) := by
  refine mT.of (row := _) rfl (Nat.le_of_ble_eq_true rfl) ?_
  have hm : mMet 139 = some _ := rfl
  refine x_iload_n hm rfl rfl ?_
  refine x_iconst hm rfl (v := nI 0) (by decide) ?_
  refine x_aload_n hm rfl rfl ?_
  refine x_getf hm rfl (gR rfl rfl) ?_
  refine x_iconst hm rfl (v := nI 1) (by decide) ?_
  refine x_iald hm rfl (lI rfl (by omega) (by decide)) ?_
  refine x_iconst hm rfl (v := nI 1) (by decide) ?_
  refine x_isub hm rfl ?_
  refine x_callS hm rfl rfl (t133) ?_
  refine x_iret hm rfl rfl (by first | rfl | exact bI_nar | decide) ?_
  exact qt rfl
theorem t153 {v : Int32} : mT X 153 [.ref 66, .int v] (con M) (some (.int (bI (nI 0 ≤ v ∧ v ≤ M 67 2 - nI 1)))) (con M) := by
  refine mT.of (row := _) rfl (Nat.le_of_ble_eq_true rfl) ?_
  have hm : mMet 153 = some _ := rfl
  refine x_iload_n hm rfl rfl ?_
  refine x_iconst hm rfl (v := nI 0) (by decide) ?_
  refine x_aload_n hm rfl rfl ?_
  refine x_getf hm rfl (gR rfl rfl) ?_
  refine x_iconst hm rfl (v := nI 2) (by decide) ?_
  refine x_iald hm rfl (lI rfl (by omega) (by decide)) ?_
  refine x_iconst hm rfl (v := nI 1) (by decide) ?_
  refine x_isub hm rfl ?_
  refine x_callS hm rfl rfl (t133) ?_
  refine x_iret hm rfl rfl (by first | rfl | exact bI_nar | decide) ?_
  exact qt rfl
theorem t146 {t : Nat} (ht : t < 8) : mT X 146 [.ref 66, .int (nI t)] (con M) (some (.int (bI (M 67 (14 + 6 * t + 2) = 0)))) (con M) := by
  refine mT.of (row := _) rfl (Nat.le_of_ble_eq_true rfl) ?_
  have hm : mMet 146 = some _ := rfl
  refine x_aload_n hm rfl rfl ?_
  refine x_iload_n hm rfl rfl ?_
  refine x_iconst hm rfl (v := nI 2) (by decide) ?_
  refine x_callV hm rfl rfl (t143 (by omega) (by omega)) ?_
  refine x_if_ne hm rfl (t := 13) rfl (fun h1 => ?_) (fun h1 => ?_)
  · refine x_iconst hm rfl (v := nI 0) (by decide) ?_
    refine x_iret hm rfl rfl (by first | rfl | exact bI_nar | decide) ?_
    exact qt (congrArg Value.int (by first | exact bI_t h1 | exact bI_f h1))
  · refine x_iconst hm rfl (v := nI 1) (by decide) ?_
    refine x_goto hm rfl (t := 14) rfl ?_
    refine x_iret hm rfl rfl (by first | rfl | exact bI_nar | decide) ?_
    exact qt (congrArg Value.int (by first | exact bI_t h1 | exact bI_f h1))
theorem t148 {k : Int32} : mT X 148 [.int k] (con M) (some (.int (ab k))) (con M) := by
  refine mT.of (row := _) rfl (Nat.le_of_ble_eq_true rfl) ?_
  have hm : mMet 148 = some _ := rfl
  refine x_iload_n hm rfl rfl ?_
  refine x_if_ne hm rfl (t := 8) rfl (fun h1 => ?_) (fun h1 => ?_)
  · refine x_iload_n hm rfl rfl ?_
    refine x_iconst hm rfl (v := nI 3) (by decide) ?_
    refine x_icmp_ne hm rfl (t := 17) rfl (fun h2 => ?_) (fun h2 => ?_)
    · refine x_iload_n hm rfl rfl ?_
      refine x_iconst hm rfl (v := nI 4) (by decide) ?_
      refine x_icmp_ne hm rfl (t := 26) rfl (fun h3 => ?_) (fun h3 => ?_)
      · refine x_iload_n hm rfl rfl ?_
        refine x_bipush hm rfl (v := nI 6) (by decide) ?_
        refine x_icmp_ne hm rfl (t := 36) rfl (fun h4 => ?_) (fun h4 => ?_)
        · refine x_iconst hm rfl (v := nI 0) (by decide) ?_
          refine x_iret hm rfl rfl (by first | rfl | exact bI_nar | decide) ?_
          exact qt (congrArg Value.int (by unfold ab; first | rw [if_pos h1] | (rw [if_neg h1]; first | rw [if_pos h2] | (rw [if_neg h2]; first | rw [if_pos h3] | (rw [if_neg h3]; first | rw [if_pos h4] | rw [if_neg h4])))))
        · refine x_iconst hm rfl (v := nI 1) (by decide) ?_
          refine x_goto hm rfl (t := 37) rfl ?_
          refine x_iret hm rfl rfl (by first | rfl | exact bI_nar | decide) ?_
          exact qt (congrArg Value.int (by unfold ab; first | rw [if_pos h1] | (rw [if_neg h1]; first | rw [if_pos h2] | (rw [if_neg h2]; first | rw [if_pos h3] | (rw [if_neg h3]; first | rw [if_pos h4] | rw [if_neg h4])))))
      · refine x_iconst hm rfl (v := nI 3) (by decide) ?_
        refine x_goto hm rfl (t := 37) rfl ?_
        refine x_iret hm rfl rfl (by first | rfl | exact bI_nar | decide) ?_
        exact qt (congrArg Value.int (by unfold ab; first | rw [if_pos h1] | (rw [if_neg h1]; first | rw [if_pos h2] | (rw [if_neg h2]; first | rw [if_pos h3] | (rw [if_neg h3]; first | rw [if_pos h4] | rw [if_neg h4])))))
    · refine x_iconst hm rfl (v := nI 2) (by decide) ?_
      refine x_goto hm rfl (t := 37) rfl ?_
      refine x_iret hm rfl rfl (by first | rfl | exact bI_nar | decide) ?_
      exact qt (congrArg Value.int (by unfold ab; first | rw [if_pos h1] | (rw [if_neg h1]; first | rw [if_pos h2] | (rw [if_neg h2]; first | rw [if_pos h3] | (rw [if_neg h3]; first | rw [if_pos h4] | rw [if_neg h4])))))
  · refine x_iconst hm rfl (v := (-1 : Int32)) (by decide) ?_
    refine x_goto hm rfl (t := 37) rfl ?_
    refine x_iret hm rfl rfl (by first | rfl | exact bI_nar | decide) ?_
    exact qt (congrArg Value.int (by unfold ab; first | rw [if_pos h1] | (rw [if_neg h1]; first | rw [if_pos h2] | (rw [if_neg h2]; first | rw [if_pos h3] | (rw [if_neg h3]; first | rw [if_pos h4] | rw [if_neg h4])))))
theorem l147 {o : Int32} (k0 : Int32) : ∀ (n : Nat) (k : Int32), rkU k < n → mEv X (QE M (fun v => v = nI 0 ∨ v = nI 1)) 147 2 [some (.int k0), some (.int o), some (.int k)] [] (con M) := by
  have hm : mMet 147 = some _ := rfl
  intro n
  induction n with
  | zero =>
    intro k hk
    omega
  | succ n ih =>
    intro k hk
    refine x_iload_n hm rfl rfl ?_
    refine x_if_lt hm rfl (t := 19) rfl (fun h1 => ?_) (fun h1 => ?_)
    · refine x_iload_n hm rfl rfl ?_
      refine x_if_lt hm rfl (t := 27) rfl (fun h2 => ?_) (fun h2 => ?_)
      · refine x_iconst hm rfl (v := nI 0) (by decide) ?_
        refine x_iret hm rfl rfl (by first | rfl | exact bI_nar | decide) ?_
        exact ⟨_, rfl, rfl, by first | exact Or.inl rfl | exact Or.inr rfl⟩
      · refine x_iconst hm rfl (v := nI 1) (by decide) ?_
        refine x_goto hm rfl (t := 28) rfl ?_
        refine x_iret hm rfl rfl (by first | rfl | exact bI_nar | decide) ?_
        exact ⟨_, rfl, rfl, by first | exact Or.inl rfl | exact Or.inr rfl⟩
    · refine x_iload_n hm rfl rfl ?_
      refine x_iload_n hm rfl rfl ?_
      refine x_icmp_eq hm rfl (t := 19) rfl (fun h3 => ?_) (fun h3 => ?_)
      · refine x_iload_n hm rfl rfl ?_
        refine x_if_lt hm rfl (t := 27) rfl (fun h4 => ?_) (fun h4 => ?_)
        · refine x_iconst hm rfl (v := nI 0) (by decide) ?_
          refine x_iret hm rfl rfl (by first | rfl | exact bI_nar | decide) ?_
          exact ⟨_, rfl, rfl, by first | exact Or.inl rfl | exact Or.inr rfl⟩
        · refine x_iconst hm rfl (v := nI 1) (by decide) ?_
          refine x_goto hm rfl (t := 28) rfl ?_
          refine x_iret hm rfl rfl (by first | rfl | exact bI_nar | decide) ?_
          exact ⟨_, rfl, rfl, by first | exact Or.inl rfl | exact Or.inr rfl⟩
      · refine x_iload_n hm rfl rfl ?_
        refine x_callS hm rfl rfl (t148) ?_
        refine x_istore_n hm rfl rfl ?_
        refine x_goto hm rfl (t := 2) rfl ?_
        exact ih _ (by have := ab_rk h1; omega)
theorem t147 {k o : Int32} : ∃ v, mT X 147 [.int k, .int o] (con M) (some (.int v)) (con M) ∧ (v = nI 0 ∨ v = nI 1) := by
  refine te_of (row := _) rfl (Nat.le_of_ble_eq_true rfl) ?_
  have hm : mMet 147 = some _ := rfl
  refine x_iload_n hm rfl rfl ?_
  refine x_istore_n hm rfl rfl ?_
  exact l147 _ 5 _ (by have := rkU_le k; omega)
/-- the reference's chains end -/
def Ac (r : Nat → Int32) : Prop := ∀ n, n ≤ 8 → r 1 = nI n → ∃ rk : Nat → Nat, ∀ t u, t < n → u ≤ 7 → r (14 + 6 * t + 5) = nI u → u < n ∧ rk u < rk t
def hr (r : Nat → Int32) (o : Nat) : Nat → Nat → Prop
  | 0, _ => False
  | f + 1, u => u = o ∨ ∃ w, w ≤ 7 ∧ r (14 + 6 * u + 5) = nI w ∧ hr r o f w
def Inv (M : mM) : Prop := Wf M ∧ Ac (M 67) ∧ Ac (M 68)
/-- a finding was counted, or nothing was -/
def Fnd (M M' : mM) : Prop := (Wf M → Wf M') ∧ ∀ a, a ≠ 70 → M' a = M a
theorem Wf.put0 {M : mM} {a b : Nat} {v : Int32} (h : Wf M) (hk : kd a b = 0) : Wf (mput M a b v) := h.put (by rw [hk]; trivial)
theorem kd70 (b : Nat) : kd 70 b = 0 := by simp [kd]
theorem kd71 (b : Nat) : kd 71 b = 0 := by simp [kd]
theorem kd72 (b : Nat) : kd 72 b = 0 := by simp [kd]
theorem kd73 (b : Nat) : kd 73 b = 0 := by simp [kd]
theorem kd75 (b : Nat) : kd 75 b = 0 := by simp [kd]
theorem kd76 (b : Nat) : kd 76 b = 0 := by simp [kd]
theorem kd78 (b : Nat) : kd 78 b = 0 := by simp [kd]
theorem kd79 (b : Nat) : kd 79 b = 0 := by simp [kd]
theorem kd66 {b : Nat} (h : b ≠ 9) : kd 66 b = 0 := by simp [kd, h]
theorem Fnd.rf : Fnd M M := ⟨fun h => h, fun _ _ => rfl⟩
theorem Fnd.inv {M M' : mM} (h : Fnd M M') (hI : Inv M) : Inv M' := ⟨h.1 hI.1, by rw [h.2 67 (by decide)]; exact hI.2.1, by rw [h.2 68 (by decide)]; exact hI.2.2⟩
theorem tsm1 {v : Int32} (h : ¬ v < 0) (ho : okx 2 v) : ∃ k, k ≤ 7 ∧ v = nI k := by
  rcases ok2 ho with rfl | h1
  · exact absurd (by decide) h
  · exact h1
theorem t145 {p t : Nat} {o : Int32} (hW : Wf M) (hp : p < 8) (ht : t < 8) (ho : okx 2 o) : ∃ v, mT X 145 [.ref 66, .int (nI p), .int (nI t), .int o] (con M) (some (.int v)) (con M) ∧ True := by
  refine te_of (row := _) rfl (Nat.le_of_ble_eq_true rfl) ?_
  have hm : mMet 145 = some _ := rfl
  obtain ⟨s, hs3, hs⟩ := hW.sort ht
  have J190 : ∀ (o1 v4 v5 v6 : Int32), mEv X (QE M (fun _ => True)) 145 190 [some (.ref 66), some (.int (nI p)), some (.int (nI t)), some (.int o1), some (.int v4), some (.int v5), some (.int v6)] [] (con M) := by
    intro o1 v4 v5 v6
    refine x_iconst hm rfl (v := nI 0) (by decide) ?_
    refine x_iload hm rfl rfl ?_
    refine x_lib hm rfl rfl ?_
    dsimp only
    refine x_iret hm rfl rfl (by first | rfl | exact bI_nar | decide) ?_
    exact ⟨_, rfl, rfl, trivial⟩
  have J73 : ∀ (o1 v4 v5 : Int32), mEv X (QE M (fun _ => True)) 145 73 [some (.ref 66), some (.int (nI p)), some (.int (nI t)), some (.int o1), some (.int v4), some (.int v5), none] [] (con M) := by
    intro o1 v4 v5
    refine x_aload_n hm rfl rfl ?_
    refine x_iload_n hm rfl rfl ?_
    refine x_iconst hm rfl (v := nI 0) (by decide) ?_
    refine x_callV hm rfl rfl (t141 (by omega) (by omega)) ?_
    refine x_ts hm rfl (fun h1 => ⟨186, rfl, ?_⟩) (fun i1 h1 g1 => ?_)
    · refine x_iload hm rfl rfl ?_
      refine x_istore hm rfl rfl ?_
      exact J190 _ _ _ _
    · have k1 : i1 = 0 ∨ i1 = 1 ∨ i1 = 2 ∨ i1 = 3 ∨ i1 = 4 ∨ i1 = 5 := by omega
      rcases k1 with rfl | rfl | rfl | rfl | rfl | rfl
      · refine ⟨_, 116, rfl, rfl, ?_⟩
        refine x_iload hm rfl rfl ?_
        refine x_iconst hm rfl (v := nI 2) (by decide) ?_
        refine x_idiv hm rfl (by decide) ?_
        refine x_istore hm rfl rfl ?_
        refine x_goto hm rfl (t := 190) rfl ?_
        exact J190 _ _ _ _
      · refine ⟨_, 142, rfl, rfl, ?_⟩
        refine x_iload hm rfl rfl ?_
        refine x_istore hm rfl rfl ?_
        refine x_goto hm rfl (t := 190) rfl ?_
        exact J190 _ _ _ _
      · refine ⟨_, 149, rfl, rfl, ?_⟩
        refine x_iload hm rfl rfl ?_
        refine x_iconst hm rfl (v := nI 3) (by decide) ?_
        refine x_isub hm rfl ?_
        refine x_istore hm rfl rfl ?_
        refine x_goto hm rfl (t := 190) rfl ?_
        exact J190 _ _ _ _
      · refine ⟨_, 158, rfl, rfl, ?_⟩
        refine x_iload hm rfl rfl ?_
        refine x_iconst hm rfl (v := nI 3) (by decide) ?_
        refine x_isub hm rfl ?_
        refine x_aload_n hm rfl rfl ?_
        refine x_iload_n hm rfl rfl ?_
        refine x_iconst hm rfl (v := nI 2) (by decide) ?_
        refine x_callV hm rfl rfl (t143 (by omega) (by omega)) ?_
        refine x_bipush hm rfl (v := nI 100) (by decide) ?_
        refine x_idiv hm rfl (by decide) ?_
        refine x_iadd hm rfl ?_
        refine x_istore hm rfl rfl ?_
        refine x_goto hm rfl (t := 190) rfl ?_
        exact J190 _ _ _ _
      · refine ⟨_, 177, rfl, rfl, ?_⟩
        refine x_iconst hm rfl (v := nI 2) (by decide) ?_
        refine x_iload hm rfl rfl ?_
        refine x_imul hm rfl ?_
        refine x_istore hm rfl rfl ?_
        refine x_goto hm rfl (t := 190) rfl ?_
        exact J190 _ _ _ _
      · refine ⟨_, 125, rfl, rfl, ?_⟩
        refine x_iload_n hm rfl rfl ?_
        refine x_if_ge hm rfl (t := 133) rfl (fun h2 => ?_) (fun h2 => ?_)
        · refine x_iload hm rfl rfl ?_
          refine x_iconst hm rfl (v := nI 2) (by decide) ?_
          refine x_idiv hm rfl (by decide) ?_
          refine x_istore hm rfl rfl ?_
          refine x_goto hm rfl (t := 190) rfl ?_
          exact J190 _ _ _ _
        · refine x_iconst hm rfl (v := nI 0) (by decide) ?_
          refine x_goto hm rfl (t := 137) rfl ?_
          refine x_istore hm rfl rfl ?_
          refine x_goto hm rfl (t := 190) rfl ?_
          exact J190 _ _ _ _
  refine x_iload_n hm rfl rfl ?_
  refine x_iload_n hm rfl rfl ?_
  refine x_icmp_eq hm rfl (t := 21) rfl (fun h3 => ?_) (fun h3 => ?_)
  · refine x_iconst hm rfl (v := nI 0) (by decide) ?_
    refine x_iret hm rfl rfl (by first | rfl | exact bI_nar | decide) ?_
    exact ⟨_, rfl, rfl, trivial⟩
  · refine x_aload_n hm rfl rfl ?_
    refine x_iload_n hm rfl rfl ?_
    refine x_callV hm rfl rfl (t146 (by omega)) ?_
    refine x_if_ne hm rfl (t := 21) rfl (fun h4 => ?_) (fun h4 => ?_)
    · refine x_iconst hm rfl (v := nI 0) (by decide) ?_
      refine x_iret hm rfl rfl (by first | rfl | exact bI_nar | decide) ?_
      exact ⟨_, rfl, rfl, trivial⟩
    · refine x_iload_n hm rfl rfl ?_
      refine x_aload_n hm rfl rfl ?_
      refine x_getf hm rfl (gI rfl rfl) ?_
      refine x_icmp_ne hm rfl (t := 23) rfl (fun h5 => ?_) (fun h5 => ?_)
      · refine x_aload_n hm rfl rfl ?_
        refine x_iload_n hm rfl rfl ?_
        refine x_iconst hm rfl (v := nI 3) (by decide) ?_
        refine x_aload_n hm rfl rfl ?_
        refine x_iload_n hm rfl rfl ?_
        refine x_iconst hm rfl (v := nI 0) (by decide) ?_
        refine x_callV hm rfl rfl (t143 (by omega) (by omega)) ?_
        rw [hs]
        refine x_iadd hm rfl ?_
        rw [jI_add]
        refine x_callV hm rfl rfl (t141 (by omega) (by omega)) ?_
        refine x_aload_n hm rfl rfl ?_
        refine x_iload_n hm rfl rfl ?_
        refine x_iconst hm rfl (v := nI 3) (by decide) ?_
        refine x_callV hm rfl rfl (t143 (by omega) (by omega)) ?_
        refine x_isub hm rfl ?_
        refine x_istore hm rfl rfl ?_
        refine x_iload_n hm rfl rfl ?_
        refine x_if_lt hm rfl (t := 69) rfl (fun h6 => ?_) (fun h6 => ?_)
        · refine x_iload hm rfl rfl ?_
          refine x_istore hm rfl rfl ?_
          exact J73 _ _ _
        · obtain ⟨k, hk, rfl⟩ := tsm1 h6 ho
          refine x_aload_n hm rfl rfl ?_
          refine x_iload_n hm rfl rfl ?_
          refine x_iconst hm rfl (v := nI 0) (by decide) ?_
          refine x_callV hm rfl rfl (t141 (by omega) (by omega)) ?_
          refine x_iconst hm rfl (v := nI 2) (by decide) ?_
          refine x_cSe hm rfl rfl (t147) (fun v7 r7 => ?_)
          refine x_if_eq hm rfl (t := 69) rfl (fun h8 => ?_) (fun h8 => ?_)
          · refine x_iload hm rfl rfl ?_
            refine x_istore hm rfl rfl ?_
            exact J73 _ _ _
          · refine x_iload hm rfl rfl ?_
            refine x_iconst hm rfl (v := nI 2) (by decide) ?_
            refine x_iadd hm rfl ?_
            refine x_goto hm rfl (t := 71) rfl ?_
            refine x_istore hm rfl rfl ?_
            exact J73 _ _ _
      · refine x_iconst hm rfl (v := nI 0) (by decide) ?_
        refine x_iret hm rfl rfl (by first | rfl | exact bI_nar | decide) ?_
        exact ⟨_, rfl, rfl, trivial⟩
theorem t144 {p t : Nat} (hW : Wf M) (hp : p < 8) (ht : t < 8) : ∃ v, mT X 144 [.ref 66, .int (nI p), .int (nI t)] (con M) (some (.int v)) (con M) ∧ True := by
  refine te_of (row := _) rfl (Nat.le_of_ble_eq_true rfl) ?_
  have hm : mMet 144 = some _ := rfl
  refine x_aload_n hm rfl rfl ?_
  refine x_iload_n hm rfl rfl ?_
  refine x_iload_n hm rfl rfl ?_
  refine x_aload_n hm rfl rfl ?_
  refine x_iload_n hm rfl rfl ?_
  refine x_iconst hm rfl (v := nI 4) (by decide) ?_
  refine x_callV hm rfl rfl (t143 (by omega) (by omega)) ?_
  refine x_cVe hm rfl rfl (t145 hW hp ht (hW.owner ht)) (fun v1 r1 => ?_)
  refine x_iret hm rfl rfl (by first | rfl | exact bI_nar | decide) ?_
  exact ⟨_, rfl, rfl, trivial⟩
theorem l140 {t np : Nat} (hW : Wf M) (hnp : M 67 2 = nI np) (h8 : np ≤ 8) (ht : t < 8) : ∀ (n p : Nat) (s : Int32), np - p < n → p ≤ np → mEv X (QE M (fun _ => True)) 140 4 [some (.ref 66), some (.int (nI t)), some (.int s), some (.int (nI p))] [] (con M) := by
  have hm : mMet 140 = some _ := rfl
  intro n
  induction n with
  | zero =>
    intro p s hp hpn
    omega
  | succ n ih =>
    intro p s hp hpn
    refine x_iload_n hm rfl rfl ?_
    refine x_aload_n hm rfl rfl ?_
    refine x_getf hm rfl (gR rfl rfl) ?_
    refine x_iconst hm rfl (v := nI 2) (by decide) ?_
    refine x_iald hm rfl (lI rfl (by omega) (by decide)) ?_
    rw [hnp]
    refine x_icmp_ge hm rfl (t := 48) rfl (fun h1 => ?_) (fun h1 => ?_)
    · refine x_iload_n hm rfl rfl ?_
      refine x_aload_n hm rfl rfl ?_
      refine x_iload_n hm rfl rfl ?_
      refine x_iconst hm rfl (v := nI 2) (by decide) ?_
      refine x_callV hm rfl rfl (t143 (by omega) (by omega)) ?_
      refine x_lib hm rfl rfl ?_
      dsimp only
      refine x_iret hm rfl rfl (by first | rfl | exact bI_nar | decide) ?_
      exact ⟨_, rfl, rfl, trivial⟩
    · have hlt : p < np := Nat.lt_of_not_le fun h => h1 (nI_le h (by omega))
      refine x_iload_n hm rfl rfl ?_
      refine x_aload_n hm rfl rfl ?_
      refine x_iload_n hm rfl rfl ?_
      refine x_iconst hm rfl (v := nI 1) (by decide) ?_
      refine x_callV hm rfl rfl (t141 (by omega) (by omega)) ?_
      refine x_aload_n hm rfl rfl ?_
      refine x_iload_n hm rfl rfl ?_
      refine x_iconst hm rfl (v := nI 1) (by decide) ?_
      refine x_callV hm rfl rfl (t143 (by omega) (by omega)) ?_
      refine x_icmp_ne hm rfl (t := 39) rfl (fun h2 => ?_) (fun h2 => ?_)
      · refine x_iconst hm rfl (v := nI 0) (by decide) ?_
        refine x_iadd hm rfl ?_
        refine x_istore_n hm rfl rfl ?_
        refine x_iinc hm rfl rfl (v := nI 1) (by decide) rfl ?_
        rw [jI_add]
        refine x_goto hm rfl (t := 4) rfl ?_
        exact ih _ _ (by omega) (by omega)
      · refine x_aload_n hm rfl rfl ?_
        refine x_iload_n hm rfl rfl ?_
        refine x_iload_n hm rfl rfl ?_
        refine x_cVe hm rfl rfl (t144 hW (by omega) (by omega)) (fun v3 r3 => ?_)
        refine x_goto hm rfl (t := 40) rfl ?_
        refine x_iadd hm rfl ?_
        refine x_istore_n hm rfl rfl ?_
        refine x_iinc hm rfl rfl (v := nI 1) (by decide) rfl ?_
        rw [jI_add]
        refine x_goto hm rfl (t := 4) rfl ?_
        exact ih _ _ (by omega) (by omega)
theorem t140 {t : Nat} (hW : Wf M) (ht : t < 8) : ∃ v, mT X 140 [.ref 66, .int (nI t)] (con M) (some (.int v)) (con M) ∧ True := by
  refine te_of (row := _) rfl (Nat.le_of_ble_eq_true rfl) ?_
  have hm : mMet 140 = some _ := rfl
  obtain ⟨np, h8, hnp⟩ := hW.np
  refine x_iconst hm rfl (v := nI 0) (by decide) ?_
  refine x_istore_n hm rfl rfl ?_
  refine x_iconst hm rfl (v := nI 0) (by decide) ?_
  refine x_istore_n hm rfl rfl ?_
  exact l140 hW hnp h8 ht _ 0 _ (Nat.lt_succ_self _) (Nat.zero_le _)
theorem t135 {v : Int32} (hv : FD v) : ∃ v' M', mT X 135 [.ref 66, .int v] (con M) (some (.int v')) (con M') ∧ v' = v ∧ Fnd M M' := by
  refine ti_of (row := _) rfl (Nat.le_of_ble_eq_true rfl) ?_
  have hm : mMet 135 = some _ := rfl
  obtain ⟨k, hk, he⟩ := FD_k hv
  refine x_aload_n hm rfl rfl ?_
  refine x_getf hm rfl (gR rfl rfl) ?_
  refine x_ldcI hm rfl (v := (-1000001 : Int32)) (by decide) ?_
  refine x_iload_n hm rfl rfl ?_
  refine x_isub hm rfl ?_
  refine x_iconst hm rfl (v := nI 1) (by decide) ?_
  refine x_iadd hm rfl ?_
  rw [he]
  refine x_dup2 hm rfl rfl rfl ?_
  refine x_iald hm rfl (lI rfl (by omega) (by decide)) ?_
  refine x_iconst hm rfl (v := nI 1) (by decide) ?_
  refine x_iadd hm rfl ?_
  refine x_iast hm rfl (sI rfl (by omega) (by decide)) ?_
  refine x_aload_n hm rfl rfl ?_
  refine x_getf hm rfl (gR rfl rfl) ?_
  refine x_iconst hm rfl (v := nI 0) (by decide) ?_
  refine x_dup2 hm rfl rfl rfl ?_
  refine x_iald hm rfl (lI rfl (by omega) (by decide)) ?_
  refine x_iconst hm rfl (v := nI 1) (by decide) ?_
  refine x_iadd hm rfl ?_
  refine x_iast hm rfl (sI rfl (by omega) (by decide)) ?_
  refine x_iload_n hm rfl rfl ?_
  refine x_iret hm rfl rfl (by first | rfl | exact bI_nar | decide) ?_
  exact ⟨_, _, rfl, rfl, rfl, fun h => (h.put0 (kd70 _)).put0 (kd70 _), fun a ha => by funext b; simp [mput, ha]⟩
theorem t138 {a1 a2 : Int32} (hI : Inv M) : ∃ v M', mT X 138 [.ref 66, .int a1, .int a2] (con M) (some (.int v)) (con M') ∧ Inv M' := by
  refine ti_of (row := _) rfl (Nat.le_of_ble_eq_true rfl) ?_
  have hm : mMet 138 = some _ := rfl
  obtain ⟨nt, hn8, hnt⟩ := hI.1.nt
  refine x_aload_n hm rfl rfl ?_
  refine x_iload_n hm rfl rfl ?_
  refine x_callV hm rfl rfl (t139) ?_
  refine x_if_eq hm rfl (t := 18) rfl (fun h1 => ?_) (fun h1 => ?_)
  · refine x_aload_n hm rfl rfl ?_
    refine x_ldcI hm rfl (v := (-1000001 : Int32)) (by decide) ?_
    refine x_cVi hm rfl rfl (t135 (by decide)) (fun v2 M2 r2 => ?_)
    refine x_iret hm rfl rfl (by first | rfl | exact bI_nar | decide) ?_
    exact ⟨_, _, rfl, rfl, by first | exact hI | exact (r1.2.inv hI) | exact (r2.2.inv hI) | exact (r3.2.inv hI) | exact (r4.2.inv hI) | exact (r5.2.inv hI) | exact (r6.2.inv hI) | exact (r7.2.inv hI) | exact (r8.2.inv hI)⟩
  · obtain ⟨t, ht, rfl⟩ := in_k hnt (by omega) (bI_ne0 h1)
    refine x_iload_n hm rfl rfl ?_
    refine x_iconst hm rfl (v := nI 0) (by decide) ?_
    refine x_bipush hm rfl (v := nI 6) (by decide) ?_
    refine x_callS hm rfl rfl (t133) ?_
    refine x_if_ne hm rfl (t := 25) rfl (fun h3 => ?_) (fun h3 => ?_)
    · obtain ⟨w, hw, rfl⟩ := le_k (by omega) (bI_ne0 h3)
      refine x_iload_n hm rfl rfl ?_
      refine x_bipush hm rfl (v := nI 6) (by decide) ?_
      refine x_icmp_ne hm rfl (t := 39) rfl (fun h4 => ?_) (fun h4 => ?_)
      · have hw6 : w ≠ 6 := fun e => h4 (by rw [e])
        refine x_aload_n hm rfl rfl ?_
        refine x_iload_n hm rfl rfl ?_
        refine x_iload_n hm rfl rfl ?_
        refine x_callV hm rfl rfl (t143 (by omega) (by omega)) ?_
        refine x_iret hm rfl rfl (by first | rfl | exact bI_nar | decide) ?_
        exact ⟨_, _, rfl, rfl, by first | exact hI | exact (r1.2.inv hI) | exact (r2.2.inv hI) | exact (r3.2.inv hI) | exact (r4.2.inv hI) | exact (r5.2.inv hI) | exact (r6.2.inv hI) | exact (r7.2.inv hI) | exact (r8.2.inv hI)⟩
      · 
        refine x_aload_n hm rfl rfl ?_
        refine x_iload_n hm rfl rfl ?_
        refine x_cVe hm rfl rfl (t140 hI.1 (by omega)) (fun v5 r5 => ?_)
        refine x_goto hm rfl (t := 45) rfl ?_
        refine x_iret hm rfl rfl (by first | rfl | exact bI_nar | decide) ?_
        exact ⟨_, _, rfl, rfl, by first | exact hI | exact (r1.2.inv hI) | exact (r2.2.inv hI) | exact (r3.2.inv hI) | exact (r4.2.inv hI) | exact (r5.2.inv hI) | exact (r6.2.inv hI) | exact (r7.2.inv hI) | exact (r8.2.inv hI)⟩
    · refine x_aload_n hm rfl rfl ?_
      refine x_ldcI hm rfl (v := (-1000001 : Int32)) (by decide) ?_
      refine x_cVi hm rfl rfl (t135 (by decide)) (fun v6 M6 r6 => ?_)
      refine x_iret hm rfl rfl (by first | rfl | exact bI_nar | decide) ?_
      exact ⟨_, _, rfl, rfl, by first | exact hI | exact (r1.2.inv hI) | exact (r2.2.inv hI) | exact (r3.2.inv hI) | exact (r4.2.inv hI) | exact (r5.2.inv hI) | exact (r6.2.inv hI) | exact (r7.2.inv hI) | exact (r8.2.inv hI)⟩
end RR
end
section
/-! ===== the reference: days ===== -/
/-- what days, findings and trials leave as it was -/
def Sf (M M' : mM) : Prop := (Wf M → Wf M') ∧ M' 67 1 = M 67 1 ∧ M' 67 2 = M 67 2 ∧ (∀ t, t < 8 → M' 67 (14 + 6 * t + 5) = M 67 (14 + 6 * t + 5)) ∧ M' 68 = M 68
theorem Sf.rf {M : mM} : Sf M M := ⟨fun h => h, rfl, rfl, fun _ _ => rfl, rfl⟩
theorem Sf.trans {M M1 M2 : mM} (h : Sf M M1) (g : Sf M1 M2) : Sf M M2 := ⟨fun w => g.1 (h.1 w), g.2.1.trans h.2.1, g.2.2.1.trans h.2.2.1, fun t ht => (g.2.2.2.1 t ht).trans (h.2.2.2.1 t ht), g.2.2.2.2.trans h.2.2.2.2⟩
theorem Ac.of {r r' : Nat → Int32} (h : Ac r) (h1 : r' 1 = r 1) (ht : ∀ t, t < 8 → r' (14 + 6 * t + 5) = r (14 + 6 * t + 5)) : Ac r' := by
  intro n hn e
  rw [h1] at e
  obtain ⟨rk, hk⟩ := h n hn e
  refine ⟨rk, fun t u htn hu he => ?_⟩
  rw [ht t (by omega)] at he
  exact hk t u htn hu he
theorem Sf.inv {M M' : mM} (h : Sf M M') (hI : Inv M) : Inv M' := ⟨h.1 hI.1, hI.2.1.of h.2.1 h.2.2.2.1, by rw [h.2.2.2.2]; exact hI.2.2⟩
theorem Fnd.sf {M M' : mM} (h : Fnd M M') : Sf M M' := ⟨h.1, by rw [h.2 67 (by decide)], by rw [h.2 67 (by decide)], fun t _ => by rw [h.2 67 (by decide)], h.2 68 (by decide)⟩
theorem Sf.put {M : mM} {a b : Nat} {v : Int32} (hv : okx (kd a b) v) (ha : a ≠ 68) (hb : a = 67 → b ≠ 1 ∧ b ≠ 2 ∧ ∀ t, t < 8 → b ≠ 14 + 6 * t + 5) : Sf M (mput M a b v) := by
  refine ⟨fun h => h.put hv, ?_, ?_, fun t ht => ?_, ?_⟩
  · unfold mput
    rw [if_neg]
    rintro ⟨e, e2⟩
    exact (hb e.symm).1 e2.symm
  · unfold mput
    rw [if_neg]
    rintro ⟨e, e2⟩
    exact (hb e.symm).2.1 e2.symm
  · unfold mput
    rw [if_neg]
    rintro ⟨e, e2⟩
    exact (hb e.symm).2.2 t ht e2.symm
  · funext j
    unfold mput
    rw [if_neg]
    rintro ⟨e, -⟩
    exact ha e.symm
theorem Sf.put0 {M : mM} {a b : Nat} {v : Int32} (hk : kd a b = 0) (ha : a ≠ 68) (ha7 : a ≠ 67) : Sf M (mput M a b v) := Sf.put (by rw [hk]; trivial) ha (fun e => absurd e ha7)
theorem kd_p : ∀ p, p < 8 → ∀ f, f < 7 → kd 67 (62 + 7 * p + f) = 0 := by decide
theorem Sf.person {M : mM} {p f : Nat} {v : Int32} (hp : p < 8) (hf : f < 7) : Sf M (mput M 67 (62 + 7 * p + f) v) := Sf.put (by rw [kd_p p hp f hf]; trivial) (by decide) (fun _ => ⟨by omega, by omega, fun t ht => by omega⟩)
theorem Sf.thing {M : mM} {t f : Nat} {v : Int32} (ht : t < 8) (hf : f < 5) (h0 : f ≠ 0) (h4 : f ≠ 4) : Sf M (mput M 67 (14 + 6 * t + f) v) := Sf.put (by
    rw [kd_t t ht f (by omega), if_neg h0, if_neg (by omega)]
    trivial) (by decide) (fun _ => ⟨by omega, by omega, fun t ht => by omega⟩)
theorem Sf.owner {M : mM} {t : Nat} {v : Int32} (ht : t < 8) (hv : okx 2 v) : Sf M (mput M 67 (14 + 6 * t + 4) v) := Sf.put (by
    rw [kd_t t ht 4 (by omega)]
    exact hv) (by decide) (fun _ => ⟨by omega, by omega, fun t ht => by omega⟩)
theorem Sf.sort {M : mM} {t : Nat} {v : Int32} (ht : t < 8) (hv : okx 3 v) : Sf M (mput M 67 (14 + 6 * t + 0) v) := Sf.put (by
    rw [kd_t t ht 0 (by omega)]
    exact hv) (by decide) (fun _ => ⟨by omega, by omega, fun t ht => by omega⟩)
theorem Sf.day {M : mM} {v : Int32} : Sf M (mput M 67 0 v) := Sf.put (by trivial) (by decide) (fun _ => ⟨by omega, by omega, fun t ht => by omega⟩)
theorem Sf.draw {M : mM} {v : Int32} : Sf M (mput M 67 3 v) := Sf.put (by trivial) (by decide) (fun _ => ⟨by omega, by omega, fun t ht => by omega⟩)
def Dy (M M' : mM) : Prop := Sf M M' ∧ M' 69 = M 69
theorem Dy.rf {M : mM} : Dy M M := ⟨Sf.rf, rfl⟩
theorem Dy.trans {M M1 M2 : mM} (h : Dy M M1) (g : Dy M1 M2) : Dy M M2 := ⟨h.1.trans g.1, g.2.trans h.2⟩
theorem Dy.put {M : mM} {a b : Nat} {v : Int32} (h : Sf M (mput M a b v)) (ha : a ≠ 69) : Dy M (mput M a b v) := ⟨h, by
  funext j
  unfold mput
  rw [if_neg]
  rintro ⟨e, -⟩
  exact ha e.symm⟩
/-- how many are not gone -/
def cnt (f : Nat → Int32) : Nat → Nat
  | 0 => 0
  | n + 1 => cnt f n + if f (14 + 6 * n + 2) = 0 then 0 else 1
theorem cnt_same {f g : Nat → Int32} : ∀ n, (∀ t, t < n → f (14 + 6 * t + 2) = g (14 + 6 * t + 2)) → cnt f n = cnt g n := by
  intro n
  induction n with
  | zero => intro _; rfl
  | succ n ih =>
    intro h
    unfold cnt
    rw [ih fun t ht => h t (by omega), h n (by omega)]
theorem cnt_zero {M : mM} {t : Nat} : ∀ n, t < n → ¬ M 67 (14 + 6 * t + 2) = 0 → cnt (mput M 67 (14 + 6 * t + 2) (nI 0) 67) n < cnt (M 67) n := by
  intro n
  induction n with
  | zero => intro h; omega
  | succ n ih =>
    intro h h0
    unfold cnt
    by_cases e : t = n
    · subst e
      have e1 : mput M 67 (14 + 6 * t + 2) (nI 0) 67 (14 + 6 * t + 2) = 0 := by
        unfold mput
        rw [if_pos ⟨rfl, rfl⟩]
        rfl
      rw [if_pos e1, if_neg h0, cnt_same (g := M 67) t fun u hu => by
        unfold mput
        rw [if_neg]
        rintro ⟨-, e2⟩
        omega]
      omega
    · have := ih (by omega) h0
      have e1 : mput M 67 (14 + 6 * t + 2) (nI 0) 67 (14 + 6 * n + 2) = M 67 (14 + 6 * n + 2) := by
        unfold mput
        rw [if_neg]
        rintro ⟨-, e2⟩
        omega
      rw [e1]
      omega
/-- a row copied, up to i -/
def cp (M : mM) (a b i : Nat) : mM := fun x j => if x = b ∧ j < i then M a j else M x j
theorem cp_0 {M : mM} {a b : Nat} : cp M a b 0 = M := by
  funext x j
  simp [cp]
theorem cp_s {M : mM} {a b i : Nat} (h : a ≠ b) : mput (cp M a b i) b i (cp M a b i a i) = cp M a b (i + 1) := by
  funext x j
  unfold mput cp
  by_cases hx : x = b
  · subst hx
    by_cases hj : j = i
    · subst hj
      simp [h]
    · by_cases hl : j < i
      · have h2 : j < i + 1 := by omega
        simp [hj, hl, h2]
      · have h2 : ¬ j < i + 1 := by omega
        simp [hj, hl, h2]
  · simp [hx]
theorem kd_row (b j : Nat) (h : b = 67 ∨ b = 68 ∨ b = 69) : kd b j = kd 67 j := by
  rcases h with rfl | rfl | rfl <;> rfl
theorem Wf.ofcp {M : mM} {a b i : Nat} (h : Wf M) (ha : a = 67 ∨ a = 68 ∨ a = 69) (hb : b = 67 ∨ b = 68 ∨ b = 69) : Wf (cp M a b i) := by
  intro x j
  show okx (kd x j) (if x = b ∧ j < i then M a j else M x j)
  by_cases hx : x = b ∧ j < i
  · rw [if_pos hx, hx.1, kd_row b j hb, ← kd_row a j ha]
    exact h a j
  · rw [if_neg hx]
    exact h x j

theorem nar01 {v : Int32} (h : v = nI 0 ∨ v = nI 1) : narrow .boolean (.int v) = .int v := by
  rcases h with rfl | rfl <;> rfl
theorem and_dec {l : Int32} (h : ¬ l = 0) : (l &&& (l - nI 1)).toBitVec.toNat < l.toBitVec.toNat := by
  have h0 : l.toBitVec.toNat ≠ 0 := fun e => h (Int32.toBitVec_inj.mp (BitVec.eq_of_toNat_eq (by rw [e]; rfl)))
  have h1 : (l - nI 1).toBitVec.toNat = l.toBitVec.toNat - 1 := by
    rw [Int32.toBitVec_sub, BitVec.toNat_sub]
    have e : (nI 1).toBitVec.toNat = 1 := rfl
    have hl := l.toBitVec.isLt
    rw [e]
    omega
  rw [Int32.toBitVec_and, BitVec.toNat_and, h1]
  have := Nat.and_le_right (n := l.toBitVec.toNat) (m := l.toBitVec.toNat - 1)
  omega
section RD
variable {X : mSc} {Q : Option Value → mHp → Prop} {M : mM}
theorem l170  {nb : Nat} (hnb : M 67 1 = nI nb) (h8 : nb ≤ 8) : ∀ (n k : Nat) (s : Int32), nb - k < n → k ≤ nb → mEv X (QE M (fun _ => True)) 170 4 [some (.ref 66), some (.int s), some (.int (nI k))] [] (con M) := by
  have hm : mMet 170 = some _ := rfl
  intro n
  induction n with
  | zero =>
    intro k s hkn hkb
    omega
  | succ n ih =>
    intro k s hkn hkb
    refine x_iload_n hm rfl rfl ?_
    refine x_aload_n hm rfl rfl ?_
    refine x_getf hm rfl (gR rfl rfl) ?_
    refine x_iconst hm rfl (v := nI 1) (by decide) ?_
    refine x_iald hm rfl (lI rfl (by omega) (by decide)) ?_
    rw [hnb]
    refine x_icmp_ge hm rfl (t := 29) rfl (fun h1 => ?_) (fun h1 => ?_)
    · refine x_iload_n hm rfl rfl ?_
      refine x_iret hm rfl rfl (by first | rfl | exact bI_nar | decide) ?_
      exact ⟨_, rfl, rfl, trivial⟩
    · have hk : k < nb := Nat.lt_of_not_le fun h => h1 (nI_le h (by omega))
      refine x_iload_n hm rfl rfl ?_
      refine x_aload_n hm rfl rfl ?_
      refine x_iload_n hm rfl rfl ?_
      refine x_iconst hm rfl (v := nI 2) (by decide) ?_
      refine x_callV hm rfl rfl (t143 (by omega) (by omega)) ?_
      refine x_iadd hm rfl ?_
      refine x_istore_n hm rfl rfl ?_
      refine x_iinc hm rfl rfl (v := nI 1) (by decide) rfl ?_
      rw [jI_add]
      refine x_goto hm rfl (t := 4) rfl ?_
      exact ih _ _ (by omega) (by omega)
theorem t170 (hW : Wf M) : ∃ v, mT X 170 [.ref 66] (con M) (some (.int v)) (con M) ∧ True := by
  refine te_of (row := _) rfl (Nat.le_of_ble_eq_true rfl) ?_
  have hm : mMet 170 = some _ := rfl
  obtain ⟨nb, h8, hnb⟩ := hW.nt
  refine x_iconst hm rfl (v := nI 0) (by decide) ?_
  refine x_istore_n hm rfl rfl ?_
  refine x_iconst hm rfl (v := nI 0) (by decide) ?_
  refine x_istore_n hm rfl rfl ?_
  exact l170 hnb h8 _ 0 _ (Nat.lt_succ_self _) (Nat.zero_le _)
theorem l167  {nb : Nat} (hnb : M 67 1 = nI nb) (h8 : nb ≤ 8) : ∀ (n k : Nat) (s : Int32), nb - k < n → k ≤ nb → mEv X (QE M (fun _ => True)) 167 4 [some (.ref 66), some (.int s), some (.int (nI k))] [] (con M) := by
  have hm : mMet 167 = some _ := rfl
  intro n
  induction n with
  | zero =>
    intro k s hkn hkb
    omega
  | succ n ih =>
    intro k s hkn hkb
    refine x_iload_n hm rfl rfl ?_
    refine x_aload_n hm rfl rfl ?_
    refine x_getf hm rfl (gR rfl rfl) ?_
    refine x_iconst hm rfl (v := nI 1) (by decide) ?_
    refine x_iald hm rfl (lI rfl (by omega) (by decide)) ?_
    rw [hnb]
    refine x_icmp_ge hm rfl (t := 38) rfl (fun h1 => ?_) (fun h1 => ?_)
    · refine x_iload_n hm rfl rfl ?_
      refine x_iret hm rfl rfl (by first | rfl | exact bI_nar | decide) ?_
      exact ⟨_, rfl, rfl, trivial⟩
    · have hk : k < nb := Nat.lt_of_not_le fun h => h1 (nI_le h (by omega))
      refine x_iload_n hm rfl rfl ?_
      refine x_aload_n hm rfl rfl ?_
      refine x_iload_n hm rfl rfl ?_
      refine x_callV hm rfl rfl (t146 (by omega)) ?_
      refine x_if_eq hm rfl (t := 29) rfl (fun h2 => ?_) (fun h2 => ?_)
      · refine x_iconst hm rfl (v := nI 0) (by decide) ?_
        refine x_ior hm rfl ?_
        refine x_istore_n hm rfl rfl ?_
        refine x_iinc hm rfl rfl (v := nI 1) (by decide) rfl ?_
        rw [jI_add]
        refine x_goto hm rfl (t := 4) rfl ?_
        exact ih _ _ (by omega) (by omega)
      · refine x_iconst hm rfl (v := nI 1) (by decide) ?_
        refine x_iload_n hm rfl rfl ?_
        refine x_ishl hm rfl ?_
        refine x_goto hm rfl (t := 30) rfl ?_
        refine x_ior hm rfl ?_
        refine x_istore_n hm rfl rfl ?_
        refine x_iinc hm rfl rfl (v := nI 1) (by decide) rfl ?_
        rw [jI_add]
        refine x_goto hm rfl (t := 4) rfl ?_
        exact ih _ _ (by omega) (by omega)
theorem t167 (hW : Wf M) : ∃ v, mT X 167 [.ref 66] (con M) (some (.int v)) (con M) ∧ True := by
  refine te_of (row := _) rfl (Nat.le_of_ble_eq_true rfl) ?_
  have hm : mMet 167 = some _ := rfl
  obtain ⟨nb, h8, hnb⟩ := hW.nt
  refine x_iconst hm rfl (v := nI 0) (by decide) ?_
  refine x_istore_n hm rfl rfl ?_
  refine x_iconst hm rfl (v := nI 0) (by decide) ?_
  refine x_istore_n hm rfl rfl ?_
  exact l167 hnb h8 _ 0 _ (Nat.lt_succ_self _) (Nat.zero_le _)
theorem l160 {a1 : Int32} {nb : Nat} (hnb : M 67 1 = nI nb) (h8 : nb ≤ 8) : ∀ (n k : Nat) (s : Int32), nb - k < n → k ≤ nb → mEv X (QE M (fun _ => True)) 160 4 [some (.ref 66), some (.int a1), some (.int s), some (.int (nI k))] [] (con M) := by
  have hm : mMet 160 = some _ := rfl
  intro n
  induction n with
  | zero =>
    intro k s hkn hkb
    omega
  | succ n ih =>
    intro k s hkn hkb
    refine x_iload_n hm rfl rfl ?_
    refine x_aload_n hm rfl rfl ?_
    refine x_getf hm rfl (gR rfl rfl) ?_
    refine x_iconst hm rfl (v := nI 1) (by decide) ?_
    refine x_iald hm rfl (lI rfl (by omega) (by decide)) ?_
    rw [hnb]
    refine x_icmp_ge hm rfl (t := 40) rfl (fun h1 => ?_) (fun h1 => ?_)
    · refine x_iload_n hm rfl rfl ?_
      refine x_iret hm rfl rfl (by first | rfl | exact bI_nar | decide) ?_
      exact ⟨_, rfl, rfl, trivial⟩
    · have hk : k < nb := Nat.lt_of_not_le fun h => h1 (nI_le h (by omega))
      refine x_iload_n hm rfl rfl ?_
      refine x_aload_n hm rfl rfl ?_
      refine x_iload_n hm rfl rfl ?_
      refine x_iconst hm rfl (v := nI 4) (by decide) ?_
      refine x_callV hm rfl rfl (t143 (by omega) (by omega)) ?_
      refine x_iload_n hm rfl rfl ?_
      refine x_icmp_ne hm rfl (t := 31) rfl (fun h2 => ?_) (fun h2 => ?_)
      · refine x_iconst hm rfl (v := nI 0) (by decide) ?_
        refine x_ior hm rfl ?_
        refine x_istore_n hm rfl rfl ?_
        refine x_iinc hm rfl rfl (v := nI 1) (by decide) rfl ?_
        rw [jI_add]
        refine x_goto hm rfl (t := 4) rfl ?_
        exact ih _ _ (by omega) (by omega)
      · refine x_iconst hm rfl (v := nI 1) (by decide) ?_
        refine x_iload_n hm rfl rfl ?_
        refine x_ishl hm rfl ?_
        refine x_goto hm rfl (t := 32) rfl ?_
        refine x_ior hm rfl ?_
        refine x_istore_n hm rfl rfl ?_
        refine x_iinc hm rfl rfl (v := nI 1) (by decide) rfl ?_
        rw [jI_add]
        refine x_goto hm rfl (t := 4) rfl ?_
        exact ih _ _ (by omega) (by omega)
theorem t160 {a1 : Int32} (hW : Wf M) : ∃ v, mT X 160 [.ref 66, .int a1] (con M) (some (.int v)) (con M) ∧ True := by
  refine te_of (row := _) rfl (Nat.le_of_ble_eq_true rfl) ?_
  have hm : mMet 160 = some _ := rfl
  obtain ⟨nb, h8, hnb⟩ := hW.nt
  refine x_iconst hm rfl (v := nI 0) (by decide) ?_
  refine x_istore_n hm rfl rfl ?_
  refine x_iconst hm rfl (v := nI 0) (by decide) ?_
  refine x_istore_n hm rfl rfl ?_
  exact l160 hnb h8 _ 0 _ (Nat.lt_succ_self _) (Nat.zero_le _)
theorem l171 {a1 : Int32} {nb : Nat} (hnb : M 67 2 = nI nb) (h8 : nb ≤ 8) : ∀ (n k : Nat) (s : Int32), nb - k < n → k ≤ nb → (s = nI 0 ∨ s = nI 1) → mEv X (QE M (fun _ => True)) 171 4 [some (.ref 66), some (.int a1), some (.int s), some (.int (nI k))] [] (con M) := by
  have hm : mMet 171 = some _ := rfl
  intro n
  induction n with
  | zero =>
    intro k s hkn hkb h01
    omega
  | succ n ih =>
    intro k s hkn hkb h01
    refine x_iload_n hm rfl rfl ?_
    refine x_aload_n hm rfl rfl ?_
    refine x_getf hm rfl (gR rfl rfl) ?_
    refine x_iconst hm rfl (v := nI 2) (by decide) ?_
    refine x_iald hm rfl (lI rfl (by omega) (by decide)) ?_
    rw [hnb]
    refine x_icmp_ge hm rfl (t := 40) rfl (fun h1 => ?_) (fun h1 => ?_)
    · refine x_iload_n hm rfl rfl ?_
      refine x_iret hm rfl rfl (nar01 h01) ?_
      exact ⟨_, rfl, rfl, trivial⟩ --stop
    · have hk : k < nb := Nat.lt_of_not_le fun h => h1 (nI_le h (by omega))
      refine x_iload_n hm rfl rfl ?_
      refine x_if_ne hm rfl (t := 28) rfl (fun h2 => ?_) (fun h2 => ?_)
      · refine x_iconst hm rfl (v := nI 1) (by decide) ?_
        refine x_goto hm rfl (t := 33) rfl ?_
        refine x_istore_n hm rfl rfl ?_
        refine x_iinc hm rfl rfl (v := nI 1) (by decide) rfl ?_
        rw [jI_add]
        refine x_goto hm rfl (t := 4) rfl ?_
        exact ih _ _ (by omega) (by omega) (by first | exact Or.inl rfl | exact Or.inr rfl)
      · refine x_aload_n hm rfl rfl ?_
        refine x_iload_n hm rfl rfl ?_
        refine x_iconst hm rfl (v := nI 1) (by decide) ?_
        refine x_callV hm rfl rfl (t141 (by omega) (by omega)) ?_
        refine x_iload_n hm rfl rfl ?_
        refine x_icmp_ne hm rfl (t := 32) rfl (fun h3 => ?_) (fun h3 => ?_)
        · refine x_iconst hm rfl (v := nI 0) (by decide) ?_
          refine x_istore_n hm rfl rfl ?_
          refine x_iinc hm rfl rfl (v := nI 1) (by decide) rfl ?_
          rw [jI_add]
          refine x_goto hm rfl (t := 4) rfl ?_
          exact ih _ _ (by omega) (by omega) (by first | exact Or.inl rfl | exact Or.inr rfl)
        · refine x_iconst hm rfl (v := nI 1) (by decide) ?_
          refine x_goto hm rfl (t := 33) rfl ?_
          refine x_istore_n hm rfl rfl ?_
          refine x_iinc hm rfl rfl (v := nI 1) (by decide) rfl ?_
          rw [jI_add]
          refine x_goto hm rfl (t := 4) rfl ?_
          exact ih _ _ (by omega) (by omega) (by first | exact Or.inl rfl | exact Or.inr rfl)
theorem t171 {a1 : Int32} (hW : Wf M) : ∃ v, mT X 171 [.ref 66, .int a1] (con M) (some (.int v)) (con M) ∧ True := by
  refine te_of (row := _) rfl (Nat.le_of_ble_eq_true rfl) ?_
  have hm : mMet 171 = some _ := rfl
  obtain ⟨nb, h8, hnb⟩ := hW.np
  refine x_iconst hm rfl (v := nI 0) (by decide) ?_
  refine x_istore_n hm rfl rfl ?_
  refine x_iconst hm rfl (v := nI 0) (by decide) ?_
  refine x_istore_n hm rfl rfl ?_
  exact l171 hnb h8 _ 0 _ (Nat.lt_succ_self _) (Nat.zero_le _) (Or.inl rfl)
theorem l168 {a1 : Int32} : ∀ (n : Nat) (s l : Int32), l.toBitVec.toNat < n → mEv X (QE M (fun _ => True)) 168 4 [some (.int a1), some (.int s), some (.int l)] [] (con M) := by
  have hm : mMet 168 = some _ := rfl
  intro n
  induction n with
  | zero =>
    intro s l hl
    omega
  | succ n ih =>
    intro s l hl
    refine x_iload_n hm rfl rfl ?_
    refine x_if_eq hm rfl (t := 20) rfl (fun h1 => ?_) (fun h1 => ?_)
    · refine x_iload_n hm rfl rfl ?_
      refine x_iret hm rfl rfl (by first | rfl | exact bI_nar | decide) ?_
      exact ⟨_, rfl, rfl, trivial⟩
    · refine x_iinc hm rfl rfl (v := nI 1) (by decide) rfl ?_
      refine x_iload_n hm rfl rfl ?_
      refine x_iload_n hm rfl rfl ?_
      refine x_iconst hm rfl (v := nI 1) (by decide) ?_
      refine x_isub hm rfl ?_
      refine x_iand hm rfl ?_
      refine x_istore_n hm rfl rfl ?_
      refine x_goto hm rfl (t := 4) rfl ?_
      exact ih _ _ (by have := and_dec h1; omega)
theorem t168 {a1 : Int32} : ∃ v, mT X 168 [.int a1] (con M) (some (.int v)) (con M) ∧ True := by
  refine te_of (row := _) rfl (Nat.le_of_ble_eq_true rfl) ?_
  have hm : mMet 168 = some _ := rfl
  refine x_iconst hm rfl (v := nI 0) (by decide) ?_
  refine x_istore_n hm rfl rfl ?_
  refine x_iload_n hm rfl rfl ?_
  refine x_istore_n hm rfl rfl ?_
  exact l168 _ _ _ (Nat.lt_succ_self _)
theorem l174 {a b : Nat} (ha : mSp[a]? = some (0, 118, [])) (hb : mSp[b]? = some (0, 118, [])) (hab : a ≠ b) : ∀ (n i : Nat), 118 - i < n → i ≤ 118 → mEv X (fun r1 D1 => r1 = none ∧ D1 = con (cp M a b 118)) 174 2 [some (.ref a), some (.ref b), some (.int (nI i))] [] (con (cp M a b i)) := by
  have hm : mMet 174 = some _ := rfl
  intro n
  induction n with
  | zero =>
    intro i hin hi
    omega
  | succ n ih =>
    intro i hin hi
    refine x_iload_n hm rfl rfl ?_
    refine x_bipush hm rfl (v := nI 118) (by decide) ?_
    refine x_icmp_ge hm rfl (t := 20) rfl (fun h1 => ?_) (fun h1 => ?_)
    · obtain rfl : i = 118 := Nat.le_antisymm hi ((jI_le (by decide) (by omega)).mp h1)
      refine x_ret hm rfl rfl ?_
      exact ⟨rfl, rfl⟩
    · have hk : i < 118 := Nat.lt_of_not_le fun h => h1 (nI_le h (by omega))
      refine x_aload_n hm rfl rfl ?_
      refine x_iload_n hm rfl rfl ?_
      refine x_aload_n hm rfl rfl ?_
      refine x_iload_n hm rfl rfl ?_
      refine x_iald hm rfl (lI ha hk (by decide)) ?_
      refine x_iast hm rfl (sI hb hk (by decide)) ?_
      rw [cp_s hab]
      refine x_iinc hm rfl rfl (v := nI 1) (by decide) rfl ?_
      rw [jI_add]
      refine x_goto hm rfl (t := 2) rfl ?_
      exact ih _ (by omega) (by omega)
theorem t174 {a b : Nat} (ha : mSp[a]? = some (0, 118, [])) (hb : mSp[b]? = some (0, 118, [])) (hab : a ≠ b) : mT X 174 [.ref a, .ref b] (con M) none (con (cp M a b 118)) := by
  refine mT.of (row := _) rfl (Nat.le_of_ble_eq_true rfl) ?_
  have hm : mMet 174 = some _ := rfl
  refine x_iconst hm rfl (v := nI 0) (by decide) ?_
  refine x_istore_n hm rfl rfl ?_
  have h9 := l174 (X := X) (M := M) ha hb hab _ 0 (Nat.lt_succ_self _) (Nat.zero_le _)
  rw [cp_0] at h9
  exact h9
theorem t175 {v : Int32} : mT X 175 [.ref 66, .int v] (con M) (some (.int v)) (con (cp M 69 67 118)) := by
  refine mT.of (row := _) rfl (Nat.le_of_ble_eq_true rfl) ?_
  have hm : mMet 175 = some _ := rfl
  refine x_aload_n hm rfl rfl ?_
  refine x_getf hm rfl (gR rfl rfl) ?_
  refine x_aload_n hm rfl rfl ?_
  refine x_getf hm rfl (gR rfl rfl) ?_
  refine x_callS hm rfl rfl (t174 rfl rfl (by decide)) ?_
  refine x_iload_n hm rfl rfl ?_
  refine x_iret hm rfl rfl (by first | rfl | exact bI_nar | decide) ?_
  exact ⟨rfl, rfl⟩
end RD
section RE
variable {X : mSc} {Q : Option Value → mHp → Prop} {M : mM}
theorem l166 {nb : Nat} (hW : Wf M) (hnb : M 67 1 = nI nb) (h8 : nb ≤ 8) : ∀ (n k : Nat) (s : Int32) (M1 : mM), nb - k < n → k ≤ nb → Dy M M1 → ((s = nI 0 ∧ cnt (M1 67) nb ≤ cnt (M 67) nb) ∨ (s = nI 1 ∧ cnt (M1 67) nb < cnt (M 67) nb)) → mEv X (QI (fun v M' => Dy M M' ∧ ((v = nI 0 ∧ cnt (M' 67) nb ≤ cnt (M 67) nb) ∨ (v = nI 1 ∧ cnt (M' 67) nb < cnt (M 67) nb)))) 166 4 [some (.ref 66), some (.int s), some (.int (nI k))] [] (con M1) := by
  have hm : mMet 166 = some _ := rfl
  intro n
  induction n with
  | zero =>
    intro k s M1 hkn hkb hD hc
    omega
  | succ n ih =>
    intro k s M1 hkn hkb hD hc
    have hW1 := hD.1.1 hW
    have hn1 : M1 67 1 = nI nb := hD.1.2.1.trans hnb
    have h01 : s = nI 0 ∨ s = nI 1 := hc.elim (fun h => Or.inl h.1) (fun h => Or.inr h.1)
    refine x_iload_n hm rfl rfl ?_
    refine x_aload_n hm rfl rfl ?_
    refine x_getf hm rfl (gR rfl rfl) ?_
    refine x_iconst hm rfl (v := nI 1) (by decide) ?_
    refine x_iald hm rfl (lI rfl (by omega) (by decide)) ?_
    rw [hn1]
    refine x_icmp_ge hm rfl (t := 63) rfl (fun h1 => ?_) (fun h1 => ?_)
    · refine x_iload_n hm rfl rfl ?_
      refine x_iret hm rfl rfl (nar01 h01) ?_
      exact ⟨_, _, rfl, rfl, hD, hc⟩ --stop
    · have hk : k < nb := Nat.lt_of_not_le fun h => h1 (nI_le h (by omega))
      refine x_aload_n hm rfl rfl ?_
      refine x_iload_n hm rfl rfl ?_
      refine x_callV hm rfl rfl (t146 (by omega)) ?_
      refine x_if_ne hm rfl (t := 57) rfl (fun h2 => ?_) (fun h2 => ?_)
      · refine x_iinc hm rfl rfl (v := nI 1) (by decide) rfl ?_
        rw [jI_add]
        refine x_goto hm rfl (t := 4) rfl ?_
        first
          | exact ih _ _ _ (by omega) (by omega) hD hc
          | exact ih _ _ _ (by omega) (by omega) (hD.trans (Dy.put (Sf.thing (by omega) (by decide) (by decide) (by decide)) (by decide))) (Or.inr ⟨rfl, by have := cnt_zero (M := M1) nb hk hg; omega⟩)
      · have hg : ¬ M1 67 (14 + 6 * k + 2) = 0 := bI_eq0.mp h2
        refine x_aload_n hm rfl rfl ?_
        refine x_iload_n hm rfl rfl ?_
        refine x_iconst hm rfl (v := nI 5) (by decide) ?_
        refine x_callV hm rfl rfl (t143 (by omega) (by omega)) ?_
        refine x_if_lt hm rfl (t := 57) rfl (fun h3 => ?_) (fun h3 => ?_)
        · refine x_iinc hm rfl rfl (v := nI 1) (by decide) rfl ?_
          rw [jI_add]
          refine x_goto hm rfl (t := 4) rfl ?_
          first
            | exact ih _ _ _ (by omega) (by omega) hD hc
            | exact ih _ _ _ (by omega) (by omega) (hD.trans (Dy.put (Sf.thing (by omega) (by decide) (by decide) (by decide)) (by decide))) (Or.inr ⟨rfl, by have := cnt_zero (M := M1) nb hk hg; omega⟩)
        · obtain ⟨w, hw, hw2⟩ := tsm1 h3 (hW1.on (by omega))
          refine x_aload_n hm rfl rfl ?_
          refine x_aload_n hm rfl rfl ?_
          refine x_iload_n hm rfl rfl ?_
          refine x_iconst hm rfl (v := nI 5) (by decide) ?_
          refine x_callV hm rfl rfl (t143 (by omega) (by omega)) ?_
          rw [hw2]
          refine x_callV hm rfl rfl (t146 (by omega)) ?_
          refine x_if_eq hm rfl (t := 57) rfl (fun h4 => ?_) (fun h4 => ?_)
          · refine x_iinc hm rfl rfl (v := nI 1) (by decide) rfl ?_
            rw [jI_add]
            refine x_goto hm rfl (t := 4) rfl ?_
            first
              | exact ih _ _ _ (by omega) (by omega) hD hc
              | exact ih _ _ _ (by omega) (by omega) (hD.trans (Dy.put (Sf.thing (by omega) (by decide) (by decide) (by decide)) (by decide))) (Or.inr ⟨rfl, by have := cnt_zero (M := M1) nb hk hg; omega⟩)
          · refine x_aload_n hm rfl rfl ?_
            refine x_getf hm rfl (gR rfl rfl) ?_
            refine x_iload_n hm rfl rfl ?_
            refine x_iconst hm rfl (v := nI 2) (by decide) ?_
            refine x_callS hm rfl rfl (t137) ?_
            refine x_iconst hm rfl (v := nI 0) (by decide) ?_
            refine x_iast hm rfl (sI rfl (by omega) (by decide)) ?_
            refine x_iconst hm rfl (v := nI 1) (by decide) ?_
            refine x_istore_n hm rfl rfl ?_
            refine x_iinc hm rfl rfl (v := nI 1) (by decide) rfl ?_
            rw [jI_add]
            refine x_goto hm rfl (t := 4) rfl ?_
            first
              | exact ih _ _ _ (by omega) (by omega) hD hc
              | exact ih _ _ _ (by omega) (by omega) (hD.trans (Dy.put (Sf.thing (by omega) (by decide) (by decide) (by decide)) (by decide))) (Or.inr ⟨rfl, by have := cnt_zero (M := M1) nb hk hg; omega⟩)
theorem t166 {nb : Nat} (hW : Wf M) (hnb : M 67 1 = nI nb) (h8 : nb ≤ 8) : ∃ v M', mT X 166 [.ref 66] (con M) (some (.int v)) (con M') ∧ (fun v M' => Dy M M' ∧ ((v = nI 0 ∧ cnt (M' 67) nb ≤ cnt (M 67) nb) ∨ (v = nI 1 ∧ cnt (M' 67) nb < cnt (M 67) nb))) v M' := by
  refine ti_of (row := _) rfl (Nat.le_of_ble_eq_true rfl) ?_
  have hm : mMet 166 = some _ := rfl
  refine x_iconst hm rfl (v := nI 0) (by decide) ?_
  refine x_istore_n hm rfl rfl ?_
  refine x_iconst hm rfl (v := nI 0) (by decide) ?_
  refine x_istore_n hm rfl rfl ?_
  exact l166 hW hnb h8 _ 0 _ _ (Nat.lt_succ_self _) (Nat.zero_le _) Dy.rf (Or.inl ⟨rfl, Nat.le_refl _⟩)
theorem l165d {nb np : Nat} (hW : Wf M) (hnb : M 67 1 = nI nb) (h8 : nb ≤ 8) (hnp : M 67 2 = nI np) (hp8 : np ≤ 8) {s : Int32} : ∀ (n k : Nat) (M1 : mM), np - k < n → k ≤ np → Dy M M1 → mEv X (QV (fun M' => Dy M M')) 165 82 [some (.ref 66), some (.int s), some (.int (nI k))] [] (con M1) := by
  have hm : mMet 165 = some _ := rfl
  intro n
  induction n with
  | zero =>
    intro k M1 hkn hkb hD
    omega
  | succ n ih =>
    intro k M1 hkn hkb hD
    have hW1 := hD.1.1 hW
    have hn1 : M1 67 1 = nI nb := hD.1.2.1.trans hnb
    have hp1 : M1 67 2 = nI np := hD.1.2.2.1.trans hnp
    refine x_iload_n hm rfl rfl ?_
    refine x_aload_n hm rfl rfl ?_
    refine x_getf hm rfl (gR rfl rfl) ?_
    refine x_iconst hm rfl (v := nI 2) (by decide) ?_
    refine x_iald hm rfl (lI rfl (by omega) (by decide)) ?_
    rw [hp1]
    refine x_icmp_ge hm rfl (t := 124) rfl (fun h1 => ?_) (fun h1 => ?_)
    · refine x_aload_n hm rfl rfl ?_
      refine x_getf hm rfl (gR rfl rfl) ?_
      refine x_iconst hm rfl (v := nI 0) (by decide) ?_
      refine x_dup2 hm rfl rfl rfl ?_
      refine x_iald hm rfl (lI rfl (by omega) (by decide)) ?_
      refine x_iconst hm rfl (v := nI 1) (by decide) ?_
      refine x_iadd hm rfl ?_
      refine x_iast hm rfl (sI rfl (by omega) (by decide)) ?_
      refine x_ret hm rfl rfl ?_
      exact ⟨_, rfl, rfl, hD.trans (Dy.put Sf.day (by decide))⟩
    · have hk : k < np := Nat.lt_of_not_le fun h => h1 (nI_le h (by omega))
      refine x_aload_n hm rfl rfl ?_
      refine x_getf hm rfl (gR rfl rfl) ?_
      refine x_iload_n hm rfl rfl ?_
      refine x_iconst hm rfl (v := nI 1) (by decide) ?_
      refine x_callS hm rfl rfl (t142) ?_
      refine x_aload_n hm rfl rfl ?_
      refine x_iload_n hm rfl rfl ?_
      refine x_iconst hm rfl (v := nI 1) (by decide) ?_
      refine x_callV hm rfl rfl (t141 (by omega) (by omega)) ?_
      refine x_aload_n hm rfl rfl ?_
      refine x_iload_n hm rfl rfl ?_
      refine x_iconst hm rfl (v := nI 2) (by decide) ?_
      refine x_callV hm rfl rfl (t141 (by omega) (by omega)) ?_
      refine x_iadd hm rfl ?_
      refine x_bipush hm rfl (v := nI 16) (by decide) ?_
      refine x_irem hm rfl (by decide) ?_
      refine x_iast hm rfl (sI rfl (by omega) (by decide)) ?_
      refine x_iinc hm rfl rfl (v := nI 1) (by decide) rfl ?_
      rw [jI_add]
      refine x_goto hm rfl (t := 82) rfl ?_
      exact ih _ _ (by omega) (by omega) (hD.trans (Dy.put (Sf.person (by omega) (by decide)) (by decide)))
theorem l165c {nb np : Nat} (hW : Wf M) (hnb : M 67 1 = nI nb) (h8 : nb ≤ 8) (hnp : M 67 2 = nI np) (hp8 : np ≤ 8) : ∀ (n : Nat) (s : Int32) (M1 : mM), (s = nI 0 ∨ (s = nI 1 ∧ cnt (M1 67) nb + 1 < n)) → 0 < n → Dy M M1 → mEv X (QV (fun M' => Dy M M')) 165 68 [some (.ref 66), some (.int s), none] [] (con M1) := by
  have hm : mMet 165 = some _ := rfl
  intro n
  induction n with
  | zero =>
    intro s M1 hs hn hD
    omega
  | succ n ih =>
    intro s M1 hs hn hD
    have hW1 := hD.1.1 hW
    have hn1 : M1 67 1 = nI nb := hD.1.2.1.trans hnb
    have hp1 : M1 67 2 = nI np := hD.1.2.2.1.trans hnp
    refine x_iload_n hm rfl rfl ?_
    refine x_if_eq hm rfl (t := 80) rfl (fun h1 => ?_) (fun h1 => ?_)
    · refine x_iconst hm rfl (v := nI 0) (by decide) ?_
      refine x_istore_n hm rfl rfl ?_
      exact l165d hW hnb h8 hnp hp8 _ 0 _ (Nat.lt_succ_self _) (Nat.zero_le _) hD
    · have hs2 : cnt (M1 67) nb + 1 < n + 1 := hs.elim (fun e => absurd e h1) (fun e => e.2)
      refine x_aload_n hm rfl rfl ?_
      refine x_cVi hm rfl rfl (t166 hW1 hn1 h8) (fun v2 M2 r2 => ?_)
      refine x_istore_n hm rfl rfl ?_
      refine x_goto hm rfl (t := 68) rfl ?_
      exact ih _ _ (r2.2.elim (fun e => Or.inl e.1) (fun e => Or.inr ⟨e.1, by omega⟩)) (by omega) (hD.trans r2.1)
theorem l165b {nb np : Nat} (hW : Wf M) (hnb : M 67 1 = nI nb) (h8 : nb ≤ 8) (hnp : M 67 2 = nI np) (hp8 : np ≤ 8) : ∀ (n k : Nat) (M1 : mM), nb - k < n → k ≤ nb → Dy M M1 → mEv X (QV (fun M' => Dy M M')) 165 31 [some (.ref 66), some (.int (nI k)), none] [] (con M1) := by
  have hm : mMet 165 = some _ := rfl
  intro n
  induction n with
  | zero =>
    intro k M1 hkn hkb hD
    omega
  | succ n ih =>
    intro k M1 hkn hkb hD
    have hW1 := hD.1.1 hW
    have hn1 : M1 67 1 = nI nb := hD.1.2.1.trans hnb
    have hp1 : M1 67 2 = nI np := hD.1.2.2.1.trans hnp
    refine x_iload_n hm rfl rfl ?_
    refine x_aload_n hm rfl rfl ?_
    refine x_getf hm rfl (gR rfl rfl) ?_
    refine x_iconst hm rfl (v := nI 1) (by decide) ?_
    refine x_iald hm rfl (lI rfl (by omega) (by decide)) ?_
    rw [hn1]
    refine x_icmp_ge hm rfl (t := 66) rfl (fun h1 => ?_) (fun h1 => ?_)
    · refine x_iconst hm rfl (v := nI 1) (by decide) ?_
      refine x_istore_n hm rfl rfl ?_
      exact l165c hW hnb h8 hnp hp8 _ _ _ (Or.inr ⟨rfl, Nat.lt_succ_self _⟩) (Nat.succ_pos _) hD
    · have hk : k < nb := Nat.lt_of_not_le fun h => h1 (nI_le h (by omega))
      refine x_aload_n hm rfl rfl ?_
      refine x_getf hm rfl (gR rfl rfl) ?_
      refine x_iload_n hm rfl rfl ?_
      refine x_iconst hm rfl (v := nI 2) (by decide) ?_
      refine x_callS hm rfl rfl (t137) ?_
      refine x_dup2 hm rfl rfl rfl ?_
      refine x_iald hm rfl (lI rfl (by omega) (by decide)) ?_
      refine x_aload_n hm rfl rfl ?_
      refine x_getf hm rfl (gR rfl rfl) ?_
      refine x_iload_n hm rfl rfl ?_
      refine x_iald hm rfl (lI rfl (by omega) (by decide)) ?_
      refine x_isub hm rfl ?_
      refine x_iast hm rfl (sI rfl (by omega) (by decide)) ?_
      refine x_iinc hm rfl rfl (v := nI 1) (by decide) rfl ?_
      rw [jI_add]
      refine x_goto hm rfl (t := 31) rfl ?_
      exact ih _ _ (by omega) (by omega) (hD.trans (Dy.put (Sf.thing (by omega) (by decide) (by decide) (by decide)) (by decide)))
theorem l165a {nb np : Nat} (hW : Wf M) (hnb : M 67 1 = nI nb) (h8 : nb ≤ 8) (hnp : M 67 2 = nI np) (hp8 : np ≤ 8) : ∀ (n k : Nat) (M1 : mM), nb - k < n → k ≤ nb → Dy M M1 → mEv X (QV (fun M' => Dy M M')) 165 2 [some (.ref 66), some (.int (nI k)), none] [] (con M1) := by
  have hm : mMet 165 = some _ := rfl
  intro n
  induction n with
  | zero =>
    intro k M1 hkn hkb hD
    omega
  | succ n ih =>
    intro k M1 hkn hkb hD
    have hW1 := hD.1.1 hW
    have hn1 : M1 67 1 = nI nb := hD.1.2.1.trans hnb
    have hp1 : M1 67 2 = nI np := hD.1.2.2.1.trans hnp
    refine x_iload_n hm rfl rfl ?_
    refine x_aload_n hm rfl rfl ?_
    refine x_getf hm rfl (gR rfl rfl) ?_
    refine x_iconst hm rfl (v := nI 1) (by decide) ?_
    refine x_iald hm rfl (lI rfl (by omega) (by decide)) ?_
    rw [hn1]
    refine x_icmp_ge hm rfl (t := 29) rfl (fun h1 => ?_) (fun h1 => ?_)
    · refine x_iconst hm rfl (v := nI 0) (by decide) ?_
      refine x_istore_n hm rfl rfl ?_
      exact l165b hW hnb h8 hnp hp8 _ 0 _ (Nat.lt_succ_self _) (Nat.zero_le _) hD
    · have hk : k < nb := Nat.lt_of_not_le fun h => h1 (nI_le h (by omega))
      refine x_aload_n hm rfl rfl ?_
      refine x_getf hm rfl (gR rfl rfl) ?_
      refine x_iload_n hm rfl rfl ?_
      refine x_aload_n hm rfl rfl ?_
      refine x_iload_n hm rfl rfl ?_
      refine x_cVe hm rfl rfl (t140 hW1 (by omega)) (fun v2 r2 => ?_)
      refine x_iast hm rfl (sI rfl (by omega) (by decide)) ?_
      refine x_iinc hm rfl rfl (v := nI 1) (by decide) rfl ?_
      rw [jI_add]
      refine x_goto hm rfl (t := 2) rfl ?_
      exact ih _ _ (by omega) (by omega) (hD.trans (Dy.put (Sf.put0 (kd71 _) (by decide) (by decide)) (by decide)))
theorem t165 (hW : Wf M) : ∃ M', mT X 165 [.ref 66] (con M) none (con M') ∧ Dy M M' := by
  refine tv_of (row := _) rfl (Nat.le_of_ble_eq_true rfl) ?_
  have hm : mMet 165 = some _ := rfl
  obtain ⟨nb, h8, hnb⟩ := hW.nt
  obtain ⟨np, hp8, hnp⟩ := hW.np
  refine x_iconst hm rfl (v := nI 0) (by decide) ?_
  refine x_istore_n hm rfl rfl ?_
  exact l165a hW hnb h8 hnp hp8 _ 0 _ (Nat.lt_succ_self _) (Nat.zero_le _) Dy.rf
theorem l164 {a : Nat} (hW : Wf M) (ha : a ≤ 1000) : ∀ (n k : Nat) (M1 : mM), a - k < n → k ≤ a → Dy M M1 → mEv X (QV (fun M' => Dy M M')) 164 2 [some (.ref 66), some (.int (nI a)), some (.int (nI k))] [] (con M1) := by
  have hm : mMet 164 = some _ := rfl
  intro n
  induction n with
  | zero =>
    intro k M1 hkn hkb hD
    omega
  | succ n ih =>
    intro k M1 hkn hkb hD
    refine x_iload_n hm rfl rfl ?_
    refine x_iload_n hm rfl rfl ?_
    refine x_icmp_ge hm rfl (t := 17) rfl (fun h1 => ?_) (fun h1 => ?_)
    · refine x_ret hm rfl rfl ?_
      exact ⟨_, rfl, rfl, hD⟩
    · have hk : k < a := Nat.lt_of_not_le fun h => h1 (nI_le h (by omega))
      refine x_aload_n hm rfl rfl ?_
      refine x_cVv hm rfl rfl (t165 (hD.1.1 hW)) (fun M2 r2 => ?_)
      refine x_iinc hm rfl rfl (v := nI 1) (by decide) rfl ?_
      rw [jI_add]
      refine x_goto hm rfl (t := 2) rfl ?_
      exact ih _ _ (by omega) (by omega) (hD.trans r2)
theorem t164 {a : Nat} (hW : Wf M) (ha : a ≤ 1000) : ∃ M', mT X 164 [.ref 66, .int (nI a)] (con M) none (con M') ∧ Dy M M' := by
  refine tv_of (row := _) rfl (Nat.le_of_ble_eq_true rfl) ?_
  have hm : mMet 164 = some _ := rfl
  refine x_iconst hm rfl (v := nI 0) (by decide) ?_
  refine x_istore_n hm rfl rfl ?_
  exact l164 hW ha _ 0 _ (Nat.lt_succ_self _) (Nat.zero_le _) Dy.rf
end RE
end
section
/-! ===== the reference: trials ===== -/
theorem mFit_int {x : Int32} : mFit .int (.int x) = true := by
  unfold mFit
  simp [narrow, fits]
theorem Sf.trial {M M2 : mM} (h : Dy (cp M 67 69 118) M2) : Sf M (cp M2 69 67 118) := by
  have e : ∀ j, j < 118 → cp M2 69 67 118 67 j = M 67 j := by
    intro j hj
    show (if 67 = 67 ∧ j < 118 then M2 69 j else M2 67 j) = _
    rw [if_pos ⟨rfl, hj⟩, h.2]
    show (if 69 = 69 ∧ j < 118 then M 67 j else M 69 j) = _
    rw [if_pos ⟨rfl, hj⟩]
  refine ⟨fun hW => (h.1.1 (hW.ofcp (Or.inl rfl) (Or.inr (Or.inr rfl)))).ofcp (Or.inr (Or.inr rfl)) (Or.inl rfl), e 1 (by decide), e 2 (by decide), fun t ht => e _ (by omega), ?_⟩
  have e8 : cp M2 69 67 118 68 = M2 68 := by
    funext j
    show (if 68 = 67 ∧ j < 118 then M2 69 j else M2 68 j) = _
    rw [if_neg (by omega)]
  rw [e8, h.1.2.2.2.2]
  funext j
  show (if 68 = 69 ∧ j < 118 then M 67 j else M 68 j) = _
  rw [if_neg (by omega)]
theorem Wf.aside {M : mM} (h : Wf M) : Wf (cp M 67 69 118) := h.ofcp (Or.inl rfl) (Or.inr (Or.inr rfl))
theorem dec_int {x : Int32} (h : ¬ x < 0) : (x + (-1)).toInt = x.toInt - 1 := by
  have h0 : (0 : Int) ≤ x.toInt := by
    have := Int32.not_lt.mp h
    simpa using Int32.le_iff_toInt_le.mp this
  have h1 := x.toInt_lt
  have e : (-1 : Int32).toInt = -1 := by decide
  rw [Int32.toInt_add, e]
  rw [Int.bmod_def]
  omega
theorem shl_k : ∀ k, k ≤ 8 → nI 1 <<< (nI k &&& 31) = nI (2 ^ k) := by decide
theorem pow_k {k : Nat} (h : k ≤ 8) : 2 ^ k ≤ 256 := by
  have := Nat.pow_le_pow_right (n := 2) (by decide) h
  omega
section RF
variable {X : mSc} {Q : Option Value → mHp → Prop} {M : mM}
theorem t173 {t a : Nat} (hW : Wf M) (ht : t < 8) (ha : a ≤ 1000) : ∃ v M', mT X 173 [.ref 66, .int (nI t), .int (nI a)] (con M) (some (.int v)) (con M') ∧ Sf M M' := by
  refine ti_of (row := _) rfl (Nat.le_of_ble_eq_true rfl) ?_
  have hm : mMet 173 = some _ := rfl
  refine x_aload_n hm rfl rfl ?_
  refine x_getf hm rfl (gR rfl rfl) ?_
  refine x_aload_n hm rfl rfl ?_
  refine x_getf hm rfl (gR rfl rfl) ?_
  refine x_callS hm rfl rfl (t174 rfl rfl (by decide)) ?_
  refine x_aload_n hm rfl rfl ?_
  refine x_iload_n hm rfl rfl ?_
  refine x_cVv hm rfl rfl (t164 hW.aside (by omega)) (fun M1 r1 => ?_)
  refine x_aload_n hm rfl rfl ?_
  refine x_aload_n hm rfl rfl ?_
  refine x_iload_n hm rfl rfl ?_
  refine x_iconst hm rfl (v := nI 2) (by decide) ?_
  refine x_callV hm rfl rfl (t143 (by omega) (by omega)) ?_
  refine x_callV hm rfl rfl (t175) ?_
  refine x_iret hm rfl rfl (by first | rfl | exact bI_nar | decide) ?_
  exact ⟨_, _, rfl, rfl, Sf.trial r1⟩
theorem t180 {a : Nat} (hW : Wf M) (ha : a ≤ 1000) : ∃ v M', mT X 180 [.ref 66, .int (nI a)] (con M) (some (.int v)) (con M') ∧ Sf M M' := by
  refine ti_of (row := _) rfl (Nat.le_of_ble_eq_true rfl) ?_
  have hm : mMet 180 = some _ := rfl
  refine x_aload_n hm rfl rfl ?_
  refine x_cVe hm rfl rfl (t170 hW) (fun v1 r1 => ?_)
  refine x_istore_n hm rfl rfl ?_
  refine x_aload_n hm rfl rfl ?_
  refine x_getf hm rfl (gR rfl rfl) ?_
  refine x_aload_n hm rfl rfl ?_
  refine x_getf hm rfl (gR rfl rfl) ?_
  refine x_callS hm rfl rfl (t174 rfl rfl (by decide)) ?_
  refine x_aload_n hm rfl rfl ?_
  refine x_iload_n hm rfl rfl ?_
  refine x_cVv hm rfl rfl (t164 hW.aside (by omega)) (fun M2 r2 => ?_)
  refine x_aload_n hm rfl rfl ?_
  refine x_iload_n hm rfl rfl ?_
  refine x_aload_n hm rfl rfl ?_
  refine x_cVe hm rfl rfl (t170 (r2.1.1 hW.aside)) (fun v3 r3 => ?_)
  refine x_isub hm rfl ?_
  refine x_callV hm rfl rfl (t175) ?_
  refine x_iret hm rfl rfl (by first | rfl | exact bI_nar | decide) ?_
  exact ⟨_, _, rfl, rfl, Sf.trial r2⟩
theorem t177 {a1 : Int32} : ∃ v M', mT X 177 [.ref 66, .int a1] (con M) (some (.int v)) (con M') ∧ Fnd M M' := by
  refine ti_of (row := _) rfl (Nat.le_of_ble_eq_true rfl) ?_
  have hm : mMet 177 = some _ := rfl
  refine x_iload_n hm rfl rfl ?_
  refine x_if_ge hm rfl (t := 13) rfl (fun h1 => ?_) (fun h1 => ?_)
  · refine x_iload_n hm rfl rfl ?_
    refine x_iret hm rfl rfl (by first | rfl | exact bI_nar | decide) ?_
    exact ⟨_, _, rfl, rfl, by first | exact r2.2 | exact Fnd.rf⟩
  · refine x_aload_n hm rfl rfl ?_
    refine x_ldcI hm rfl (v := (-1000004 : Int32)) (by decide) ?_
    refine x_cVi hm rfl rfl (t135 (by decide)) (fun v2 M2 r2 => ?_)
    refine x_goto hm rfl (t := 14) rfl ?_
    refine x_iret hm rfl rfl (by first | rfl | exact bI_nar | decide) ?_
    exact ⟨_, _, rfl, rfl, by first | exact r2.2 | exact Fnd.rf⟩
theorem l183 {pl many a : Nat} (hW : Wf M) (ha : a ≤ 1000) (hmb : many ≤ 1000) (hpl : ∀ (M1 : mM) (v : Int32), (v = M 67 pl ∨ ∃ k, k < many ∧ v = nI k) → Sf M1 (mput M1 67 pl v)) (hpb : pl < 118) : ∀ (n k : Nat) (b l : Int32) (x8 : Option Value) (M1 : mM), many - k < n → k ≤ many → Sf M M1 → mEv X (QI (fun _ M' => Sf M M')) 183 18 [some (.ref 66), some (.int (nI pl)), some (.int (nI many)), some (.int (nI a)), some (.int (M 67 pl)), some (.int b), some (.int l), some (.int (nI k)), x8] [] (con M1) := by
  have hm : mMet 183 = some _ := rfl
  intro n
  induction n with
  | zero =>
    intro k b l x8 M1 hkn hkb hS
    omega
  | succ n ih =>
    intro k b l x8 M1 hkn hkb hS
    refine x_iload hm rfl rfl ?_
    refine x_iload_n hm rfl rfl ?_
    refine x_icmp_ge hm rfl (t := 70) rfl (fun h1 => ?_) (fun h1 => ?_)
    · refine x_aload_n hm rfl rfl ?_
      refine x_getf hm rfl (gR rfl rfl) ?_
      refine x_iload_n hm rfl rfl ?_
      refine x_iload hm rfl rfl ?_
      refine x_iast hm rfl (sI rfl (by omega) (by decide)) ?_
      refine x_iload hm rfl rfl ?_
      refine x_iret hm rfl rfl (by first | rfl | exact bI_nar | decide) ?_
      exact ⟨_, _, rfl, rfl, hS.trans (hpl _ _ (Or.inl rfl))⟩
    · have hk : k < many := Nat.lt_of_not_le fun h => h1 (nI_le h (by omega))
      refine x_aload_n hm rfl rfl ?_
      refine x_getf hm rfl (gR rfl rfl) ?_
      refine x_iload_n hm rfl rfl ?_
      refine x_iload hm rfl rfl ?_
      refine x_iast hm rfl (sI rfl (by omega) (by decide)) ?_
      have hS2 := hS.trans (hpl M1 (nI k) (Or.inr ⟨k, hk, rfl⟩))
      refine x_aload_n hm rfl rfl ?_
      refine x_iload_n hm rfl rfl ?_
      refine x_cVi hm rfl rfl (t180 (hS2.1 hW) ha) (fun v2 M2 r2 => ?_)
      refine x_istore hm rfl rfl ?_
      refine x_iload hm rfl rfl ?_
      refine x_iload hm rfl rfl ?_
      refine x_icmp_ge hm rfl (t := 51) rfl (fun h3 => ?_) (fun h3 => ?_)
      · refine x_iload hm rfl rfl ?_
        refine x_istore hm rfl rfl ?_
        refine x_iload hm rfl rfl ?_
        refine x_iload hm rfl rfl ?_
        refine x_lib hm rfl rfl ?_
        dsimp only
        refine x_istore hm rfl rfl ?_
        refine x_iinc hm rfl rfl (v := nI 1) (by decide) rfl ?_
        rw [jI_add]
        refine x_goto hm rfl (t := 18) rfl ?_
        exact ih _ _ _ _ _ (by omega) (by omega) (hS2.trans r2)
      · refine x_iload hm rfl rfl ?_
        refine x_goto hm rfl (t := 53) rfl ?_
        refine x_istore hm rfl rfl ?_
        refine x_iload hm rfl rfl ?_
        refine x_iload hm rfl rfl ?_
        refine x_lib hm rfl rfl ?_
        dsimp only
        refine x_istore hm rfl rfl ?_
        refine x_iinc hm rfl rfl (v := nI 1) (by decide) rfl ?_
        rw [jI_add]
        refine x_goto hm rfl (t := 18) rfl ?_
        exact ih _ _ _ _ _ (by omega) (by omega) (hS2.trans r2)
theorem t183 {pl many a : Nat} (hW : Wf M) (ha : a ≤ 1000) (hmb : many ≤ 1000) (hpl : ∀ (M1 : mM) (v : Int32), (v = M 67 pl ∨ ∃ k, k < many ∧ v = nI k) → Sf M1 (mput M1 67 pl v)) (hpb : pl < 118) : ∃ v M', mT X 183 [.ref 66, .int (nI pl), .int (nI many), .int (nI a)] (con M) (some (.int v)) (con M') ∧ Sf M M' := by
  refine ti_of (row := _) rfl (Nat.le_of_ble_eq_true rfl) ?_
  have hm : mMet 183 = some _ := rfl
  refine x_aload_n hm rfl rfl ?_
  refine x_getf hm rfl (gR rfl rfl) ?_
  refine x_iload_n hm rfl rfl ?_
  refine x_iald hm rfl (lI rfl (by omega) (by decide)) ?_
  refine x_istore hm rfl rfl ?_
  refine x_iconst hm rfl (v := nI 0) (by decide) ?_
  refine x_istore hm rfl rfl ?_
  refine x_ldcI hm rfl (v := nI 2147483647) (by decide) ?_
  refine x_istore hm rfl rfl ?_
  refine x_iconst hm rfl (v := nI 0) (by decide) ?_
  refine x_istore hm rfl rfl ?_
  exact l183 hW ha hmb hpl hpb _ 0 _ _ _ _ (Nat.lt_succ_self _) (Nat.zero_le _) Sf.rf
theorem l186 {t pl many a : Nat} (hW : Wf M) (ht : t < 8) (ha : a ≤ 1000) (hmb : many ≤ 1000) (hpl : ∀ (M1 : mM) (v : Int32), (v = M 67 pl ∨ ∃ k, k < many ∧ v = nI k) → Sf M1 (mput M1 67 pl v)) (hpb : pl < 118) : ∀ (n k : Nat) (b l : Int32) (x8 : Option Value) (M1 : mM), many - k < n → k ≤ many → Sf M M1 → mEv X (QI (fun _ M' => Sf M M')) 186 17 [some (.ref 66), some (.int (nI t)), some (.int (nI pl)), some (.int (nI many)), some (.int (nI a)), some (.int (M 67 pl)), some (.int b), some (.int l), some (.int (nI k)), x8] [] (con M1) := by
  have hm : mMet 186 = some _ := rfl
  intro n
  induction n with
  | zero =>
    intro k b l x8 M1 hkn hkb hS
    omega
  | succ n ih =>
    intro k b l x8 M1 hkn hkb hS
    refine x_iload hm rfl rfl ?_
    refine x_iload_n hm rfl rfl ?_
    refine x_icmp_ge hm rfl (t := 71) rfl (fun h1 => ?_) (fun h1 => ?_)
    · refine x_aload_n hm rfl rfl ?_
      refine x_getf hm rfl (gR rfl rfl) ?_
      refine x_iload_n hm rfl rfl ?_
      refine x_iload hm rfl rfl ?_
      refine x_iast hm rfl (sI rfl (by omega) (by decide)) ?_
      refine x_iload hm rfl rfl ?_
      refine x_iret hm rfl rfl (by first | rfl | exact bI_nar | decide) ?_
      exact ⟨_, _, rfl, rfl, hS.trans (hpl _ _ (Or.inl rfl))⟩
    · have hk : k < many := Nat.lt_of_not_le fun h => h1 (nI_le h (by omega))
      refine x_aload_n hm rfl rfl ?_
      refine x_getf hm rfl (gR rfl rfl) ?_
      refine x_iload_n hm rfl rfl ?_
      refine x_iload hm rfl rfl ?_
      refine x_iast hm rfl (sI rfl (by omega) (by decide)) ?_
      have hS2 := hS.trans (hpl M1 (nI k) (Or.inr ⟨k, hk, rfl⟩))
      refine x_aload_n hm rfl rfl ?_
      refine x_iload_n hm rfl rfl ?_
      refine x_iload hm rfl rfl ?_
      refine x_cVi hm rfl rfl (t173 (hS2.1 hW) ht ha) (fun v2 M2 r2 => ?_)
      refine x_istore hm rfl rfl ?_
      refine x_iload hm rfl rfl ?_
      refine x_iload hm rfl rfl ?_
      refine x_icmp_le hm rfl (t := 52) rfl (fun h3 => ?_) (fun h3 => ?_)
      · refine x_iload hm rfl rfl ?_
        refine x_istore hm rfl rfl ?_
        refine x_iload hm rfl rfl ?_
        refine x_iload hm rfl rfl ?_
        refine x_lib hm rfl rfl ?_
        dsimp only
        refine x_istore hm rfl rfl ?_
        refine x_iinc hm rfl rfl (v := nI 1) (by decide) rfl ?_
        rw [jI_add]
        refine x_goto hm rfl (t := 17) rfl ?_
        exact ih _ _ _ _ _ (by omega) (by omega) (hS2.trans r2)
      · refine x_iload hm rfl rfl ?_
        refine x_goto hm rfl (t := 54) rfl ?_
        refine x_istore hm rfl rfl ?_
        refine x_iload hm rfl rfl ?_
        refine x_iload hm rfl rfl ?_
        refine x_lib hm rfl rfl ?_
        dsimp only
        refine x_istore hm rfl rfl ?_
        refine x_iinc hm rfl rfl (v := nI 1) (by decide) rfl ?_
        rw [jI_add]
        refine x_goto hm rfl (t := 17) rfl ?_
        exact ih _ _ _ _ _ (by omega) (by omega) (hS2.trans r2)
theorem t186 {t pl many a : Nat} (hW : Wf M) (ht : t < 8) (ha : a ≤ 1000) (hmb : many ≤ 1000) (hpl : ∀ (M1 : mM) (v : Int32), (v = M 67 pl ∨ ∃ k, k < many ∧ v = nI k) → Sf M1 (mput M1 67 pl v)) (hpb : pl < 118) : ∃ v M', mT X 186 [.ref 66, .int (nI t), .int (nI pl), .int (nI many), .int (nI a)] (con M) (some (.int v)) (con M') ∧ Sf M M' := by
  refine ti_of (row := _) rfl (Nat.le_of_ble_eq_true rfl) ?_
  have hm : mMet 186 = some _ := rfl
  refine x_aload_n hm rfl rfl ?_
  refine x_getf hm rfl (gR rfl rfl) ?_
  refine x_iload_n hm rfl rfl ?_
  refine x_iald hm rfl (lI rfl (by omega) (by decide)) ?_
  refine x_istore hm rfl rfl ?_
  refine x_iconst hm rfl (v := (-1 : Int32)) (by decide) ?_
  refine x_istore hm rfl rfl ?_
  refine x_iconst hm rfl (v := (-1 : Int32)) (by decide) ?_
  refine x_istore hm rfl rfl ?_
  refine x_iconst hm rfl (v := nI 0) (by decide) ?_
  refine x_istore hm rfl rfl ?_
  exact l186 hW ht ha hmb hpl hpb _ 0 _ _ _ _ (Nat.lt_succ_self _) (Nat.zero_le _) Sf.rf
theorem t172 {a1 a2 : Int32} (hI : Inv M) : ∃ v M', mT X 172 [.ref 66, .int a1, .int a2] (con M) (some (.int v)) (con M') ∧ Inv M' := by
  refine ti_of (row := _) rfl (Nat.le_of_ble_eq_true rfl) ?_
  have hm : mMet 172 = some _ := rfl
  obtain ⟨nt, hn8, hnt⟩ := hI.1.nt
  refine x_aload_n hm rfl rfl ?_
  refine x_iload_n hm rfl rfl ?_
  refine x_callV hm rfl rfl (t139) ?_
  refine x_if_eq hm rfl (t := 27) rfl (fun h1 => ?_) (fun h1 => ?_)
  · refine x_aload_n hm rfl rfl ?_
    refine x_ldcI hm rfl (v := (-1000001 : Int32)) (by decide) ?_
    refine x_cVi hm rfl rfl (t135 (by decide)) (fun v2 M2 r2 => ?_)
    refine x_iret hm rfl rfl (by first | rfl | exact bI_nar | decide) ?_
    exact ⟨_, _, rfl, rfl, by first | exact hI | exact (r1.2.inv hI) | exact (r2.2.inv hI) | exact (r3.2.inv hI) | exact (r4.2.inv hI) | exact (r5.2.inv hI) | exact (r6.2.inv hI) | exact (r7.2.inv hI) | exact (r8.2.inv hI) | exact (r1.inv hI) | exact (r2.inv hI) | exact (r3.inv hI) | exact (r4.inv hI) | exact (r5.inv hI) | exact (r6.inv hI) | exact (r7.inv hI) | exact (r8.inv hI)⟩
  · obtain ⟨t, ht, rfl⟩ := in_k hnt (by omega) (bI_ne0 h1)
    refine x_iload_n hm rfl rfl ?_
    refine x_iconst hm rfl (v := nI 0) (by decide) ?_
    refine x_bipush hm rfl (v := nI 100) (by decide) ?_
    refine x_callS hm rfl rfl (t133) ?_
    refine x_if_eq hm rfl (t := 27) rfl (fun h3 => ?_) (fun h3 => ?_)
    · refine x_aload_n hm rfl rfl ?_
      refine x_ldcI hm rfl (v := (-1000001 : Int32)) (by decide) ?_
      refine x_cVi hm rfl rfl (t135 (by decide)) (fun v4 M4 r4 => ?_)
      refine x_iret hm rfl rfl (by first | rfl | exact bI_nar | decide) ?_
      exact ⟨_, _, rfl, rfl, by first | exact hI | exact (r1.2.inv hI) | exact (r2.2.inv hI) | exact (r3.2.inv hI) | exact (r4.2.inv hI) | exact (r5.2.inv hI) | exact (r6.2.inv hI) | exact (r7.2.inv hI) | exact (r8.2.inv hI) | exact (r1.inv hI) | exact (r2.inv hI) | exact (r3.inv hI) | exact (r4.inv hI) | exact (r5.inv hI) | exact (r6.inv hI) | exact (r7.inv hI) | exact (r8.inv hI)⟩
    · obtain ⟨a, ha, rfl⟩ := le_k (by omega) (bI_ne0 h3)
      refine x_aload_n hm rfl rfl ?_
      refine x_iload_n hm rfl rfl ?_
      refine x_iload_n hm rfl rfl ?_
      refine x_cVi hm rfl rfl (t173 hI.1 (by omega) (by omega)) (fun v5 M5 r5 => ?_)
      refine x_goto hm rfl (t := 33) rfl ?_
      refine x_iret hm rfl rfl (by first | rfl | exact bI_nar | decide) ?_
      exact ⟨_, _, rfl, rfl, by first | exact hI | exact (r1.2.inv hI) | exact (r2.2.inv hI) | exact (r3.2.inv hI) | exact (r4.2.inv hI) | exact (r5.2.inv hI) | exact (r6.2.inv hI) | exact (r7.2.inv hI) | exact (r8.2.inv hI) | exact (r1.inv hI) | exact (r2.inv hI) | exact (r3.inv hI) | exact (r4.inv hI) | exact (r5.inv hI) | exact (r6.inv hI) | exact (r7.inv hI) | exact (r8.inv hI)⟩
theorem t178 {a1 : Int32} (hI : Inv M) : ∃ v M', mT X 178 [.ref 66, .int a1] (con M) (some (.int v)) (con M') ∧ Inv M' := by
  refine ti_of (row := _) rfl (Nat.le_of_ble_eq_true rfl) ?_
  have hm : mMet 178 = some _ := rfl
  refine x_iload_n hm rfl rfl ?_
  refine x_iconst hm rfl (v := nI 0) (by decide) ?_
  refine x_bipush hm rfl (v := nI 100) (by decide) ?_
  refine x_callS hm rfl rfl (t133) ?_
  refine x_if_ne hm rfl (t := 17) rfl (fun h1 => ?_) (fun h1 => ?_)
  · obtain ⟨a, ha, rfl⟩ := le_k (by omega) (bI_ne0 h1)
    refine x_aload_n hm rfl rfl ?_
    refine x_getf hm rfl (gR rfl rfl) ?_
    refine x_aload_n hm rfl rfl ?_
    refine x_getf hm rfl (gR rfl rfl) ?_
    refine x_callS hm rfl rfl (t174 rfl rfl (by decide)) ?_
    refine x_aload_n hm rfl rfl ?_
    refine x_iload_n hm rfl rfl ?_
    refine x_cVv hm rfl rfl (t164 hI.1.aside (by omega)) (fun M2 r2 => ?_)
    refine x_aload_n hm rfl rfl ?_
    refine x_aload_n hm rfl rfl ?_
    refine x_cVe hm rfl rfl (t167 (r2.1.1 hI.1.aside)) (fun v3 r3 => ?_)
    refine x_callV hm rfl rfl (t175) ?_
    refine x_iret hm rfl rfl (by first | rfl | exact bI_nar | decide) ?_
    exact ⟨_, _, rfl, rfl, by first | exact hI | exact (r4.2.inv hI) | exact (r3.2.inv hI) | exact (r5.2.inv hI) | exact ((Sf.trial r2).inv hI)⟩
  · refine x_aload_n hm rfl rfl ?_
    refine x_ldcI hm rfl (v := (-1000001 : Int32)) (by decide) ?_
    refine x_cVi hm rfl rfl (t135 (by decide)) (fun v4 M4 r4 => ?_)
    refine x_iret hm rfl rfl (by first | rfl | exact bI_nar | decide) ?_
    exact ⟨_, _, rfl, rfl, by first | exact hI | exact (r4.2.inv hI) | exact (r3.2.inv hI) | exact (r5.2.inv hI) | exact ((Sf.trial r2).inv hI)⟩
theorem t179 {a1 : Int32} (hI : Inv M) : ∃ v M', mT X 179 [.ref 66, .int a1] (con M) (some (.int v)) (con M') ∧ Inv M' := by
  refine ti_of (row := _) rfl (Nat.le_of_ble_eq_true rfl) ?_
  have hm : mMet 179 = some _ := rfl
  refine x_iload_n hm rfl rfl ?_
  refine x_iconst hm rfl (v := nI 0) (by decide) ?_
  refine x_bipush hm rfl (v := nI 100) (by decide) ?_
  refine x_callS hm rfl rfl (t133) ?_
  refine x_if_eq hm rfl (t := 18) rfl (fun h1 => ?_) (fun h1 => ?_)
  · refine x_aload_n hm rfl rfl ?_
    refine x_ldcI hm rfl (v := (-1000001 : Int32)) (by decide) ?_
    refine x_cVi hm rfl rfl (t135 (by decide)) (fun v2 M2 r2 => ?_)
    refine x_iret hm rfl rfl (by first | rfl | exact bI_nar | decide) ?_
    exact ⟨_, _, rfl, rfl, by first | exact hI | exact (r1.2.inv hI) | exact (r2.2.inv hI) | exact (r3.2.inv hI) | exact (r4.2.inv hI) | exact (r5.2.inv hI) | exact (r6.2.inv hI) | exact (r7.2.inv hI) | exact (r8.2.inv hI) | exact (r1.inv hI) | exact (r2.inv hI) | exact (r3.inv hI) | exact (r4.inv hI) | exact (r5.inv hI) | exact (r6.inv hI) | exact (r7.inv hI) | exact (r8.inv hI)⟩
  · obtain ⟨a, ha, rfl⟩ := le_k (by omega) (bI_ne0 h1)
    refine x_aload_n hm rfl rfl ?_
    refine x_iload_n hm rfl rfl ?_
    refine x_cVi hm rfl rfl (t180 hI.1 (by omega)) (fun v3 M3 r3 => ?_)
    refine x_goto hm rfl (t := 24) rfl ?_
    refine x_iret hm rfl rfl (by first | rfl | exact bI_nar | decide) ?_
    exact ⟨_, _, rfl, rfl, by first | exact hI | exact (r1.2.inv hI) | exact (r2.2.inv hI) | exact (r3.2.inv hI) | exact (r4.2.inv hI) | exact (r5.2.inv hI) | exact (r6.2.inv hI) | exact (r7.2.inv hI) | exact (r8.2.inv hI) | exact (r1.inv hI) | exact (r2.inv hI) | exact (r3.inv hI) | exact (r4.inv hI) | exact (r5.inv hI) | exact (r6.inv hI) | exact (r7.inv hI) | exact (r8.inv hI)⟩
theorem t182 {a1 a2 : Int32} (hI : Inv M) : ∃ v M', mT X 182 [.ref 66, .int a1, .int a2] (con M) (some (.int v)) (con M') ∧ Inv M' := by
  refine ti_of (row := _) rfl (Nat.le_of_ble_eq_true rfl) ?_
  have hm : mMet 182 = some _ := rfl
  obtain ⟨np, hp8, hnp⟩ := hI.1.np
  refine x_aload_n hm rfl rfl ?_
  refine x_iload_n hm rfl rfl ?_
  refine x_callV hm rfl rfl (t153) ?_
  refine x_if_eq hm rfl (t := 33) rfl (fun h1 => ?_) (fun h1 => ?_)
  · refine x_aload_n hm rfl rfl ?_
    refine x_ldcI hm rfl (v := (-1000001 : Int32)) (by decide) ?_
    refine x_cVi hm rfl rfl (t135 (by decide)) (fun v2 M2 r2 => ?_)
    refine x_iret hm rfl rfl (by first | rfl | exact bI_nar | decide) ?_
    exact ⟨_, _, rfl, rfl, by first | exact hI | exact (r1.2.inv hI) | exact (r2.2.inv hI) | exact (r3.2.inv hI) | exact (r4.2.inv hI) | exact (r5.2.inv hI) | exact (r6.2.inv hI) | exact (r7.2.inv hI) | exact (r8.2.inv hI) | exact (r1.inv hI) | exact (r2.inv hI) | exact (r3.inv hI) | exact (r4.inv hI) | exact (r5.inv hI) | exact (r6.inv hI) | exact (r7.inv hI) | exact (r8.inv hI)⟩
  · obtain ⟨p, hp, rfl⟩ := in_k hnp (by omega) (bI_ne0 h1)
    refine x_iload_n hm rfl rfl ?_
    refine x_iconst hm rfl (v := nI 0) (by decide) ?_
    refine x_bipush hm rfl (v := nI 60) (by decide) ?_
    refine x_callS hm rfl rfl (t133) ?_
    refine x_if_eq hm rfl (t := 33) rfl (fun h3 => ?_) (fun h3 => ?_)
    · refine x_aload_n hm rfl rfl ?_
      refine x_ldcI hm rfl (v := (-1000001 : Int32)) (by decide) ?_
      refine x_cVi hm rfl rfl (t135 (by decide)) (fun v4 M4 r4 => ?_)
      refine x_iret hm rfl rfl (by first | rfl | exact bI_nar | decide) ?_
      exact ⟨_, _, rfl, rfl, by first | exact hI | exact (r1.2.inv hI) | exact (r2.2.inv hI) | exact (r3.2.inv hI) | exact (r4.2.inv hI) | exact (r5.2.inv hI) | exact (r6.2.inv hI) | exact (r7.2.inv hI) | exact (r8.2.inv hI) | exact (r1.inv hI) | exact (r2.inv hI) | exact (r3.inv hI) | exact (r4.inv hI) | exact (r5.inv hI) | exact (r6.inv hI) | exact (r7.inv hI) | exact (r8.inv hI)⟩
    · obtain ⟨a, ha, rfl⟩ := le_k (by omega) (bI_ne0 h3)
      refine x_aload_n hm rfl rfl ?_
      refine x_iload_n hm rfl rfl ?_
      refine x_iconst hm rfl (v := nI 0) (by decide) ?_
      refine x_callS hm rfl rfl (t142) ?_
      refine x_bipush hm rfl (v := nI 7) (by decide) ?_
      refine x_iload_n hm rfl rfl ?_
      refine x_cVi hm rfl rfl (t183 hI.1 (by omega) (by omega) (fun _ _ _ => Sf.person (by omega) (by decide)) (by omega)) (fun v5 M5 r5 => ?_)
      refine x_goto hm rfl (t := 39) rfl ?_
      refine x_iret hm rfl rfl (by first | rfl | exact bI_nar | decide) ?_
      exact ⟨_, _, rfl, rfl, by first | exact hI | exact (r1.2.inv hI) | exact (r2.2.inv hI) | exact (r3.2.inv hI) | exact (r4.2.inv hI) | exact (r5.2.inv hI) | exact (r6.2.inv hI) | exact (r7.2.inv hI) | exact (r8.2.inv hI) | exact (r1.inv hI) | exact (r2.inv hI) | exact (r3.inv hI) | exact (r4.inv hI) | exact (r5.inv hI) | exact (r6.inv hI) | exact (r7.inv hI) | exact (r8.inv hI)⟩
theorem t184 {a1 a2 : Int32} (hI : Inv M) : ∃ v M', mT X 184 [.ref 66, .int a1, .int a2] (con M) (some (.int v)) (con M') ∧ Inv M' := by
  refine ti_of (row := _) rfl (Nat.le_of_ble_eq_true rfl) ?_
  have hm : mMet 184 = some _ := rfl
  obtain ⟨np, hp8, hnp⟩ := hI.1.np
  refine x_aload_n hm rfl rfl ?_
  refine x_iload_n hm rfl rfl ?_
  refine x_callV hm rfl rfl (t153) ?_
  refine x_if_eq hm rfl (t := 33) rfl (fun h1 => ?_) (fun h1 => ?_)
  · refine x_aload_n hm rfl rfl ?_
    refine x_ldcI hm rfl (v := (-1000001 : Int32)) (by decide) ?_
    refine x_cVi hm rfl rfl (t135 (by decide)) (fun v2 M2 r2 => ?_)
    refine x_iret hm rfl rfl (by first | rfl | exact bI_nar | decide) ?_
    exact ⟨_, _, rfl, rfl, by first | exact hI | exact (r1.2.inv hI) | exact (r2.2.inv hI) | exact (r3.2.inv hI) | exact (r4.2.inv hI) | exact (r5.2.inv hI) | exact (r6.2.inv hI) | exact (r7.2.inv hI) | exact (r8.2.inv hI) | exact (r1.inv hI) | exact (r2.inv hI) | exact (r3.inv hI) | exact (r4.inv hI) | exact (r5.inv hI) | exact (r6.inv hI) | exact (r7.inv hI) | exact (r8.inv hI)⟩
  · obtain ⟨p, hp, rfl⟩ := in_k hnp (by omega) (bI_ne0 h1)
    refine x_iload_n hm rfl rfl ?_
    refine x_iconst hm rfl (v := nI 0) (by decide) ?_
    refine x_bipush hm rfl (v := nI 60) (by decide) ?_
    refine x_callS hm rfl rfl (t133) ?_
    refine x_if_eq hm rfl (t := 33) rfl (fun h3 => ?_) (fun h3 => ?_)
    · refine x_aload_n hm rfl rfl ?_
      refine x_ldcI hm rfl (v := (-1000001 : Int32)) (by decide) ?_
      refine x_cVi hm rfl rfl (t135 (by decide)) (fun v4 M4 r4 => ?_)
      refine x_iret hm rfl rfl (by first | rfl | exact bI_nar | decide) ?_
      exact ⟨_, _, rfl, rfl, by first | exact hI | exact (r1.2.inv hI) | exact (r2.2.inv hI) | exact (r3.2.inv hI) | exact (r4.2.inv hI) | exact (r5.2.inv hI) | exact (r6.2.inv hI) | exact (r7.2.inv hI) | exact (r8.2.inv hI) | exact (r1.inv hI) | exact (r2.inv hI) | exact (r3.inv hI) | exact (r4.inv hI) | exact (r5.inv hI) | exact (r6.inv hI) | exact (r7.inv hI) | exact (r8.inv hI)⟩
    · obtain ⟨a, ha, rfl⟩ := le_k (by omega) (bI_ne0 h3)
      refine x_aload_n hm rfl rfl ?_
      refine x_iload_n hm rfl rfl ?_
      refine x_iconst hm rfl (v := nI 2) (by decide) ?_
      refine x_callS hm rfl rfl (t142) ?_
      refine x_bipush hm rfl (v := nI 16) (by decide) ?_
      refine x_iload_n hm rfl rfl ?_
      refine x_cVi hm rfl rfl (t183 hI.1 (by omega) (by omega) (fun _ _ _ => Sf.person (by omega) (by decide)) (by omega)) (fun v5 M5 r5 => ?_)
      refine x_goto hm rfl (t := 39) rfl ?_
      refine x_iret hm rfl rfl (by first | rfl | exact bI_nar | decide) ?_
      exact ⟨_, _, rfl, rfl, by first | exact hI | exact (r1.2.inv hI) | exact (r2.2.inv hI) | exact (r3.2.inv hI) | exact (r4.2.inv hI) | exact (r5.2.inv hI) | exact (r6.2.inv hI) | exact (r7.2.inv hI) | exact (r8.2.inv hI) | exact (r1.inv hI) | exact (r2.inv hI) | exact (r3.inv hI) | exact (r4.inv hI) | exact (r5.inv hI) | exact (r6.inv hI) | exact (r7.inv hI) | exact (r8.inv hI)⟩
end RF
end
section
/-! ===== the reference: more trials ===== -/
section RG
variable {X : mSc} {Q : Option Value → mHp → Prop} {M : mM}
theorem ev_inv {m pc : Nat} {L : mLoc} {st : List Value} {D : mHp} (hI : Inv M) (h : mEv X (QI (fun _ M' => Sf M M')) m pc L st D) : mEv X (QI (fun _ M' => Inv M')) m pc L st D := by
  obtain ⟨n, r, D, g1, v, M2, g2, g3, g4⟩ := h
  exact ⟨n, r, D, g1, v, M2, g2, g3, g4.inv hI⟩
theorem t185 {a1 a2 : Int32} (hI : Inv M) : ∃ v M', mT X 185 [.ref 66, .int a1, .int a2] (con M) (some (.int v)) (con M') ∧ Inv M' := by
  refine ti_of (row := _) rfl (Nat.le_of_ble_eq_true rfl) ?_
  have hm : mMet 185 = some _ := rfl
  obtain ⟨nt, hn8, hnt⟩ := hI.1.nt
  refine x_aload_n hm rfl rfl ?_
  refine x_iload_n hm rfl rfl ?_
  refine x_callV hm rfl rfl (t139) ?_
  refine x_if_eq hm rfl (t := 34) rfl (fun h1 => ?_) (fun h1 => ?_)
  · refine x_aload_n hm rfl rfl ?_
    refine x_ldcI hm rfl (v := (-1000001 : Int32)) (by decide) ?_
    refine x_cVi hm rfl rfl (t135 (by decide)) (fun v2 M2 r2 => ?_)
    refine x_iret hm rfl rfl (by first | rfl | exact bI_nar | decide) ?_
    exact ⟨_, _, rfl, rfl, by first | exact hI | exact (r1.2.inv hI) | exact (r2.2.inv hI) | exact (r3.2.inv hI) | exact (r4.2.inv hI) | exact (r5.2.inv hI) | exact (r6.2.inv hI) | exact (r7.2.inv hI) | exact (r8.2.inv hI) | exact (r1.inv hI) | exact (r2.inv hI) | exact (r3.inv hI) | exact (r4.inv hI) | exact (r5.inv hI) | exact (r6.inv hI) | exact (r7.inv hI) | exact (r8.inv hI)⟩
  · obtain ⟨t, ht, rfl⟩ := in_k hnt (by omega) (bI_ne0 h1)
    refine x_iload_n hm rfl rfl ?_
    refine x_iconst hm rfl (v := nI 0) (by decide) ?_
    refine x_bipush hm rfl (v := nI 60) (by decide) ?_
    refine x_callS hm rfl rfl (t133) ?_
    refine x_if_eq hm rfl (t := 34) rfl (fun h3 => ?_) (fun h3 => ?_)
    · refine x_aload_n hm rfl rfl ?_
      refine x_ldcI hm rfl (v := (-1000001 : Int32)) (by decide) ?_
      refine x_cVi hm rfl rfl (t135 (by decide)) (fun v4 M4 r4 => ?_)
      refine x_iret hm rfl rfl (by first | rfl | exact bI_nar | decide) ?_
      exact ⟨_, _, rfl, rfl, by first | exact hI | exact (r1.2.inv hI) | exact (r2.2.inv hI) | exact (r3.2.inv hI) | exact (r4.2.inv hI) | exact (r5.2.inv hI) | exact (r6.2.inv hI) | exact (r7.2.inv hI) | exact (r8.2.inv hI) | exact (r1.inv hI) | exact (r2.inv hI) | exact (r3.inv hI) | exact (r4.inv hI) | exact (r5.inv hI) | exact (r6.inv hI) | exact (r7.inv hI) | exact (r8.inv hI)⟩
    · obtain ⟨a, ha, rfl⟩ := le_k (by omega) (bI_ne0 h3)
      refine x_aload_n hm rfl rfl ?_
      refine x_iload_n hm rfl rfl ?_
      refine x_iload_n hm rfl rfl ?_
      refine x_iconst hm rfl (v := nI 1) (by decide) ?_
      refine x_callS hm rfl rfl (t137) ?_
      refine x_bipush hm rfl (v := nI 16) (by decide) ?_
      refine x_iload_n hm rfl rfl ?_
      refine x_cVi hm rfl rfl (t186 hI.1 (by omega) (by omega) (by omega) (fun _ _ _ => Sf.thing (by omega) (by decide) (by decide) (by decide)) (by omega)) (fun v5 M5 r5 => ?_)
      refine x_goto hm rfl (t := 40) rfl ?_
      refine x_iret hm rfl rfl (by first | rfl | exact bI_nar | decide) ?_
      exact ⟨_, _, rfl, rfl, by first | exact hI | exact (r1.2.inv hI) | exact (r2.2.inv hI) | exact (r3.2.inv hI) | exact (r4.2.inv hI) | exact (r5.2.inv hI) | exact (r6.2.inv hI) | exact (r7.2.inv hI) | exact (r8.2.inv hI) | exact (r1.inv hI) | exact (r2.inv hI) | exact (r3.inv hI) | exact (r4.inv hI) | exact (r5.inv hI) | exact (r6.inv hI) | exact (r7.inv hI) | exact (r8.inv hI)⟩
theorem t187 {a1 a2 : Int32} (hI : Inv M) : ∃ v M', mT X 187 [.ref 66, .int a1, .int a2] (con M) (some (.int v)) (con M') ∧ Inv M' := by
  refine ti_of (row := _) rfl (Nat.le_of_ble_eq_true rfl) ?_
  have hm : mMet 187 = some _ := rfl
  obtain ⟨nt, hn8, hnt⟩ := hI.1.nt
  obtain ⟨np, hp8, hnp⟩ := hI.1.np
  refine x_aload_n hm rfl rfl ?_
  refine x_iload_n hm rfl rfl ?_
  refine x_callV hm rfl rfl (t139) ?_
  refine x_if_eq hm rfl (t := 42) rfl (fun h1 => ?_) (fun h1 => ?_)
  · refine x_aload_n hm rfl rfl ?_
    refine x_ldcI hm rfl (v := (-1000001 : Int32)) (by decide) ?_
    refine x_cVi hm rfl rfl (t135 (by decide)) (fun v2 M2 r2 => ?_)
    refine x_iret hm rfl rfl (by first | rfl | exact bI_nar | decide) ?_
    exact ⟨_, _, rfl, rfl, by first | exact hI | exact (r1.2.inv hI) | exact (r2.2.inv hI) | exact (r3.2.inv hI) | exact (r4.2.inv hI) | exact (r5.2.inv hI) | exact (r6.2.inv hI) | exact (r7.2.inv hI) | exact (r8.2.inv hI) | exact (r1.inv hI) | exact (r2.inv hI) | exact (r3.inv hI) | exact (r4.inv hI) | exact (r5.inv hI) | exact (r6.inv hI) | exact (r7.inv hI) | exact (r8.inv hI) | exact ((r3.trans r4.sf).inv hI) | exact ((r4.trans r5.sf).inv hI) | exact ((r2.trans r3.sf).inv hI) | exact ((r5.trans r6.sf).inv hI)⟩
  · obtain ⟨t, ht, rfl⟩ := in_k hnt (by omega) (bI_ne0 h1)
    refine x_iload_n hm rfl rfl ?_
    refine x_iconst hm rfl (v := nI 0) (by decide) ?_
    refine x_bipush hm rfl (v := nI 60) (by decide) ?_
    refine x_callS hm rfl rfl (t133) ?_
    refine x_if_eq hm rfl (t := 42) rfl (fun h3 => ?_) (fun h3 => ?_)
    · refine x_aload_n hm rfl rfl ?_
      refine x_ldcI hm rfl (v := (-1000001 : Int32)) (by decide) ?_
      refine x_cVi hm rfl rfl (t135 (by decide)) (fun v4 M4 r4 => ?_)
      refine x_iret hm rfl rfl (by first | rfl | exact bI_nar | decide) ?_
      exact ⟨_, _, rfl, rfl, by first | exact hI | exact (r1.2.inv hI) | exact (r2.2.inv hI) | exact (r3.2.inv hI) | exact (r4.2.inv hI) | exact (r5.2.inv hI) | exact (r6.2.inv hI) | exact (r7.2.inv hI) | exact (r8.2.inv hI) | exact (r1.inv hI) | exact (r2.inv hI) | exact (r3.inv hI) | exact (r4.inv hI) | exact (r5.inv hI) | exact (r6.inv hI) | exact (r7.inv hI) | exact (r8.inv hI) | exact ((r3.trans r4.sf).inv hI) | exact ((r4.trans r5.sf).inv hI) | exact ((r2.trans r3.sf).inv hI) | exact ((r5.trans r6.sf).inv hI)⟩
    · obtain ⟨a, ha, rfl⟩ := le_k (by omega) (bI_ne0 h3)
      refine x_aload_n hm rfl rfl ?_
      refine x_aload_n hm rfl rfl ?_
      refine x_iload_n hm rfl rfl ?_
      refine x_iload_n hm rfl rfl ?_
      refine x_iconst hm rfl (v := nI 4) (by decide) ?_
      refine x_callS hm rfl rfl (t137) ?_
      refine x_aload_n hm rfl rfl ?_
      refine x_getf hm rfl (gR rfl rfl) ?_
      refine x_iconst hm rfl (v := nI 2) (by decide) ?_
      refine x_iald hm rfl (lI rfl (by omega) (by decide)) ?_
      rw [hnp]
      refine x_iload_n hm rfl rfl ?_
      refine x_cVi hm rfl rfl (t186 hI.1 (by omega) (by omega) (by omega) (fun M1 v hv => Sf.owner (by omega) (by
      rcases hv with rfl | ⟨k, hk, rfl⟩
      · exact hI.1.owner (by omega)
      · exact okI2 (by omega))) (by omega)) (fun v5 M5 r5 => ?_)
      refine x_cVi hm rfl rfl (t177) (fun v6 M6 r6 => ?_)
      refine x_goto hm rfl (t := 48) rfl ?_
      refine x_iret hm rfl rfl (by first | rfl | exact bI_nar | decide) ?_
      exact ⟨_, _, rfl, rfl, by first | exact hI | exact (r1.2.inv hI) | exact (r2.2.inv hI) | exact (r3.2.inv hI) | exact (r4.2.inv hI) | exact (r5.2.inv hI) | exact (r6.2.inv hI) | exact (r7.2.inv hI) | exact (r8.2.inv hI) | exact (r1.inv hI) | exact (r2.inv hI) | exact (r3.inv hI) | exact (r4.inv hI) | exact (r5.inv hI) | exact (r6.inv hI) | exact (r7.inv hI) | exact (r8.inv hI) | exact ((r3.trans r4.sf).inv hI) | exact ((r4.trans r5.sf).inv hI) | exact ((r2.trans r3.sf).inv hI) | exact ((r5.trans r6.sf).inv hI)⟩
theorem l188 {a nb : Nat} (hW : Wf M) (ha : a ≤ 1000) (hnb : M 67 2 = nI nb) (h8 : nb ≤ 8) : ∀ (n k : Nat) (b l : Int32) (x5 : Option Value) (M1 : mM), nb - k < n → k ≤ nb → Sf M M1 → mEv X (QI (fun _ M' => Sf M M')) 188 25 [some (.ref 66), some (.int (nI a)), some (.int b), some (.int l), some (.int (nI k)), x5] [] (con M1) := by
  have hm : mMet 188 = some _ := rfl
  intro n
  induction n with
  | zero =>
    intro k b l x5 M1 hkn hkb hS
    omega
  | succ n ih =>
    intro k b l x5 M1 hkn hkb hS
    have hn1 : M1 67 2 = nI nb := hS.2.2.1.trans hnb
    refine x_iload hm rfl rfl ?_
    refine x_aload_n hm rfl rfl ?_
    refine x_getf hm rfl (gR rfl rfl) ?_
    refine x_iconst hm rfl (v := nI 2) (by decide) ?_
    refine x_iald hm rfl (lI rfl (by omega) (by decide)) ?_
    rw [hn1]
    refine x_icmp_ge hm rfl (t := 75) rfl (fun h1 => ?_) (fun h1 => ?_)
    · refine x_aload_n hm rfl rfl ?_
      refine x_iconst hm rfl (v := (-1 : Int32)) (by decide) ?_
      refine x_putf hm rfl (pI rfl rfl (by decide) (by first | exact mFit_int | rfl | decide) rfl) ?_
      have hS3 := hS.trans (Sf.put0 (M := M1) (v := -1) (kd66 (by decide : (6 : Nat) ≠ 9)) (by decide) (by decide))
      refine x_aload_n hm rfl rfl ?_
      refine x_iload_n hm rfl rfl ?_
      refine x_cVi hm rfl rfl (t177) (fun v2 M2 r2 => ?_)
      refine x_iret hm rfl rfl (by first | rfl | exact bI_nar | decide) ?_
      exact ⟨_, _, rfl, rfl, hS3.trans r2.sf⟩
    · have hk : k < nb := Nat.lt_of_not_le fun h => h1 (nI_le h (by omega))
      refine x_aload_n hm rfl rfl ?_
      refine x_iload hm rfl rfl ?_
      refine x_putf hm rfl (pI rfl rfl (by decide) (by first | exact mFit_int | rfl | decide) rfl) ?_
      have hS2 := hS.trans (Sf.put0 (M := M1) (v := nI k) (kd66 (by decide : (6 : Nat) ≠ 9)) (by decide) (by decide))
      refine x_aload_n hm rfl rfl ?_
      refine x_iload_n hm rfl rfl ?_
      refine x_cVi hm rfl rfl (t180 (hS2.1 hW) ha) (fun v3 M3 r3 => ?_)
      refine x_istore hm rfl rfl ?_
      refine x_iload hm rfl rfl ?_
      refine x_iload_n hm rfl rfl ?_
      refine x_icmp_ge hm rfl (t := 60) rfl (fun h4 => ?_) (fun h4 => ?_)
      · refine x_iload_n hm rfl rfl ?_
        refine x_istore_n hm rfl rfl ?_
        refine x_iload_n hm rfl rfl ?_
        refine x_iload hm rfl rfl ?_
        refine x_lib hm rfl rfl ?_
        dsimp only
        refine x_istore_n hm rfl rfl ?_
        refine x_iinc hm rfl rfl (v := nI 1) (by decide) rfl ?_
        rw [jI_add]
        refine x_goto hm rfl (t := 25) rfl ?_
        exact ih _ _ _ _ _ (by omega) (by omega) (hS2.trans r3)
      · refine x_iload hm rfl rfl ?_
        refine x_goto hm rfl (t := 61) rfl ?_
        refine x_istore_n hm rfl rfl ?_
        refine x_iload_n hm rfl rfl ?_
        refine x_iload hm rfl rfl ?_
        refine x_lib hm rfl rfl ?_
        dsimp only
        refine x_istore_n hm rfl rfl ?_
        refine x_iinc hm rfl rfl (v := nI 1) (by decide) rfl ?_
        rw [jI_add]
        refine x_goto hm rfl (t := 25) rfl ?_
        exact ih _ _ _ _ _ (by omega) (by omega) (hS2.trans r3)
theorem t188 {a1 : Int32} (hI : Inv M) : ∃ v M', mT X 188 [.ref 66, .int a1] (con M) (some (.int v)) (con M') ∧ Inv M' := by
  refine ti_of (row := _) rfl (Nat.le_of_ble_eq_true rfl) ?_
  have hm : mMet 188 = some _ := rfl
  obtain ⟨np, hp8, hnp⟩ := hI.1.np
  refine x_iload_n hm rfl rfl ?_
  refine x_iconst hm rfl (v := nI 0) (by decide) ?_
  refine x_bipush hm rfl (v := nI 60) (by decide) ?_
  refine x_callS hm rfl rfl (t133) ?_
  refine x_if_ne hm rfl (t := 17) rfl (fun h1 => ?_) (fun h1 => ?_)
  · obtain ⟨a, ha, rfl⟩ := le_k (by omega) (bI_ne0 h1)
    refine x_iconst hm rfl (v := (-1 : Int32)) (by decide) ?_
    refine x_istore_n hm rfl rfl ?_
    refine x_ldcI hm rfl (v := nI 2147483647) (by decide) ?_
    refine x_istore_n hm rfl rfl ?_
    refine x_iconst hm rfl (v := nI 0) (by decide) ?_
    refine x_istore hm rfl rfl ?_
    exact ev_inv hI (l188 hI.1 (by omega) hnp hp8 _ 0 _ _ _ _ (Nat.lt_succ_self _) (Nat.zero_le _) Sf.rf)
  · refine x_aload_n hm rfl rfl ?_
    refine x_ldcI hm rfl (v := (-1000001 : Int32)) (by decide) ?_
    refine x_cVi hm rfl rfl (t135 (by decide)) (fun v2 M2 r2 => ?_)
    refine x_iret hm rfl rfl (by first | rfl | exact bI_nar | decide) ?_
    exact ⟨_, _, rfl, rfl, by first | exact hI | exact (r1.2.inv hI) | exact (r2.2.inv hI) | exact (r3.2.inv hI) | exact (r1.inv hI) | exact (r2.inv hI) | exact (r3.inv hI)⟩
theorem t191 {a1 a2 : Int32} : ∃ v, mT X 191 [.int a1, .int a2] (con M) (some (.int v)) (con M) ∧ (v = nI 0 ∨ v = nI 1) := by
  refine te_of (row := _) rfl (Nat.le_of_ble_eq_true rfl) ?_
  have hm : mMet 191 = some _ := rfl
  refine x_iload_n hm rfl rfl ?_
  refine x_iload_n hm rfl rfl ?_
  refine x_ishr hm rfl ?_
  refine x_iconst hm rfl (v := nI 1) (by decide) ?_
  refine x_iand hm rfl ?_
  refine x_iconst hm rfl (v := nI 1) (by decide) ?_
  refine x_icmp_ne hm rfl (t := 13) rfl (fun h1 => ?_) (fun h1 => ?_)
  · refine x_iconst hm rfl (v := nI 0) (by decide) ?_
    refine x_iret hm rfl rfl (by first | rfl | exact bI_nar | decide) ?_
    exact ⟨_, rfl, rfl, by first | exact Or.inl rfl | exact Or.inr rfl⟩
  · refine x_iconst hm rfl (v := nI 1) (by decide) ?_
    refine x_goto hm rfl (t := 14) rfl ?_
    refine x_iret hm rfl rfl (by first | rfl | exact bI_nar | decide) ?_
    exact ⟨_, rfl, rfl, by first | exact Or.inl rfl | exact Or.inr rfl⟩
theorem l190b {nb : Nat} (hW : Wf M) (hnb : M 67 1 = nI nb) (h8 : nb ≤ 8) {s : Int32} {a lo : Int32} : ∀ (n k : Nat) (M1 : mM), nb - k < n → k ≤ nb → Sf M M1 → mEv X (QI (fun _ M' => Sf M M')) 190 68 [some (.ref 66), some (.int s), some (.int a), some (.int lo), some (.int (nI k))] [] (con M1) := by
  have hm : mMet 190 = some _ := rfl
  intro n
  induction n with
  | zero =>
    intro k M1 hkn hkb hS
    omega
  | succ n ih =>
    intro k M1 hkn hkb hS
    have hn1 : M1 67 1 = nI nb := hS.2.1.trans hnb
    refine x_iload hm rfl rfl ?_
    refine x_aload_n hm rfl rfl ?_
    refine x_getf hm rfl (gR rfl rfl) ?_
    refine x_iconst hm rfl (v := nI 1) (by decide) ?_
    refine x_iald hm rfl (lI rfl (by omega) (by decide)) ?_
    rw [hn1]
    refine x_icmp_ge hm rfl (t := 103) rfl (fun h1 => ?_) (fun h1 => ?_)
    · refine x_iload_n hm rfl rfl ?_
      refine x_iret hm rfl rfl (by first | rfl | exact bI_nar | decide) ?_
      exact ⟨_, _, rfl, rfl, hS⟩
    · have hk : k < nb := Nat.lt_of_not_le fun h => h1 (nI_le h (by omega))
      refine x_aload_n hm rfl rfl ?_
      refine x_getf hm rfl (gR rfl rfl) ?_
      refine x_iload hm rfl rfl ?_
      refine x_iconst hm rfl (v := nI 3) (by decide) ?_
      refine x_callS hm rfl rfl (t137) ?_
      refine x_aload_n hm rfl rfl ?_
      refine x_getf hm rfl (gR rfl rfl) ?_
      refine x_iload hm rfl rfl ?_
      refine x_iald hm rfl (lI rfl (by omega) (by decide)) ?_
      refine x_iast hm rfl (sI rfl (by omega) (by decide)) ?_
      refine x_iinc hm rfl rfl (v := nI 1) (by decide) rfl ?_
      rw [jI_add]
      refine x_goto hm rfl (t := 68) rfl ?_
      exact ih _ _ (by omega) (by omega) (hS.trans (Sf.thing (by omega) (by decide) (by decide) (by decide)))
theorem l190a {nb : Nat} (hW : Wf M) (hnb : M 67 1 = nI nb) (h8 : nb ≤ 8) {s : Int32} {a : Nat} (ha : a ≤ 1000) : ∀ (n k : Nat) (M1 : mM), nb - k < n → k ≤ nb → Sf M M1 → mEv X (QI (fun _ M' => Sf M M')) 190 2 [some (.ref 66), some (.int s), some (.int (nI a)), some (.int (nI k)), none] [] (con M1) := by
  have hm : mMet 190 = some _ := rfl
  intro n
  induction n with
  | zero =>
    intro k M1 hkn hkb hS
    omega
  | succ n ih =>
    intro k M1 hkn hkb hS
    have hn1 : M1 67 1 = nI nb := hS.2.1.trans hnb
    refine x_iload_n hm rfl rfl ?_
    refine x_aload_n hm rfl rfl ?_
    refine x_getf hm rfl (gR rfl rfl) ?_
    refine x_iconst hm rfl (v := nI 1) (by decide) ?_
    refine x_iald hm rfl (lI rfl (by omega) (by decide)) ?_
    rw [hn1]
    refine x_icmp_ge hm rfl (t := 59) rfl (fun h1 => ?_) (fun h1 => ?_)
    · refine x_aload_n hm rfl rfl ?_
      refine x_iload_n hm rfl rfl ?_
      refine x_cVi hm rfl rfl (t180 (hS.1 hW) ha) (fun v2 M2 r2 => ?_)
      refine x_istore_n hm rfl rfl ?_
      refine x_iconst hm rfl (v := nI 0) (by decide) ?_
      refine x_istore hm rfl rfl ?_
      exact l190b hW hnb h8 _ 0 _ (Nat.lt_succ_self _) (Nat.zero_le _) (hS.trans r2)
    · have hk : k < nb := Nat.lt_of_not_le fun h => h1 (nI_le h (by omega))
      refine x_aload_n hm rfl rfl ?_
      refine x_getf hm rfl (gR rfl rfl) ?_
      refine x_iload_n hm rfl rfl ?_
      refine x_aload_n hm rfl rfl ?_
      refine x_iload_n hm rfl rfl ?_
      refine x_iconst hm rfl (v := nI 3) (by decide) ?_
      refine x_callV hm rfl rfl (t143 (by omega) (by omega)) ?_
      refine x_iast hm rfl (sI rfl (by omega) (by decide)) ?_
      refine x_aload_n hm rfl rfl ?_
      refine x_getf hm rfl (gR rfl rfl) ?_
      refine x_iload_n hm rfl rfl ?_
      refine x_iconst hm rfl (v := nI 3) (by decide) ?_
      refine x_callS hm rfl rfl (t137) ?_
      refine x_iload_n hm rfl rfl ?_
      refine x_iload_n hm rfl rfl ?_
      refine x_cSe hm rfl rfl (t191) (fun v3 r3 => ?_)
      refine x_if_eq hm rfl (t := 46) rfl (fun h4 => ?_) (fun h4 => ?_)
      · refine x_aload_n hm rfl rfl ?_
        refine x_getf hm rfl (gR rfl rfl) ?_
        refine x_iload_n hm rfl rfl ?_
        refine x_iald hm rfl (lI rfl (by omega) (by decide)) ?_
        refine x_iast hm rfl (sI rfl (by omega) (by decide)) ?_
        refine x_iinc hm rfl rfl (v := nI 1) (by decide) rfl ?_
        rw [jI_add]
        refine x_goto hm rfl (t := 2) rfl ?_
        exact ih _ _ (by omega) (by omega) ((hS.trans (Sf.put0 (kd72 _) (by decide) (by decide))).trans (Sf.thing (by omega) (by decide) (by decide) (by decide)))
      · refine x_bipush hm rfl (v := nI 9) (by decide) ?_
        refine x_goto hm rfl (t := 52) rfl ?_
        refine x_iast hm rfl (sI rfl (by omega) (by decide)) ?_
        refine x_iinc hm rfl rfl (v := nI 1) (by decide) rfl ?_
        rw [jI_add]
        refine x_goto hm rfl (t := 2) rfl ?_
        exact ih _ _ (by omega) (by omega) ((hS.trans (Sf.put0 (kd72 _) (by decide) (by decide))).trans (Sf.thing (by omega) (by decide) (by decide) (by decide)))
theorem t190 {s : Int32} {a : Nat} (hW : Wf M) (ha : a ≤ 1000) : ∃ v M', mT X 190 [.ref 66, .int s, .int (nI a)] (con M) (some (.int v)) (con M') ∧ Sf M M' := by
  refine ti_of (row := _) rfl (Nat.le_of_ble_eq_true rfl) ?_
  have hm : mMet 190 = some _ := rfl
  obtain ⟨nb, h8, hnb⟩ := hW.nt
  refine x_iconst hm rfl (v := nI 0) (by decide) ?_
  refine x_istore_n hm rfl rfl ?_
  exact l190a hW hnb h8 ha _ 0 _ (Nat.lt_succ_self _) (Nat.zero_le _) Sf.rf
theorem l189 {a nb : Nat} {c m : Int32} (hW : Wf M) (ha : a ≤ 1000) (hnb : M 67 1 = nI nb) (h8 : nb ≤ 8) : ∀ (n k : Nat) (b l : Int32) (x7 : Option Value) (M1 : mM), 2 ^ nb - k < n → k ≤ 2 ^ nb → Sf M M1 → mEv X (QI (fun _ M' => Sf M M')) 189 48 [some (.ref 66), some (.int c), some (.int (nI a)), some (.int m), some (.int b), some (.int l), some (.int (nI k)), x7] [] (con M1) := by
  have hm : mMet 189 = some _ := rfl
  intro n
  induction n with
  | zero =>
    intro k b l x7 M1 hkn hkb hS
    omega
  | succ n ih =>
    intro k b l x7 M1 hkn hkb hS
    have hn1 : M1 67 1 = nI nb := hS.2.1.trans hnb
    have hpw := pow_k h8
    refine x_iload hm rfl rfl ?_
    refine x_iconst hm rfl (v := nI 1) (by decide) ?_
    refine x_aload_n hm rfl rfl ?_
    refine x_getf hm rfl (gR rfl rfl) ?_
    refine x_iconst hm rfl (v := nI 1) (by decide) ?_
    refine x_iald hm rfl (lI rfl (by omega) (by decide)) ?_
    rw [hn1]
    refine x_ishl hm rfl ?_
    rw [shl_k nb h8]
    refine x_icmp_ge hm rfl (t := 115) rfl (fun h1 => ?_) (fun h1 => ?_)
    · refine x_iload hm rfl rfl ?_
      refine x_iret hm rfl rfl (by first | rfl | exact bI_nar | decide) ?_
      exact ⟨_, _, rfl, rfl, hS⟩
    · have hk : k < 2 ^ nb := Nat.lt_of_not_le fun h => h1 (nI_le h (by omega))
      refine x_iload hm rfl rfl ?_
      refine x_cSe hm rfl rfl (t168) (fun v2 r2 => ?_)
      refine x_iload_n hm rfl rfl ?_
      refine x_icmp_ne hm rfl (t := 80) rfl (fun h3 => ?_) (fun h3 => ?_)
      · refine x_ldcI hm rfl (v := nI 2147483647) (by decide) ?_
        refine x_istore hm rfl rfl ?_
        refine x_iload hm rfl rfl ?_
        refine x_iload hm rfl rfl ?_
        refine x_icmp_ge hm rfl (t := 96) rfl (fun h4 => ?_) (fun h4 => ?_)
        · refine x_iload hm rfl rfl ?_
          refine x_istore hm rfl rfl ?_
          refine x_iload hm rfl rfl ?_
          refine x_iload hm rfl rfl ?_
          refine x_lib hm rfl rfl ?_
          dsimp only
          refine x_istore hm rfl rfl ?_
          refine x_iinc hm rfl rfl (v := nI 1) (by decide) rfl ?_
          rw [jI_add]
          refine x_goto hm rfl (t := 48) rfl ?_
          first
            | exact ih _ _ _ _ _ (by omega) (by omega) hS
            | exact ih _ _ _ _ _ (by omega) (by omega) (hS.trans r4)
            | exact ih _ _ _ _ _ (by omega) (by omega) (hS.trans r5)
            | exact ih _ _ _ _ _ (by omega) (by omega) (hS.trans r6)
        · refine x_iload hm rfl rfl ?_
          refine x_goto hm rfl (t := 98) rfl ?_
          refine x_istore hm rfl rfl ?_
          refine x_iload hm rfl rfl ?_
          refine x_iload hm rfl rfl ?_
          refine x_lib hm rfl rfl ?_
          dsimp only
          refine x_istore hm rfl rfl ?_
          refine x_iinc hm rfl rfl (v := nI 1) (by decide) rfl ?_
          rw [jI_add]
          refine x_goto hm rfl (t := 48) rfl ?_
          first
            | exact ih _ _ _ _ _ (by omega) (by omega) hS
            | exact ih _ _ _ _ _ (by omega) (by omega) (hS.trans r4)
            | exact ih _ _ _ _ _ (by omega) (by omega) (hS.trans r5)
            | exact ih _ _ _ _ _ (by omega) (by omega) (hS.trans r6)
      · refine x_aload_n hm rfl rfl ?_
        refine x_iload hm rfl rfl ?_
        refine x_iload_n hm rfl rfl ?_
        refine x_cVi hm rfl rfl (t190 (hS.1 hW) (by omega)) (fun v5 M5 r5 => ?_)
        refine x_goto hm rfl (t := 82) rfl ?_
        refine x_istore hm rfl rfl ?_
        refine x_iload hm rfl rfl ?_
        refine x_iload hm rfl rfl ?_
        refine x_icmp_ge hm rfl (t := 96) rfl (fun h6 => ?_) (fun h6 => ?_)
        · refine x_iload hm rfl rfl ?_
          refine x_istore hm rfl rfl ?_
          refine x_iload hm rfl rfl ?_
          refine x_iload hm rfl rfl ?_
          refine x_lib hm rfl rfl ?_
          dsimp only
          refine x_istore hm rfl rfl ?_
          refine x_iinc hm rfl rfl (v := nI 1) (by decide) rfl ?_
          rw [jI_add]
          refine x_goto hm rfl (t := 48) rfl ?_
          first
            | exact ih _ _ _ _ _ (by omega) (by omega) hS
            | exact ih _ _ _ _ _ (by omega) (by omega) (hS.trans r4)
            | exact ih _ _ _ _ _ (by omega) (by omega) (hS.trans r5)
            | exact ih _ _ _ _ _ (by omega) (by omega) (hS.trans r6)
        · refine x_iload hm rfl rfl ?_
          refine x_goto hm rfl (t := 98) rfl ?_
          refine x_istore hm rfl rfl ?_
          refine x_iload hm rfl rfl ?_
          refine x_iload hm rfl rfl ?_
          refine x_lib hm rfl rfl ?_
          dsimp only
          refine x_istore hm rfl rfl ?_
          refine x_iinc hm rfl rfl (v := nI 1) (by decide) rfl ?_
          rw [jI_add]
          refine x_goto hm rfl (t := 48) rfl ?_
          first
            | exact ih _ _ _ _ _ (by omega) (by omega) hS
            | exact ih _ _ _ _ _ (by omega) (by omega) (hS.trans r4)
            | exact ih _ _ _ _ _ (by omega) (by omega) (hS.trans r5)
            | exact ih _ _ _ _ _ (by omega) (by omega) (hS.trans r6)
theorem t189 {a1 a2 : Int32} (hI : Inv M) : ∃ v M', mT X 189 [.ref 66, .int a1, .int a2] (con M) (some (.int v)) (con M') ∧ Inv M' := by
  refine ti_of (row := _) rfl (Nat.le_of_ble_eq_true rfl) ?_
  have hm : mMet 189 = some _ := rfl
  obtain ⟨nt, hn8, hnt⟩ := hI.1.nt
  refine x_iload_n hm rfl rfl ?_
  refine x_iconst hm rfl (v := nI 0) (by decide) ?_
  refine x_bipush hm rfl (v := nI 8) (by decide) ?_
  refine x_callS hm rfl rfl (t133) ?_
  refine x_if_eq hm rfl (t := 20) rfl (fun h1 => ?_) (fun h1 => ?_)
  · refine x_aload_n hm rfl rfl ?_
    refine x_ldcI hm rfl (v := (-1000001 : Int32)) (by decide) ?_
    refine x_cVi hm rfl rfl (t135 (by decide)) (fun v2 M2 r2 => ?_)
    refine x_iret hm rfl rfl (by first | rfl | exact bI_nar | decide) ?_
    exact ⟨_, _, rfl, rfl, by first | exact hI | exact (r1.2.inv hI) | exact (r2.2.inv hI) | exact (r3.2.inv hI) | exact (r4.2.inv hI) | exact (r5.2.inv hI) | exact (r1.inv hI) | exact (r2.inv hI) | exact (r3.inv hI) | exact (r4.inv hI) | exact (r5.inv hI)⟩
  · 
    refine x_iload_n hm rfl rfl ?_
    refine x_iconst hm rfl (v := nI 0) (by decide) ?_
    refine x_bipush hm rfl (v := nI 60) (by decide) ?_
    refine x_callS hm rfl rfl (t133) ?_
    refine x_if_ne hm rfl (t := 27) rfl (fun h3 => ?_) (fun h3 => ?_)
    · obtain ⟨a, ha, rfl⟩ := le_k (by omega) (bI_ne0 h3)
      refine x_iload_n hm rfl rfl ?_
      refine x_aload_n hm rfl rfl ?_
      refine x_getf hm rfl (gR rfl rfl) ?_
      refine x_iconst hm rfl (v := nI 1) (by decide) ?_
      refine x_iald hm rfl (lI rfl (by omega) (by decide)) ?_
      refine x_lib hm rfl rfl ?_
      dsimp only
      refine x_istore_n hm rfl rfl ?_
      refine x_iconst hm rfl (v := nI 0) (by decide) ?_
      refine x_istore hm rfl rfl ?_
      refine x_ldcI hm rfl (v := nI 2147483647) (by decide) ?_
      refine x_istore hm rfl rfl ?_
      refine x_iconst hm rfl (v := nI 0) (by decide) ?_
      refine x_istore hm rfl rfl ?_
      exact ev_inv hI (l189 hI.1 (by omega) hnt hn8 _ 0 _ _ _ _ (Nat.lt_succ_self _) (Nat.zero_le _) Sf.rf)
    · refine x_aload_n hm rfl rfl ?_
      refine x_ldcI hm rfl (v := (-1000001 : Int32)) (by decide) ?_
      refine x_cVi hm rfl rfl (t135 (by decide)) (fun v4 M4 r4 => ?_)
      refine x_iret hm rfl rfl (by first | rfl | exact bI_nar | decide) ?_
      exact ⟨_, _, rfl, rfl, by first | exact hI | exact (r1.2.inv hI) | exact (r2.2.inv hI) | exact (r3.2.inv hI) | exact (r4.2.inv hI) | exact (r5.2.inv hI) | exact (r1.inv hI) | exact (r2.inv hI) | exact (r3.inv hI) | exact (r4.inv hI) | exact (r5.inv hI)⟩
theorem l192 {t a : Nat} {c : Int32} (hW : Wf M) (ht : t < 8) (ha : a ≤ 1000) : ∀ (n : Nat) (x b : Int32) (M1 : mM), (x.toInt + 1).toNat < n → Sf M M1 → mEv X (QI (fun _ M' => Sf M M')) 192 39 [some (.ref 66), some (.int (nI t)), some (.int (nI a)), some (.int c), some (.int b), some (.int x)] [] (con M1) := by
  have hm : mMet 192 = some _ := rfl
  intro n
  induction n with
  | zero =>
    intro x b M1 hx hS
    omega
  | succ n ih =>
    intro x b M1 hx hS
    refine x_iload hm rfl rfl ?_
    refine x_if_lt hm rfl (t := 80) rfl (fun h1 => ?_) (fun h1 => ?_)
    · refine x_aload_n hm rfl rfl ?_
      refine x_getf hm rfl (gR rfl rfl) ?_
      refine x_iload_n hm rfl rfl ?_
      refine x_iconst hm rfl (v := nI 3) (by decide) ?_
      refine x_callS hm rfl rfl (t137) ?_
      refine x_iload_n hm rfl rfl ?_
      refine x_iast hm rfl (sI rfl (by omega) (by decide)) ?_
      have hS3 := hS.trans (Sf.thing (M := M1) (v := c) ht (by decide : 3 < 5) (by decide) (by decide))
      refine x_aload_n hm rfl rfl ?_
      refine x_iload hm rfl rfl ?_
      refine x_cVi hm rfl rfl (t177) (fun v2 M2 r2 => ?_)
      refine x_iret hm rfl rfl (by first | rfl | exact bI_nar | decide) ?_
      exact ⟨_, _, rfl, rfl, by first | exact hS3.trans r2.sf | exact hS3.trans r3.sf⟩
    · have hx0 : ¬ x < 0 := h1
      have hd := dec_int hx0
      have hx1 : 0 ≤ x.toInt := by
        have := Int32.not_lt.mp hx0
        simpa using Int32.le_iff_toInt_le.mp this
      refine x_aload_n hm rfl rfl ?_
      refine x_getf hm rfl (gR rfl rfl) ?_
      refine x_iload_n hm rfl rfl ?_
      refine x_iconst hm rfl (v := nI 3) (by decide) ?_
      refine x_callS hm rfl rfl (t137) ?_
      refine x_iload hm rfl rfl ?_
      refine x_iast hm rfl (sI rfl (by omega) (by decide)) ?_
      have hS2 := hS.trans (Sf.thing (M := M1) (v := x) ht (by decide : 3 < 5) (by decide) (by decide))
      refine x_aload_n hm rfl rfl ?_
      refine x_iload_n hm rfl rfl ?_
      refine x_iload_n hm rfl rfl ?_
      refine x_cVi hm rfl rfl (t173 (hS2.1 hW) ht ha) (fun v3 M3 r3 => ?_)
      refine x_if_le hm rfl (t := 70) rfl (fun h4 => ?_) (fun h4 => ?_)
      · refine x_iload hm rfl rfl ?_
        refine x_istore hm rfl rfl ?_
        refine x_iinc hm rfl rfl (v := (-1 : Int32)) (by decide) rfl ?_
        refine x_goto hm rfl (t := 39) rfl ?_
        first
          | exact ih _ _ _ (by omega) (hS2.trans r2)
          | exact ih _ _ _ (by omega) (hS2.trans r3)
          | exact ih _ _ _ (by omega) (hS2.trans r4)
      · refine x_iload hm rfl rfl ?_
        refine x_goto hm rfl (t := 72) rfl ?_
        refine x_istore hm rfl rfl ?_
        refine x_iinc hm rfl rfl (v := (-1 : Int32)) (by decide) rfl ?_
        refine x_goto hm rfl (t := 39) rfl ?_
        first
          | exact ih _ _ _ (by omega) (hS2.trans r2)
          | exact ih _ _ _ (by omega) (hS2.trans r3)
          | exact ih _ _ _ (by omega) (hS2.trans r4)
theorem t192 {a1 a2 : Int32} (hI : Inv M) : ∃ v M', mT X 192 [.ref 66, .int a1, .int a2] (con M) (some (.int v)) (con M') ∧ Inv M' := by
  refine ti_of (row := _) rfl (Nat.le_of_ble_eq_true rfl) ?_
  have hm : mMet 192 = some _ := rfl
  obtain ⟨nt, hn8, hnt⟩ := hI.1.nt
  refine x_aload_n hm rfl rfl ?_
  refine x_iload_n hm rfl rfl ?_
  refine x_callV hm rfl rfl (t139) ?_
  refine x_if_eq hm rfl (t := 18) rfl (fun h1 => ?_) (fun h1 => ?_)
  · refine x_aload_n hm rfl rfl ?_
    refine x_ldcI hm rfl (v := (-1000001 : Int32)) (by decide) ?_
    refine x_cVi hm rfl rfl (t135 (by decide)) (fun v2 M2 r2 => ?_)
    refine x_iret hm rfl rfl (by first | rfl | exact bI_nar | decide) ?_
    exact ⟨_, _, rfl, rfl, by first | exact hI | exact (r1.2.inv hI) | exact (r2.2.inv hI) | exact (r3.2.inv hI) | exact (r4.2.inv hI) | exact (r5.2.inv hI) | exact (r1.inv hI) | exact (r2.inv hI) | exact (r3.inv hI) | exact (r4.inv hI) | exact (r5.inv hI)⟩
  · obtain ⟨t, ht, rfl⟩ := in_k hnt (by omega) (bI_ne0 h1)
    refine x_iload_n hm rfl rfl ?_
    refine x_iconst hm rfl (v := nI 0) (by decide) ?_
    refine x_bipush hm rfl (v := nI 60) (by decide) ?_
    refine x_callS hm rfl rfl (t133) ?_
    refine x_if_ne hm rfl (t := 25) rfl (fun h3 => ?_) (fun h3 => ?_)
    · obtain ⟨a, ha, rfl⟩ := le_k (by omega) (bI_ne0 h3)
      refine x_aload_n hm rfl rfl ?_
      refine x_iload_n hm rfl rfl ?_
      refine x_iconst hm rfl (v := nI 3) (by decide) ?_
      refine x_callV hm rfl rfl (t143 (by omega) (by omega)) ?_
      refine x_istore_n hm rfl rfl ?_
      refine x_iconst hm rfl (v := (-1 : Int32)) (by decide) ?_
      refine x_istore hm rfl rfl ?_
      refine x_bipush hm rfl (v := nI 9) (by decide) ?_
      refine x_istore hm rfl rfl ?_
      exact ev_inv hI (l192 hI.1 (by omega) (by omega) _ _ _ _ (Nat.lt_succ_self _) Sf.rf)
    · refine x_aload_n hm rfl rfl ?_
      refine x_ldcI hm rfl (v := (-1000001 : Int32)) (by decide) ?_
      refine x_cVi hm rfl rfl (t135 (by decide)) (fun v4 M4 r4 => ?_)
      refine x_iret hm rfl rfl (by first | rfl | exact bI_nar | decide) ?_
      exact ⟨_, _, rfl, rfl, by first | exact hI | exact (r1.2.inv hI) | exact (r2.2.inv hI) | exact (r3.2.inv hI) | exact (r4.2.inv hI) | exact (r5.2.inv hI) | exact (r1.inv hI) | exact (r2.inv hI) | exact (r3.inv hI) | exact (r4.inv hI) | exact (r5.inv hI)⟩
theorem l176 {t : Nat} (hW : Wf M) (ht : t < 8) : ∀ (n k : Nat) (M1 : mM), 100 - k < n → k ≤ 100 → Dy (cp M 67 69 118) M1 → mEv X (QI (fun _ M' => Sf M M')) 176 28 [some (.ref 66), some (.int (nI t)), some (.int (nI k))] [] (con M1) := by
  have hm : mMet 176 = some _ := rfl
  intro n
  induction n with
  | zero =>
    intro k M1 hkn hkb hD
    omega
  | succ n ih =>
    intro k M1 hkn hkb hD
    refine x_iload_n hm rfl rfl ?_
    refine x_bipush hm rfl (v := nI 100) (by decide) ?_
    refine x_icmp_ge hm rfl (t := 52) rfl (fun h1 => ?_) (fun h1 => ?_)
    · refine x_aload_n hm rfl rfl ?_
      refine x_aload_n hm rfl rfl ?_
      refine x_aload_n hm rfl rfl ?_
      refine x_iload_n hm rfl rfl ?_
      refine x_callV hm rfl rfl (t146 (by omega)) ?_
      refine x_if_eq hm rfl (t := 66) rfl (fun h2 => ?_) (fun h2 => ?_)
      · refine x_iconst hm rfl (v := (-1 : Int32)) (by decide) ?_
        refine x_callV hm rfl rfl (t175) ?_
        refine x_cVi hm rfl rfl (t177) (fun v3 M3 r3 => ?_)
        refine x_iret hm rfl rfl (by first | rfl | exact bI_nar | decide) ?_
        exact ⟨_, _, rfl, rfl, by first | exact (Sf.trial hD).trans r3.sf | exact (Sf.trial hD).trans r4.sf | exact (Sf.trial hD).trans r5.sf | exact (Sf.trial hD).trans r6.sf | exact (Sf.trial hD).trans r7.sf | exact (Sf.trial hD).trans r8.sf⟩
      · refine x_iload_n hm rfl rfl ?_
        refine x_goto hm rfl (t := 67) rfl ?_
        refine x_callV hm rfl rfl (t175) ?_
        refine x_cVi hm rfl rfl (t177) (fun v4 M4 r4 => ?_)
        refine x_iret hm rfl rfl (by first | rfl | exact bI_nar | decide) ?_
        exact ⟨_, _, rfl, rfl, by first | exact (Sf.trial hD).trans r3.sf | exact (Sf.trial hD).trans r4.sf | exact (Sf.trial hD).trans r5.sf | exact (Sf.trial hD).trans r6.sf | exact (Sf.trial hD).trans r7.sf | exact (Sf.trial hD).trans r8.sf⟩
    · have hk : k < 100 := Nat.lt_of_not_le fun h => h1 (nI_le h (by omega))
      refine x_aload_n hm rfl rfl ?_
      refine x_iload_n hm rfl rfl ?_
      refine x_callV hm rfl rfl (t146 (by omega)) ?_
      refine x_if_ne hm rfl (t := 52) rfl (fun h5 => ?_) (fun h5 => ?_)
      · refine x_aload_n hm rfl rfl ?_
        refine x_aload_n hm rfl rfl ?_
        refine x_aload_n hm rfl rfl ?_
        refine x_iload_n hm rfl rfl ?_
        refine x_callV hm rfl rfl (t146 (by omega)) ?_
        refine x_if_eq hm rfl (t := 66) rfl (fun h6 => ?_) (fun h6 => ?_)
        · refine x_iconst hm rfl (v := (-1 : Int32)) (by decide) ?_
          refine x_callV hm rfl rfl (t175) ?_
          refine x_cVi hm rfl rfl (t177) (fun v7 M7 r7 => ?_)
          refine x_iret hm rfl rfl (by first | rfl | exact bI_nar | decide) ?_
          exact ⟨_, _, rfl, rfl, by first | exact (Sf.trial hD).trans r3.sf | exact (Sf.trial hD).trans r4.sf | exact (Sf.trial hD).trans r5.sf | exact (Sf.trial hD).trans r6.sf | exact (Sf.trial hD).trans r7.sf | exact (Sf.trial hD).trans r8.sf⟩
        · refine x_iload_n hm rfl rfl ?_
          refine x_goto hm rfl (t := 67) rfl ?_
          refine x_callV hm rfl rfl (t175) ?_
          refine x_cVi hm rfl rfl (t177) (fun v8 M8 r8 => ?_)
          refine x_iret hm rfl rfl (by first | rfl | exact bI_nar | decide) ?_
          exact ⟨_, _, rfl, rfl, by first | exact (Sf.trial hD).trans r3.sf | exact (Sf.trial hD).trans r4.sf | exact (Sf.trial hD).trans r5.sf | exact (Sf.trial hD).trans r6.sf | exact (Sf.trial hD).trans r7.sf | exact (Sf.trial hD).trans r8.sf⟩
      · refine x_aload_n hm rfl rfl ?_
        refine x_cVv hm rfl rfl (t165 (hD.1.1 hW.aside)) (fun M9 r9 => ?_)
        refine x_iinc hm rfl rfl (v := nI 1) (by decide) rfl ?_
        rw [jI_add]
        refine x_goto hm rfl (t := 28) rfl ?_
        first
          | exact ih _ _ (by omega) (by omega) (hD.trans r3)
          | exact ih _ _ (by omega) (by omega) (hD.trans r4)
          | exact ih _ _ (by omega) (by omega) (hD.trans r5)
          | exact ih _ _ (by omega) (by omega) (hD.trans r6)
          | exact ih _ _ (by omega) (by omega) (hD.trans r7)
          | exact ih _ _ (by omega) (by omega) (hD.trans r8)
          | exact ih _ _ (by omega) (by omega) (hD.trans r9)
          | exact ih _ _ (by omega) (by omega) (hD.trans r10)
          | exact ih _ _ (by omega) (by omega) (hD.trans r11)
          | exact ih _ _ (by omega) (by omega) (hD.trans r2)
theorem t176 {a1 : Int32} (hI : Inv M) : ∃ v M', mT X 176 [.ref 66, .int a1] (con M) (some (.int v)) (con M') ∧ Inv M' := by
  refine ti_of (row := _) rfl (Nat.le_of_ble_eq_true rfl) ?_
  have hm : mMet 176 = some _ := rfl
  obtain ⟨nt, hn8, hnt⟩ := hI.1.nt
  refine x_aload_n hm rfl rfl ?_
  refine x_iload_n hm rfl rfl ?_
  refine x_callV hm rfl rfl (t139) ?_
  refine x_if_ne hm rfl (t := 15) rfl (fun h1 => ?_) (fun h1 => ?_)
  · obtain ⟨t, ht, rfl⟩ := in_k hnt (by omega) (bI_ne0 h1)
    refine x_aload_n hm rfl rfl ?_
    refine x_getf hm rfl (gR rfl rfl) ?_
    refine x_aload_n hm rfl rfl ?_
    refine x_getf hm rfl (gR rfl rfl) ?_
    refine x_callS hm rfl rfl (t174 rfl rfl (by decide)) ?_
    refine x_iconst hm rfl (v := nI 0) (by decide) ?_
    refine x_istore_n hm rfl rfl ?_
    exact ev_inv hI (l176 hI.1 (by omega) _ 0 _ (Nat.lt_succ_self _) (Nat.zero_le _) Dy.rf)
  · refine x_aload_n hm rfl rfl ?_
    refine x_ldcI hm rfl (v := (-1000001 : Int32)) (by decide) ?_
    refine x_cVi hm rfl rfl (t135 (by decide)) (fun v2 M2 r2 => ?_)
    refine x_iret hm rfl rfl (by first | rfl | exact bI_nar | decide) ?_
    exact ⟨_, _, rfl, rfl, by first | exact hI | exact (r1.2.inv hI) | exact (r2.2.inv hI) | exact (r3.2.inv hI) | exact (r4.2.inv hI) | exact (r5.2.inv hI) | exact (r1.inv hI) | exact (r2.inv hI) | exact (r3.inv hI) | exact (r4.inv hI) | exact (r5.inv hI)⟩
theorem l181 {p t : Nat} (hI : Inv M) (hp : p < 8) (ht : t < 8) : ∀ (n k : Nat) (x : Int32), 16 - k < n → k ≤ 16 → mEv X (QI (fun _ M' => Inv M')) 181 33 [some (.ref 66), some (.int (nI p)), some (.int (nI t)), some (.int x), some (.int (nI k))] [] (con M) := by
  have hm : mMet 181 = some _ := rfl
  intro n
  induction n with
  | zero =>
    intro k x hkn hkb
    omega
  | succ n ih =>
    intro k x hkn hkb
    refine x_iload hm rfl rfl ?_
    refine x_bipush hm rfl (v := nI 16) (by decide) ?_
    refine x_icmp_ge hm rfl (t := 68) rfl (fun h1 => ?_) (fun h1 => ?_)
    · refine x_iload hm rfl rfl ?_
      refine x_bipush hm rfl (v := nI 16) (by decide) ?_
      refine x_icmp_ge hm rfl (t := 80) rfl (fun h2 => ?_) (fun h2 => ?_)
      · refine x_aload_n hm rfl rfl ?_
        refine x_ldcI hm rfl (v := (-1000004 : Int32)) (by decide) ?_
        refine x_cVi hm rfl rfl (t135 (by decide)) (fun v3 M3 r3 => ?_)
        refine x_iret hm rfl rfl (by first | rfl | exact bI_nar | decide) ?_
        exact ⟨_, _, rfl, rfl, by first | exact hI | exact (r1.2.inv hI) | exact (r2.2.inv hI) | exact (r3.2.inv hI) | exact (r4.2.inv hI) | exact (r5.2.inv hI) | exact (r6.2.inv hI) | exact (r7.2.inv hI) | exact (r1.inv hI) | exact (r2.inv hI) | exact (r3.inv hI) | exact (r4.inv hI) | exact (r5.inv hI) | exact (r6.inv hI) | exact (r7.inv hI)⟩
      · refine x_iload hm rfl rfl ?_
        refine x_goto hm rfl (t := 86) rfl ?_
        refine x_iret hm rfl rfl (by first | rfl | exact bI_nar | decide) ?_
        exact ⟨_, _, rfl, rfl, by first | exact hI | exact (r1.2.inv hI) | exact (r2.2.inv hI) | exact (r3.2.inv hI) | exact (r4.2.inv hI) | exact (r5.2.inv hI) | exact (r6.2.inv hI) | exact (r7.2.inv hI) | exact (r1.inv hI) | exact (r2.inv hI) | exact (r3.inv hI) | exact (r4.inv hI) | exact (r5.inv hI) | exact (r6.inv hI) | exact (r7.inv hI)⟩
    · have hk : k < 16 := Nat.lt_of_not_le fun h => h1 (nI_le h (by omega))
      refine x_iload_n hm rfl rfl ?_
      refine x_aload_n hm rfl rfl ?_
      refine x_iload_n hm rfl rfl ?_
      refine x_iconst hm rfl (v := nI 1) (by decide) ?_
      refine x_callV hm rfl rfl (t143 (by omega) (by omega)) ?_
      refine x_icmp_eq hm rfl (t := 68) rfl (fun h4 => ?_) (fun h4 => ?_)
      · refine x_iload hm rfl rfl ?_
        refine x_bipush hm rfl (v := nI 16) (by decide) ?_
        refine x_icmp_ge hm rfl (t := 80) rfl (fun h5 => ?_) (fun h5 => ?_)
        · refine x_aload_n hm rfl rfl ?_
          refine x_ldcI hm rfl (v := (-1000004 : Int32)) (by decide) ?_
          refine x_cVi hm rfl rfl (t135 (by decide)) (fun v6 M6 r6 => ?_)
          refine x_iret hm rfl rfl (by first | rfl | exact bI_nar | decide) ?_
          exact ⟨_, _, rfl, rfl, by first | exact hI | exact (r1.2.inv hI) | exact (r2.2.inv hI) | exact (r3.2.inv hI) | exact (r4.2.inv hI) | exact (r5.2.inv hI) | exact (r6.2.inv hI) | exact (r7.2.inv hI) | exact (r1.inv hI) | exact (r2.inv hI) | exact (r3.inv hI) | exact (r4.inv hI) | exact (r5.inv hI) | exact (r6.inv hI) | exact (r7.inv hI)⟩
        · refine x_iload hm rfl rfl ?_
          refine x_goto hm rfl (t := 86) rfl ?_
          refine x_iret hm rfl rfl (by first | rfl | exact bI_nar | decide) ?_
          exact ⟨_, _, rfl, rfl, by first | exact hI | exact (r1.2.inv hI) | exact (r2.2.inv hI) | exact (r3.2.inv hI) | exact (r4.2.inv hI) | exact (r5.2.inv hI) | exact (r6.2.inv hI) | exact (r7.2.inv hI) | exact (r1.inv hI) | exact (r2.inv hI) | exact (r3.inv hI) | exact (r4.inv hI) | exact (r5.inv hI) | exact (r6.inv hI) | exact (r7.inv hI)⟩
      · refine x_iload_n hm rfl rfl ?_
        refine x_aload_n hm rfl rfl ?_
        refine x_iload_n hm rfl rfl ?_
        refine x_iconst hm rfl (v := nI 2) (by decide) ?_
        refine x_callV hm rfl rfl (t141 (by omega) (by omega)) ?_
        refine x_iadd hm rfl ?_
        refine x_bipush hm rfl (v := nI 16) (by decide) ?_
        refine x_irem hm rfl (by decide) ?_
        refine x_istore_n hm rfl rfl ?_
        refine x_iinc hm rfl rfl (v := nI 1) (by decide) rfl ?_
        rw [jI_add]
        refine x_goto hm rfl (t := 33) rfl ?_
        exact ih _ _ (by omega) (by omega)
theorem t181 {a1 a2 : Int32} (hI : Inv M) : ∃ v M', mT X 181 [.ref 66, .int a1, .int a2] (con M) (some (.int v)) (con M') ∧ Inv M' := by
  refine ti_of (row := _) rfl (Nat.le_of_ble_eq_true rfl) ?_
  have hm : mMet 181 = some _ := rfl
  obtain ⟨nt, hn8, hnt⟩ := hI.1.nt
  obtain ⟨np, hp8, hnp⟩ := hI.1.np
  refine x_aload_n hm rfl rfl ?_
  refine x_iload_n hm rfl rfl ?_
  refine x_callV hm rfl rfl (t153) ?_
  refine x_if_eq hm rfl (t := 16) rfl (fun h1 => ?_) (fun h1 => ?_)
  · refine x_aload_n hm rfl rfl ?_
    refine x_ldcI hm rfl (v := (-1000001 : Int32)) (by decide) ?_
    refine x_cVi hm rfl rfl (t135 (by decide)) (fun v2 M2 r2 => ?_)
    refine x_iret hm rfl rfl (by first | rfl | exact bI_nar | decide) ?_
    exact ⟨_, _, rfl, rfl, by first | exact hI | exact (r1.2.inv hI) | exact (r2.2.inv hI) | exact (r3.2.inv hI) | exact (r4.2.inv hI) | exact (r5.2.inv hI) | exact (r1.inv hI) | exact (r2.inv hI) | exact (r3.inv hI) | exact (r4.inv hI) | exact (r5.inv hI)⟩
  · obtain ⟨p, hp, rfl⟩ := in_k hnp (by omega) (bI_ne0 h1)
    refine x_aload_n hm rfl rfl ?_
    refine x_iload_n hm rfl rfl ?_
    refine x_callV hm rfl rfl (t139) ?_
    refine x_if_ne hm rfl (t := 23) rfl (fun h3 => ?_) (fun h3 => ?_)
    · obtain ⟨t, ht, rfl⟩ := in_k hnt (by omega) (bI_ne0 h3)
      refine x_aload_n hm rfl rfl ?_
      refine x_iload_n hm rfl rfl ?_
      refine x_iconst hm rfl (v := nI 1) (by decide) ?_
      refine x_callV hm rfl rfl (t141 (by omega) (by omega)) ?_
      refine x_istore_n hm rfl rfl ?_
      refine x_iconst hm rfl (v := nI 0) (by decide) ?_
      refine x_istore hm rfl rfl ?_
      exact l181 hI (by omega) (by omega) _ 0 _ (Nat.lt_succ_self _) (Nat.zero_le _)
    · refine x_aload_n hm rfl rfl ?_
      refine x_ldcI hm rfl (v := (-1000001 : Int32)) (by decide) ?_
      refine x_cVi hm rfl rfl (t135 (by decide)) (fun v4 M4 r4 => ?_)
      refine x_iret hm rfl rfl (by first | rfl | exact bI_nar | decide) ?_
      exact ⟨_, _, rfl, rfl, by first | exact hI | exact (r1.2.inv hI) | exact (r2.2.inv hI) | exact (r3.2.inv hI) | exact (r4.2.inv hI) | exact (r5.2.inv hI) | exact (r1.inv hI) | exact (r2.inv hI) | exact (r3.inv hI) | exact (r4.inv hI) | exact (r5.inv hI)⟩
end RG
end
section
/-! ===== the reference: what hangs, deals ===== -/
section RH
variable {X : mSc} {Q : Option Value → mHp → Prop} {M : mM}
def Rch (r : Nat → Int32) (o u : Nat) : Prop := ∃ f, hr r o f u
theorem ev_mono {Q' : Option Value → mHp → Prop} {m pc : Nat} {L : mLoc} {st : List Value} {D : mHp} (h : mEv X Q m pc L st D) (hq : ∀ r D', Q r D' → Q' r D') : mEv X Q' m pc L st D := by
  obtain ⟨n, r, D', g1, g2⟩ := h
  exact ⟨n, r, D', g1, hq r D' g2⟩
theorem hang_next {nt : Nat} {rk : Nat → Nat} (hW : Wf M) (h8 : nt ≤ 8) (hrk : ∀ t u, t < nt → u ≤ 7 → M 67 (14 + 6 * t + 5) = nI u → u < nt ∧ rk u < rk t) {k n : Nat} (hk : k < nt) (hm : rk k + 1 < n + 1) : M 67 (14 + 6 * k + 5) < 0 ∨ ∃ w, w < nt ∧ M 67 (14 + 6 * k + 5) = nI w ∧ rk w + 1 < n := by
  rcases ok2 (hW.on (t := k) (by omega)) with e | ⟨w, hw, e⟩
  · exact Or.inl (by rw [e]; decide)
  · obtain ⟨g1, g2⟩ := hrk k w hk hw e
    exact Or.inr ⟨w, g1, e, by omega⟩
theorem nneg {k : Nat} (hk : k < 1000) {P : Prop} (h : nI k < 0) : P := absurd h (jI_nn (by omega))
theorem l154 {t0 o : Nat} (ho : o < 8) {nt : Nat} {rk : Nat → Nat} (hW : Wf M) (h8 : nt ≤ 8) (hrk : ∀ t u, t < nt → u ≤ 7 → M 67 (14 + 6 * t + 5) = nI u → u < nt ∧ rk u < rk t) : ∀ (n : Nat) (x : Int32), (x < 0 ∨ ∃ k, k < nt ∧ x = nI k ∧ rk k + 1 < n) → 0 < n → mEv X (QE M (fun v => (v = nI 0 ∨ v = nI 1) ∧ (v = nI 0 → ∀ k, k < nt → x = nI k → ¬ Rch (M 67) o k))) 154 2 [some (.ref 66), some (.int (nI t0)), some (.int (nI o)), some (.int x)] [] (con M) := by
  have hm : mMet 154 = some _ := rfl
  intro n
  induction n with
  | zero =>
    intro x hx hn
    exact absurd hn (by omega)
  | succ n ih =>
    intro x hx hn
    refine x_iload_n hm rfl rfl ?_
    refine x_if_lt hm rfl (t := 21) rfl (fun h1 => ?_) (fun h1 => ?_)
    · refine x_iload_n hm rfl rfl ?_
      refine x_if_lt hm rfl (t := 29) rfl (fun h2 => ?_) (fun h2 => ?_)
      · refine x_iconst hm rfl (v := nI 0) (by decide) ?_
        refine x_iret hm rfl rfl (by first | rfl | exact bI_nar | decide) ?_
        exact ⟨_, rfl, rfl, by first | exact Or.inl rfl | exact Or.inr rfl, fun e k hk he => by first | exact absurd e (by decide) | (subst he; exact absurd (by assumption : nI k < 0) (jI_nn (by omega)))⟩
      · refine x_iconst hm rfl (v := nI 1) (by decide) ?_
        refine x_goto hm rfl (t := 30) rfl ?_
        refine x_iret hm rfl rfl (by first | rfl | exact bI_nar | decide) ?_
        exact ⟨_, rfl, rfl, by first | exact Or.inl rfl | exact Or.inr rfl, fun e k hk he => by first | exact absurd e (by decide) | (subst he; exact absurd (by assumption : nI k < 0) (jI_nn (by omega)))⟩
    · refine x_iload_n hm rfl rfl ?_
      refine x_iload_n hm rfl rfl ?_
      refine x_icmp_eq hm rfl (t := 21) rfl (fun h3 => ?_) (fun h3 => ?_)
      · refine x_iload_n hm rfl rfl ?_
        refine x_if_lt hm rfl (t := 29) rfl (fun h4 => ?_) (fun h4 => ?_)
        · refine x_iconst hm rfl (v := nI 0) (by decide) ?_
          refine x_iret hm rfl rfl (by first | rfl | exact bI_nar | decide) ?_
          exact ⟨_, rfl, rfl, by first | exact Or.inl rfl | exact Or.inr rfl, fun e k hk he => by first | exact absurd e (by decide) | (subst he; exact absurd (by assumption : nI k < 0) (jI_nn (by omega)))⟩
        · refine x_iconst hm rfl (v := nI 1) (by decide) ?_
          refine x_goto hm rfl (t := 30) rfl ?_
          refine x_iret hm rfl rfl (by first | rfl | exact bI_nar | decide) ?_
          exact ⟨_, rfl, rfl, by first | exact Or.inl rfl | exact Or.inr rfl, fun e k hk he => by first | exact absurd e (by decide) | (subst he; exact absurd (by assumption : nI k < 0) (jI_nn (by omega)))⟩
      · obtain ⟨k, hk, rfl, hm2⟩ := hx.resolve_left h1
        have hno := h3
        refine x_aload_n hm rfl rfl ?_
        refine x_iload_n hm rfl rfl ?_
        refine x_iconst hm rfl (v := nI 5) (by decide) ?_
        refine x_callV hm rfl rfl (t143 (by omega) (by omega)) ?_
        refine x_istore_n hm rfl rfl ?_
        refine x_goto hm rfl (t := 2) rfl ?_
        refine ev_mono (ih _ (hang_next hW h8 hrk hk hm2) (by omega)) ?_
        rintro r D ⟨v, e1, e2, h01, hnr⟩
        refine ⟨v, e1, e2, h01, fun e j hj he hR => ?_⟩
        obtain rfl := jI_inj (by omega) (by omega) he
        obtain ⟨f, hf⟩ := hR
        cases f with
        | zero => exact hf
        | succ f =>
          rcases hf with e3 | ⟨w, hw, e3, hf⟩
          · exact hno (by rw [e3])
          · exact hnr e w (hrk _ w hk hw e3).1 e3 ⟨f, hf⟩
theorem t154 {t o nt : Nat} (hI : Inv M) (hnt : M 67 1 = nI nt) (h8 : nt ≤ 8) (ht : t < nt) (ho : o < 8) : ∃ v, mT X 154 [.ref 66, .int (nI t), .int (nI o)] (con M) (some (.int v)) (con M) ∧ ((v = nI 0 ∨ v = nI 1) ∧ (v = nI 0 → ¬ Rch (M 67) o t)) := by
  refine te_of (row := _) rfl (Nat.le_of_ble_eq_true rfl) ?_
  have hm : mMet 154 = some _ := rfl
  obtain ⟨rk, hrk⟩ := hI.2.1 nt h8 hnt
  refine x_iload_n hm rfl rfl ?_
  refine x_istore_n hm rfl rfl ?_
  refine ev_mono (l154 ho hI.1 h8 hrk (rk t + 2) _ (Or.inr ⟨t, ht, rfl, by omega⟩) (by omega)) ?_
  rintro r D ⟨v, e1, e2, h01, hnr⟩
  exact ⟨v, e1, e2, h01, fun e => hnr e t ht rfl⟩
theorem l195 {t0 : Int32} {nt : Nat} {rk : Nat → Nat} (hW : Wf M) (h8 : nt ≤ 8) (hrk : ∀ t u, t < nt → u ≤ 7 → M 67 (14 + 6 * t + 5) = nI u → u < nt ∧ rk u < rk t) : ∀ (n : Nat) (x s : Int32), (x < 0 ∨ ∃ k, k < nt ∧ x = nI k ∧ rk k + 1 < n) → 0 < n → mEv X (QI (fun _ M' => Sf M M')) 195 24 [some (.ref 66), some (.int t0), some (.int s), some (.int x)] [] (con M) := by
  have hm : mMet 195 = some _ := rfl
  intro n
  induction n with
  | zero =>
    intro x s hx hn
    exact absurd hn (by omega)
  | succ n ih =>
    intro x s hx hn
    refine x_iload_n hm rfl rfl ?_
    refine x_if_lt hm rfl (t := 41) rfl (fun h1 => ?_) (fun h1 => ?_)
    · refine x_iload_n hm rfl rfl ?_
      refine x_iret hm rfl rfl (by first | rfl | exact bI_nar | decide) ?_
      exact ⟨_, _, rfl, rfl, Sf.rf⟩
    · obtain ⟨k, hk, rfl, hm2⟩ := hx.resolve_left h1
      refine x_iinc hm rfl rfl (v := nI 1) (by decide) rfl ?_
      refine x_aload_n hm rfl rfl ?_
      refine x_iload_n hm rfl rfl ?_
      refine x_iconst hm rfl (v := nI 5) (by decide) ?_
      refine x_callV hm rfl rfl (t143 (by omega) (by omega)) ?_
      refine x_istore_n hm rfl rfl ?_
      refine x_goto hm rfl (t := 24) rfl ?_
      exact ih _ _ (hang_next hW h8 hrk hk hm2) (by omega)
theorem t195 {a1 : Int32} (hI : Inv M) : ∃ v M', mT X 195 [.ref 66, .int a1] (con M) (some (.int v)) (con M') ∧ Inv M' := by
  refine ti_of (row := _) rfl (Nat.le_of_ble_eq_true rfl) ?_
  have hm : mMet 195 = some _ := rfl
  obtain ⟨nt, hn8, hnt⟩ := hI.1.nt
  obtain ⟨rk, hrk⟩ := hI.2.1 nt hn8 hnt
  refine x_aload_n hm rfl rfl ?_
  refine x_iload_n hm rfl rfl ?_
  refine x_callV hm rfl rfl (t139) ?_
  refine x_if_ne hm rfl (t := 15) rfl (fun h1 => ?_) (fun h1 => ?_)
  · obtain ⟨t, ht, rfl⟩ := in_k hnt (by omega) (bI_ne0 h1)
    refine x_iconst hm rfl (v := nI 0) (by decide) ?_
    refine x_istore_n hm rfl rfl ?_
    refine x_aload_n hm rfl rfl ?_
    refine x_iload_n hm rfl rfl ?_
    refine x_iconst hm rfl (v := nI 5) (by decide) ?_
    refine x_callV hm rfl rfl (t143 (by omega) (by omega)) ?_
    refine x_istore_n hm rfl rfl ?_
    exact ev_inv hI (l195 hI.1 hn8 hrk (rk t + 2) _ _ (hang_next hI.1 hn8 hrk ht (by omega)) (by omega))
  · refine x_aload_n hm rfl rfl ?_
    refine x_ldcI hm rfl (v := (-1000001 : Int32)) (by decide) ?_
    refine x_cVi hm rfl rfl (t135 (by decide)) (fun v2 M2 r2 => ?_)
    refine x_iret hm rfl rfl (by first | rfl | exact bI_nar | decide) ?_
    exact ⟨_, _, rfl, rfl, by first | exact hI | exact (r1.2.inv hI) | exact (r2.2.inv hI) | exact (r3.2.inv hI) | exact (r4.2.inv hI) | exact (r1.inv hI) | exact (r2.inv hI) | exact (r3.inv hI) | exact (r4.inv hI)⟩
theorem l194 {t : Nat} (hI : Inv M) (ht : t < 8) {nb : Nat} (hnb : M 67 1 = nI nb) (h8 : nb ≤ 8) : ∀ (n k : Nat) (s : Int32), nb - k < n → k ≤ nb → mEv X (QE M (fun _ => True)) 194 4 [some (.ref 66), some (.int (nI t)), some (.int s), some (.int (nI k))] [] (con M) := by
  have hm : mMet 194 = some _ := rfl
  intro n
  induction n with
  | zero =>
    intro k s hkn hkb
    omega
  | succ n ih =>
    intro k s hkn hkb
    refine x_iload_n hm rfl rfl ?_
    refine x_aload_n hm rfl rfl ?_
    refine x_getf hm rfl (gR rfl rfl) ?_
    refine x_iconst hm rfl (v := nI 1) (by decide) ?_
    refine x_iald hm rfl (lI rfl (by omega) (by decide)) ?_
    rw [hnb]
    refine x_icmp_ge hm rfl (t := 39) rfl (fun h1 => ?_) (fun h1 => ?_)
    · refine x_iload_n hm rfl rfl ?_
      refine x_iret hm rfl rfl (by first | rfl | exact bI_nar | decide) ?_
      exact ⟨_, rfl, rfl, trivial⟩
    · have hk : k < nb := Nat.lt_of_not_le fun h => h1 (nI_le h (by omega))
      refine x_iload_n hm rfl rfl ?_
      refine x_aload_n hm rfl rfl ?_
      refine x_iload_n hm rfl rfl ?_
      refine x_iload_n hm rfl rfl ?_
      refine x_cVe hm rfl rfl (t154 hI hnb h8 hk (by omega)) (fun v2 r2 => ?_)
      refine x_if_eq hm rfl (t := 30) rfl (fun h3 => ?_) (fun h3 => ?_)
      · refine x_iconst hm rfl (v := nI 0) (by decide) ?_
        refine x_ior hm rfl ?_
        refine x_istore_n hm rfl rfl ?_
        refine x_iinc hm rfl rfl (v := nI 1) (by decide) rfl ?_
        rw [jI_add]
        refine x_goto hm rfl (t := 4) rfl ?_
        exact ih _ _ (by omega) (by omega)
      · refine x_iconst hm rfl (v := nI 1) (by decide) ?_
        refine x_iload_n hm rfl rfl ?_
        refine x_ishl hm rfl ?_
        refine x_goto hm rfl (t := 31) rfl ?_
        refine x_ior hm rfl ?_
        refine x_istore_n hm rfl rfl ?_
        refine x_iinc hm rfl rfl (v := nI 1) (by decide) rfl ?_
        rw [jI_add]
        refine x_goto hm rfl (t := 4) rfl ?_
        exact ih _ _ (by omega) (by omega)
theorem t194 {t : Nat} (hI : Inv M) (ht : t < 8) : ∃ v, mT X 194 [.ref 66, .int (nI t)] (con M) (some (.int v)) (con M) ∧ True := by
  refine te_of (row := _) rfl (Nat.le_of_ble_eq_true rfl) ?_
  have hm : mMet 194 = some _ := rfl
  obtain ⟨nb, h8, hnb⟩ := hI.1.nt
  refine x_iconst hm rfl (v := nI 0) (by decide) ?_
  refine x_istore_n hm rfl rfl ?_
  refine x_iconst hm rfl (v := nI 0) (by decide) ?_
  refine x_istore_n hm rfl rfl ?_
  exact l194 hI ht hnb h8 _ 0 _ (Nat.lt_succ_self _) (Nat.zero_le _)
theorem t193 {a1 : Int32} (hI : Inv M) : ∃ v M', mT X 193 [.ref 66, .int a1] (con M) (some (.int v)) (con M') ∧ Inv M' := by
  refine ti_of (row := _) rfl (Nat.le_of_ble_eq_true rfl) ?_
  have hm : mMet 193 = some _ := rfl
  obtain ⟨nt, hn8, hnt⟩ := hI.1.nt
  refine x_aload_n hm rfl rfl ?_
  refine x_iload_n hm rfl rfl ?_
  refine x_callV hm rfl rfl (t139) ?_
  refine x_if_eq hm rfl (t := 16) rfl (fun h1 => ?_) (fun h1 => ?_)
  · refine x_aload_n hm rfl rfl ?_
    refine x_ldcI hm rfl (v := (-1000001 : Int32)) (by decide) ?_
    refine x_cVi hm rfl rfl (t135 (by decide)) (fun v2 M2 r2 => ?_)
    refine x_iret hm rfl rfl (by first | rfl | exact bI_nar | decide) ?_
    exact ⟨_, _, rfl, rfl, by first | exact hI | exact (r1.2.inv hI) | exact (r2.2.inv hI) | exact (r3.2.inv hI) | exact (r4.2.inv hI) | exact (r1.inv hI) | exact (r2.inv hI) | exact (r3.inv hI) | exact (r4.inv hI)⟩
  · obtain ⟨t, ht, rfl⟩ := in_k hnt (by omega) (bI_ne0 h1)
    refine x_aload_n hm rfl rfl ?_
    refine x_iload_n hm rfl rfl ?_
    refine x_cVe hm rfl rfl (t194 hI (by omega)) (fun v3 r3 => ?_)
    refine x_goto hm rfl (t := 22) rfl ?_
    refine x_iret hm rfl rfl (by first | rfl | exact bI_nar | decide) ?_
    exact ⟨_, _, rfl, rfl, by first | exact hI | exact (r1.2.inv hI) | exact (r2.2.inv hI) | exact (r3.2.inv hI) | exact (r4.2.inv hI) | exact (r1.inv hI) | exact (r2.inv hI) | exact (r3.inv hI) | exact (r4.inv hI)⟩
theorem l196 (hI : Inv M) {nb : Nat} (hnb : M 67 1 = nI nb) (h8 : nb ≤ 8) : ∀ (n k : Nat) (b s : Int32) (x4 : Option Value), nb - k < n → k ≤ nb → mEv X (QI (fun _ M' => Inv M')) 196 6 [some (.ref 66), some (.int b), some (.int s), some (.int (nI k)), x4] [] (con M) := by
  have hm : mMet 196 = some _ := rfl
  intro n
  induction n with
  | zero =>
    intro k b s x4 hkn hkb
    omega
  | succ n ih =>
    intro k b s x4 hkn hkb
    refine x_iload_n hm rfl rfl ?_
    refine x_aload_n hm rfl rfl ?_
    refine x_getf hm rfl (gR rfl rfl) ?_
    refine x_iconst hm rfl (v := nI 1) (by decide) ?_
    refine x_iald hm rfl (lI rfl (by omega) (by decide)) ?_
    rw [hnb]
    refine x_icmp_ge hm rfl (t := 51) rfl (fun h1 => ?_) (fun h1 => ?_)
    · refine x_aload_n hm rfl rfl ?_
      refine x_iload_n hm rfl rfl ?_
      refine x_cVi hm rfl rfl (t177) (fun v2 M2 r2 => ?_)
      refine x_iret hm rfl rfl (by first | rfl | exact bI_nar | decide) ?_
      exact ⟨_, _, rfl, rfl, by first | exact hI | exact (r1.2.inv hI) | exact (r2.2.inv hI) | exact (r3.2.inv hI) | exact (r4.2.inv hI) | exact (r1.inv hI) | exact (r2.inv hI) | exact (r3.inv hI) | exact (r4.inv hI)⟩
    · have hk : k < nb := Nat.lt_of_not_le fun h => h1 (nI_le h (by omega))
      refine x_aload_n hm rfl rfl ?_
      refine x_iload_n hm rfl rfl ?_
      refine x_cVe hm rfl rfl (t194 hI (by omega)) (fun v3 r3 => ?_)
      refine x_cSe hm rfl rfl (t168) (fun v4 r4 => ?_)
      refine x_istore hm rfl rfl ?_
      refine x_iload hm rfl rfl ?_
      refine x_iload_n hm rfl rfl ?_
      refine x_icmp_le hm rfl (t := 36) rfl (fun h5 => ?_) (fun h5 => ?_)
      · refine x_iload_n hm rfl rfl ?_
        refine x_istore_n hm rfl rfl ?_
        refine x_iload_n hm rfl rfl ?_
        refine x_iload hm rfl rfl ?_
        refine x_lib hm rfl rfl ?_
        dsimp only
        refine x_istore_n hm rfl rfl ?_
        refine x_iinc hm rfl rfl (v := nI 1) (by decide) rfl ?_
        rw [jI_add]
        refine x_goto hm rfl (t := 6) rfl ?_
        exact ih _ _ _ _ (by omega) (by omega)
      · refine x_iload_n hm rfl rfl ?_
        refine x_goto hm rfl (t := 37) rfl ?_
        refine x_istore_n hm rfl rfl ?_
        refine x_iload_n hm rfl rfl ?_
        refine x_iload hm rfl rfl ?_
        refine x_lib hm rfl rfl ?_
        dsimp only
        refine x_istore_n hm rfl rfl ?_
        refine x_iinc hm rfl rfl (v := nI 1) (by decide) rfl ?_
        rw [jI_add]
        refine x_goto hm rfl (t := 6) rfl ?_
        exact ih _ _ _ _ (by omega) (by omega)
theorem t196  (hI : Inv M) : ∃ v M', mT X 196 [.ref 66] (con M) (some (.int v)) (con M') ∧ Inv M' := by
  refine ti_of (row := _) rfl (Nat.le_of_ble_eq_true rfl) ?_
  have hm : mMet 196 = some _ := rfl
  obtain ⟨nb, h8, hnb⟩ := hI.1.nt
  refine x_iconst hm rfl (v := (-1 : Int32)) (by decide) ?_
  refine x_istore_n hm rfl rfl ?_
  refine x_iconst hm rfl (v := nI 0) (by decide) ?_
  refine x_istore_n hm rfl rfl ?_
  refine x_iconst hm rfl (v := nI 0) (by decide) ?_
  refine x_istore_n hm rfl rfl ?_
  exact l196 hI hnb h8 _ 0 _ _ _ (Nat.lt_succ_self _) (Nat.zero_le _)
theorem l197 (hW : Wf M) {nb : Nat} (hnb : M 67 1 = nI nb) (h8 : nb ≤ 8) : ∀ (n k : Nat) (s : Int32), nb - k < n → k ≤ nb → mEv X (QE M (fun _ => True)) 197 4 [some (.ref 66), some (.int s), some (.int (nI k))] [] (con M) := by
  have hm : mMet 197 = some _ := rfl
  intro n
  induction n with
  | zero =>
    intro k s hkn hkb
    omega
  | succ n ih =>
    intro k s hkn hkb
    refine x_iload_n hm rfl rfl ?_
    refine x_aload_n hm rfl rfl ?_
    refine x_getf hm rfl (gR rfl rfl) ?_
    refine x_iconst hm rfl (v := nI 1) (by decide) ?_
    refine x_iald hm rfl (lI rfl (by omega) (by decide)) ?_
    rw [hnb]
    refine x_icmp_ge hm rfl (t := 39) rfl (fun h1 => ?_) (fun h1 => ?_)
    · refine x_iload_n hm rfl rfl ?_
      refine x_iret hm rfl rfl (by first | rfl | exact bI_nar | decide) ?_
      exact ⟨_, rfl, rfl, trivial⟩
    · have hk : k < nb := Nat.lt_of_not_le fun h => h1 (nI_le h (by omega))
      refine x_iload_n hm rfl rfl ?_
      refine x_aload_n hm rfl rfl ?_
      refine x_iload_n hm rfl rfl ?_
      refine x_iconst hm rfl (v := nI 5) (by decide) ?_
      refine x_callV hm rfl rfl (t143 (by omega) (by omega)) ?_
      refine x_if_ge hm rfl (t := 30) rfl (fun h2 => ?_) (fun h2 => ?_)
      · refine x_iconst hm rfl (v := nI 0) (by decide) ?_
        refine x_ior hm rfl ?_
        refine x_istore_n hm rfl rfl ?_
        refine x_iinc hm rfl rfl (v := nI 1) (by decide) rfl ?_
        rw [jI_add]
        refine x_goto hm rfl (t := 4) rfl ?_
        exact ih _ _ (by omega) (by omega)
      · refine x_iconst hm rfl (v := nI 1) (by decide) ?_
        refine x_iload_n hm rfl rfl ?_
        refine x_ishl hm rfl ?_
        refine x_goto hm rfl (t := 31) rfl ?_
        refine x_ior hm rfl ?_
        refine x_istore_n hm rfl rfl ?_
        refine x_iinc hm rfl rfl (v := nI 1) (by decide) rfl ?_
        rw [jI_add]
        refine x_goto hm rfl (t := 4) rfl ?_
        exact ih _ _ (by omega) (by omega)
theorem t197 (hW : Wf M) : ∃ v, mT X 197 [.ref 66] (con M) (some (.int v)) (con M) ∧ True := by
  refine te_of (row := _) rfl (Nat.le_of_ble_eq_true rfl) ?_
  have hm : mMet 197 = some _ := rfl
  obtain ⟨nb, h8, hnb⟩ := hW.nt
  refine x_iconst hm rfl (v := nI 0) (by decide) ?_
  refine x_istore_n hm rfl rfl ?_
  refine x_iconst hm rfl (v := nI 0) (by decide) ?_
  refine x_istore_n hm rfl rfl ?_
  exact l197 hW hnb h8 _ 0 _ (Nat.lt_succ_self _) (Nat.zero_le _)
theorem l200 {p : Nat} {a2 : Int32} (hW : Wf M) (hp : p < 8) {nb : Nat} (hnb : M 67 1 = nI nb) (h8 : nb ≤ 8) : ∀ (n k : Nat) (s : Int32), nb - k < n → k ≤ nb → mEv X (QE M (fun _ => True)) 200 5 [some (.ref 66), some (.int (nI p)), some (.int a2), some (.int s), some (.int (nI k))] [] (con M) := by
  have hm : mMet 200 = some _ := rfl
  intro n
  induction n with
  | zero =>
    intro k s hkn hkb
    omega
  | succ n ih =>
    intro k s hkn hkb
    refine x_iload hm rfl rfl ?_
    refine x_aload_n hm rfl rfl ?_
    refine x_getf hm rfl (gR rfl rfl) ?_
    refine x_iconst hm rfl (v := nI 1) (by decide) ?_
    refine x_iald hm rfl (lI rfl (by omega) (by decide)) ?_
    rw [hnb]
    refine x_icmp_ge hm rfl (t := 46) rfl (fun h1 => ?_) (fun h1 => ?_)
    · refine x_iload_n hm rfl rfl ?_
      refine x_iret hm rfl rfl (by first | rfl | exact bI_nar | decide) ?_
      exact ⟨_, rfl, rfl, trivial⟩
    · have hk : k < nb := Nat.lt_of_not_le fun h => h1 (nI_le h (by omega))
      refine x_iload_n hm rfl rfl ?_
      refine x_iload_n hm rfl rfl ?_
      refine x_iload hm rfl rfl ?_
      refine x_cSe hm rfl rfl (t191) (fun v2 r2 => ?_)
      refine x_if_eq hm rfl (t := 37) rfl (fun h3 => ?_) (fun h3 => ?_)
      · refine x_iconst hm rfl (v := nI 0) (by decide) ?_
        refine x_iadd hm rfl ?_
        refine x_istore_n hm rfl rfl ?_
        refine x_iinc hm rfl rfl (v := nI 1) (by decide) rfl ?_
        rw [jI_add]
        refine x_goto hm rfl (t := 5) rfl ?_
        exact ih _ _ (by omega) (by omega)
      · refine x_aload_n hm rfl rfl ?_
        refine x_iload_n hm rfl rfl ?_
        refine x_iload hm rfl rfl ?_
        refine x_iconst hm rfl (v := (-1 : Int32)) (by decide) ?_
        refine x_cVe hm rfl rfl (t145 hW (by omega) (by omega) okM1) (fun v4 r4 => ?_)
        refine x_goto hm rfl (t := 38) rfl ?_
        refine x_iadd hm rfl ?_
        refine x_istore_n hm rfl rfl ?_
        refine x_iinc hm rfl rfl (v := nI 1) (by decide) rfl ?_
        rw [jI_add]
        refine x_goto hm rfl (t := 5) rfl ?_
        exact ih _ _ (by omega) (by omega)
theorem t200 {p : Nat} {a2 : Int32} (hW : Wf M) (hp : p < 8) : ∃ v, mT X 200 [.ref 66, .int (nI p), .int a2] (con M) (some (.int v)) (con M) ∧ True := by
  refine te_of (row := _) rfl (Nat.le_of_ble_eq_true rfl) ?_
  have hm : mMet 200 = some _ := rfl
  obtain ⟨nb, h8, hnb⟩ := hW.nt
  refine x_iconst hm rfl (v := nI 0) (by decide) ?_
  refine x_istore_n hm rfl rfl ?_
  refine x_iconst hm rfl (v := nI 0) (by decide) ?_
  refine x_istore hm rfl rfl ?_
  exact l200 hW hp hnb h8 _ 0 _ (Nat.lt_succ_self _) (Nat.zero_le _)
theorem t199 {v : Int32} {nt : Nat} (hnt : M 67 1 = nI nt) (h8 : nt ≤ 8) : mT X 199 [.ref 66, .int v] (con M) (some (.int (bI (nI 0 ≤ v ∧ v ≤ nI (2 ^ nt) - nI 1)))) (con M) := by
  refine mT.of (row := _) rfl (Nat.le_of_ble_eq_true rfl) ?_
  have hm : mMet 199 = some _ := rfl
  refine x_iload_n hm rfl rfl ?_
  refine x_iconst hm rfl (v := nI 0) (by decide) ?_
  refine x_iconst hm rfl (v := nI 1) (by decide) ?_
  refine x_aload_n hm rfl rfl ?_
  refine x_getf hm rfl (gR rfl rfl) ?_
  refine x_iconst hm rfl (v := nI 1) (by decide) ?_
  refine x_iald hm rfl (lI rfl (by omega) (by decide)) ?_
  rw [hnt]
  refine x_ishl hm rfl ?_
  rw [shl_k nt h8]
  refine x_iconst hm rfl (v := nI 1) (by decide) ?_
  refine x_isub hm rfl ?_
  refine x_callS hm rfl rfl (t133) ?_
  refine x_iret hm rfl rfl (by first | rfl | exact bI_nar | decide) ?_
  exact qt rfl
theorem t198 {a1 a2 : Int32} (hI : Inv M) : ∃ v M', mT X 198 [.ref 66, .int a1, .int a2] (con M) (some (.int v)) (con M') ∧ Inv M' := by
  refine ti_of (row := _) rfl (Nat.le_of_ble_eq_true rfl) ?_
  have hm : mMet 198 = some _ := rfl
  obtain ⟨np, hp8, hnp⟩ := hI.1.np
  obtain ⟨nt, hn8, hnt⟩ := hI.1.nt
  have hpw := pow_k hn8
  refine x_aload_n hm rfl rfl ?_
  refine x_iload_n hm rfl rfl ?_
  refine x_callV hm rfl rfl (t153) ?_
  refine x_if_eq hm rfl (t := 25) rfl (fun h1 => ?_) (fun h1 => ?_)
  · refine x_aload_n hm rfl rfl ?_
    refine x_ldcI hm rfl (v := (-1000001 : Int32)) (by decide) ?_
    refine x_cVi hm rfl rfl (t135 (by decide)) (fun v2 M2 r2 => ?_)
    refine x_iret hm rfl rfl (by first | rfl | exact bI_nar | decide) ?_
    exact ⟨_, _, rfl, rfl, by first | exact hI | exact (r1.2.inv hI) | exact (r2.2.inv hI) | exact (r3.2.inv hI) | exact (r4.2.inv hI) | exact (r1.inv hI) | exact (r2.inv hI) | exact (r3.inv hI) | exact (r4.inv hI)⟩
  · obtain ⟨p, hp, rfl⟩ := in_k hnp (by omega) (bI_ne0 h1)
    refine x_aload_n hm rfl rfl ?_
    refine x_iload_n hm rfl rfl ?_
    refine x_callV hm rfl rfl (t199 hnt hn8) ?_
    refine x_if_eq hm rfl (t := 25) rfl (fun h3 => ?_) (fun h3 => ?_)
    · refine x_aload_n hm rfl rfl ?_
      refine x_ldcI hm rfl (v := (-1000001 : Int32)) (by decide) ?_
      refine x_cVi hm rfl rfl (t135 (by decide)) (fun v4 M4 r4 => ?_)
      refine x_iret hm rfl rfl (by first | rfl | exact bI_nar | decide) ?_
      exact ⟨_, _, rfl, rfl, by first | exact hI | exact (r1.2.inv hI) | exact (r2.2.inv hI) | exact (r3.2.inv hI) | exact (r4.2.inv hI) | exact (r1.inv hI) | exact (r2.inv hI) | exact (r3.inv hI) | exact (r4.inv hI)⟩
    · obtain ⟨s, hs, rfl⟩ := in_k rfl (by omega) (bI_ne0 h3)
      refine x_aload_n hm rfl rfl ?_
      refine x_iload_n hm rfl rfl ?_
      refine x_iload_n hm rfl rfl ?_
      refine x_cVe hm rfl rfl (t200 hI.1 (by omega)) (fun v5 r5 => ?_)
      refine x_goto hm rfl (t := 31) rfl ?_
      refine x_iret hm rfl rfl (by first | rfl | exact bI_nar | decide) ?_
      exact ⟨_, _, rfl, rfl, by first | exact hI | exact (r1.2.inv hI) | exact (r2.2.inv hI) | exact (r3.2.inv hI) | exact (r4.2.inv hI) | exact (r1.inv hI) | exact (r2.inv hI) | exact (r3.inv hI) | exact (r4.inv hI)⟩
theorem t202 {a1 a2 a3 : Int32} (hI : Inv M) : ∃ v, mT X 202 [.ref 66, .int a1, .int a2, .int a3] (con M) (some (.int v)) (con M) ∧ (v = nI 0 ∨ (v = nI 1 ∧ ∃ p q s, p < 8 ∧ q < 8 ∧ s < 256 ∧ a1 = nI p ∧ a2 = nI q ∧ a3 = nI s)) := by
  refine te_of (row := _) rfl (Nat.le_of_ble_eq_true rfl) ?_
  have hm : mMet 202 = some _ := rfl
  obtain ⟨np, hp8, hnp⟩ := hI.1.np
  obtain ⟨nt, hn8, hnt⟩ := hI.1.nt
  have hpw := pow_k hn8
  refine x_aload_n hm rfl rfl ?_
  refine x_iload_n hm rfl rfl ?_
  refine x_callV hm rfl rfl (t153) ?_
  refine x_if_eq hm rfl (t := 33) rfl (fun h1 => ?_) (fun h1 => ?_)
  · refine x_iconst hm rfl (v := nI 0) (by decide) ?_
    refine x_iret hm rfl rfl (by first | rfl | exact bI_nar | decide) ?_
    exact ⟨_, rfl, rfl, by first | exact Or.inl rfl | exact Or.inr ⟨rfl, p, q, s, by omega, by omega, by omega, rfl, rfl, rfl⟩⟩
  · obtain ⟨p, hp, rfl⟩ := in_k hnp (by omega) (bI_ne0 h1)
    refine x_aload_n hm rfl rfl ?_
    refine x_iload_n hm rfl rfl ?_
    refine x_callV hm rfl rfl (t153) ?_
    refine x_if_eq hm rfl (t := 33) rfl (fun h2 => ?_) (fun h2 => ?_)
    · refine x_iconst hm rfl (v := nI 0) (by decide) ?_
      refine x_iret hm rfl rfl (by first | rfl | exact bI_nar | decide) ?_
      exact ⟨_, rfl, rfl, by first | exact Or.inl rfl | exact Or.inr ⟨rfl, p, q, s, by omega, by omega, by omega, rfl, rfl, rfl⟩⟩
    · obtain ⟨q, hq, rfl⟩ := in_k hnp (by omega) (bI_ne0 h2)
      refine x_iload_n hm rfl rfl ?_
      refine x_iload_n hm rfl rfl ?_
      refine x_icmp_eq hm rfl (t := 33) rfl (fun h3 => ?_) (fun h3 => ?_)
      · refine x_iconst hm rfl (v := nI 0) (by decide) ?_
        refine x_iret hm rfl rfl (by first | rfl | exact bI_nar | decide) ?_
        exact ⟨_, rfl, rfl, by first | exact Or.inl rfl | exact Or.inr ⟨rfl, p, q, s, by omega, by omega, by omega, rfl, rfl, rfl⟩⟩
      · refine x_aload_n hm rfl rfl ?_
        refine x_iload_n hm rfl rfl ?_
        refine x_callV hm rfl rfl (t199 hnt hn8) ?_
        refine x_if_eq hm rfl (t := 33) rfl (fun h4 => ?_) (fun h4 => ?_)
        · refine x_iconst hm rfl (v := nI 0) (by decide) ?_
          refine x_iret hm rfl rfl (by first | rfl | exact bI_nar | decide) ?_
          exact ⟨_, rfl, rfl, by first | exact Or.inl rfl | exact Or.inr ⟨rfl, p, q, s, by omega, by omega, by omega, rfl, rfl, rfl⟩⟩
        · obtain ⟨s, hs, rfl⟩ := in_k rfl (by omega) (bI_ne0 h4)
          refine x_iconst hm rfl (v := nI 1) (by decide) ?_
          refine x_goto hm rfl (t := 34) rfl ?_
          refine x_iret hm rfl rfl (by first | rfl | exact bI_nar | decide) ?_
          exact ⟨_, rfl, rfl, by first | exact Or.inl rfl | exact Or.inr ⟨rfl, p, q, s, by omega, by omega, by omega, rfl, rfl, rfl⟩⟩
theorem t203 {p q : Nat} {a3 a4 : Int32} (hI : Inv M) (hp : p < 8) (hq : q < 8) : ∃ v, mT X 203 [.ref 66, .int (nI p), .int (nI q), .int a3, .int a4] (con M) (some (.int v)) (con M) ∧ (v = nI 0 ∨ v = nI 1) := by
  refine te_of (row := _) rfl (Nat.le_of_ble_eq_true rfl) ?_
  have hm : mMet 203 = some _ := rfl
  refine x_aload_n hm rfl rfl ?_
  refine x_iload_n hm rfl rfl ?_
  refine x_iload hm rfl rfl ?_
  refine x_cVe hm rfl rfl (t200 hI.1 (by omega)) (fun v1 r1 => ?_)
  refine x_aload_n hm rfl rfl ?_
  refine x_iload_n hm rfl rfl ?_
  refine x_iload_n hm rfl rfl ?_
  refine x_cVe hm rfl rfl (t200 hI.1 (by omega)) (fun v2 r2 => ?_)
  refine x_icmp_gt hm rfl (t := 36) rfl (fun h3 => ?_) (fun h3 => ?_)
  · refine x_iconst hm rfl (v := nI 0) (by decide) ?_
    refine x_iret hm rfl rfl (by first | rfl | exact bI_nar | decide) ?_
    exact ⟨_, rfl, rfl, by first | exact Or.inl rfl | exact Or.inr rfl⟩
  · refine x_aload_n hm rfl rfl ?_
    refine x_iload_n hm rfl rfl ?_
    refine x_iload_n hm rfl rfl ?_
    refine x_cVe hm rfl rfl (t200 hI.1 (by omega)) (fun v4 r4 => ?_)
    refine x_aload_n hm rfl rfl ?_
    refine x_iload_n hm rfl rfl ?_
    refine x_iload hm rfl rfl ?_
    refine x_cVe hm rfl rfl (t200 hI.1 (by omega)) (fun v5 r5 => ?_)
    refine x_icmp_gt hm rfl (t := 36) rfl (fun h6 => ?_) (fun h6 => ?_)
    · refine x_iconst hm rfl (v := nI 0) (by decide) ?_
      refine x_iret hm rfl rfl (by first | rfl | exact bI_nar | decide) ?_
      exact ⟨_, rfl, rfl, by first | exact Or.inl rfl | exact Or.inr rfl⟩
    · refine x_iconst hm rfl (v := nI 1) (by decide) ?_
      refine x_goto hm rfl (t := 37) rfl ?_
      refine x_iret hm rfl rfl (by first | rfl | exact bI_nar | decide) ?_
      exact ⟨_, rfl, rfl, by first | exact Or.inl rfl | exact Or.inr rfl⟩
theorem l201 {p q s : Nat} (hI : Inv M) (hp : p < 8) (hq : q < 8) : ∀ (n : Nat) (x b : Int32), (x.toInt + 1).toNat < n → mEv X (QI (fun _ M' => Inv M')) 201 23 [some (.ref 66), some (.int (nI p)), some (.int (nI q)), some (.int (nI s)), some (.int b), some (.int x)] [] (con M) := by
  have hm : mMet 201 = some _ := rfl
  intro n
  induction n with
  | zero =>
    intro x b hx
    omega
  | succ n ih =>
    intro x b hx
    refine x_iload hm rfl rfl ?_
    refine x_if_lt hm rfl (t := 69) rfl (fun h1 => ?_) (fun h1 => ?_)
    · refine x_aload_n hm rfl rfl ?_
      refine x_iload hm rfl rfl ?_
      refine x_cVi hm rfl rfl (t177) (fun v2 M2 r2 => ?_)
      refine x_iret hm rfl rfl (by first | rfl | exact bI_nar | decide) ?_
      exact ⟨_, _, rfl, rfl, by first | exact hI | exact (r1.2.inv hI) | exact (r2.2.inv hI) | exact (r3.2.inv hI) | exact (r4.2.inv hI) | exact (r5.2.inv hI) | exact (r6.2.inv hI) | exact (r7.2.inv hI) | exact (r8.2.inv hI) | exact (r1.inv hI) | exact (r2.inv hI) | exact (r3.inv hI) | exact (r4.inv hI) | exact (r5.inv hI) | exact (r6.inv hI) | exact (r7.inv hI) | exact (r8.inv hI)⟩
    · have hx0 : ¬ x < 0 := h1
      have hd := dec_int hx0
      have hx1 : 0 ≤ x.toInt := by
        have := Int32.not_lt.mp hx0
        simpa using Int32.le_iff_toInt_le.mp this
      refine x_iload hm rfl rfl ?_
      refine x_iload_n hm rfl rfl ?_
      refine x_iconst hm rfl (v := (-1 : Int32)) (by decide) ?_
      refine x_ixor hm rfl ?_
      refine x_iand hm rfl ?_
      refine x_if_ne hm rfl (t := 59) rfl (fun h3 => ?_) (fun h3 => ?_)
      · refine x_iload hm rfl rfl ?_
        refine x_istore hm rfl rfl ?_
        refine x_iinc hm rfl rfl (v := (-1 : Int32)) (by decide) rfl ?_
        refine x_goto hm rfl (t := 23) rfl ?_
        exact ih _ _ (by omega)
      · refine x_aload_n hm rfl rfl ?_
        refine x_iload_n hm rfl rfl ?_
        refine x_iload_n hm rfl rfl ?_
        refine x_iload hm rfl rfl ?_
        refine x_iload_n hm rfl rfl ?_
        refine x_iload hm rfl rfl ?_
        refine x_iconst hm rfl (v := (-1 : Int32)) (by decide) ?_
        refine x_ixor hm rfl ?_
        refine x_iand hm rfl ?_
        refine x_cVe hm rfl rfl (t203 hI (by omega) (by omega)) (fun v4 r4 => ?_)
        refine x_if_eq hm rfl (t := 59) rfl (fun h5 => ?_) (fun h5 => ?_)
        · refine x_iload hm rfl rfl ?_
          refine x_istore hm rfl rfl ?_
          refine x_iinc hm rfl rfl (v := (-1 : Int32)) (by decide) rfl ?_
          refine x_goto hm rfl (t := 23) rfl ?_
          exact ih _ _ (by omega)
        · refine x_iload hm rfl rfl ?_
          refine x_goto hm rfl (t := 61) rfl ?_
          refine x_istore hm rfl rfl ?_
          refine x_iinc hm rfl rfl (v := (-1 : Int32)) (by decide) rfl ?_
          refine x_goto hm rfl (t := 23) rfl ?_
          exact ih _ _ (by omega)
theorem t201 {a1 a2 a3 : Int32} (hI : Inv M) : ∃ v M', mT X 201 [.ref 66, .int a1, .int a2, .int a3] (con M) (some (.int v)) (con M') ∧ Inv M' := by
  refine ti_of (row := _) rfl (Nat.le_of_ble_eq_true rfl) ?_
  have hm : mMet 201 = some _ := rfl
  refine x_aload_n hm rfl rfl ?_
  refine x_iload_n hm rfl rfl ?_
  refine x_iload_n hm rfl rfl ?_
  refine x_iload_n hm rfl rfl ?_
  refine x_cVe hm rfl rfl (t202 hI) (fun v1 r1 => ?_)
  refine x_if_ne hm rfl (t := 17) rfl (fun h2 => ?_) (fun h2 => ?_)
  · obtain ⟨-, p, q, s, hp, hq, hs, rfl, rfl, rfl⟩ := r1.resolve_left (fun e => by subst e; exact h2 rfl)
    refine x_iconst hm rfl (v := (-1 : Int32)) (by decide) ?_
    refine x_istore hm rfl rfl ?_
    refine x_iload_n hm rfl rfl ?_
    refine x_istore hm rfl rfl ?_
    exact l201 hI hp hq _ _ _ (Nat.lt_succ_self _)
  · refine x_aload_n hm rfl rfl ?_
    refine x_ldcI hm rfl (v := (-1000001 : Int32)) (by decide) ?_
    refine x_cVi hm rfl rfl (t135 (by decide)) (fun v3 M3 r3 => ?_)
    refine x_iret hm rfl rfl (by first | rfl | exact bI_nar | decide) ?_
    exact ⟨_, _, rfl, rfl, by first | exact hI | exact (r1.2.inv hI) | exact (r2.2.inv hI) | exact (r3.2.inv hI) | exact (r4.2.inv hI) | exact (r5.2.inv hI) | exact (r1.inv hI) | exact (r2.inv hI) | exact (r3.inv hI) | exact (r4.inv hI) | exact (r5.inv hI)⟩
theorem l205 {p q s : Nat} (hI : Inv M) (hp : p < 8) (hq : q < 8) (hs : s < 256) : ∀ (n k : Nat) (b : Int32), s + 1 - k < n → k ≤ s + 1 → mEv X (QI (fun _ M' => Inv M')) 205 6 [some (.ref 66), some (.int (nI p)), some (.int (nI q)), some (.int (nI s)), some (.int b), some (.int (nI k))] [] (con M) := by
  have hm : mMet 205 = some _ := rfl
  intro n
  induction n with
  | zero =>
    intro k b hkn hkb
    omega
  | succ n ih =>
    intro k b hkn hkb
    refine x_iload hm rfl rfl ?_
    refine x_iload_n hm rfl rfl ?_
    refine x_icmp_gt hm rfl (t := 54) rfl (fun h1 => ?_) (fun h1 => ?_)
    · refine x_iload hm rfl rfl ?_
      refine x_iret hm rfl rfl (by first | rfl | exact bI_nar | decide) ?_
      exact ⟨_, _, rfl, rfl, by first | exact hI | exact (r1.2.inv hI) | exact (r2.2.inv hI) | exact (r3.2.inv hI) | exact (r4.2.inv hI) | exact (r5.2.inv hI) | exact (r6.2.inv hI) | exact (r7.2.inv hI) | exact (r8.2.inv hI) | exact (r1.inv hI) | exact (r2.inv hI) | exact (r3.inv hI) | exact (r4.inv hI) | exact (r5.inv hI) | exact (r6.inv hI) | exact (r7.inv hI) | exact (r8.inv hI)⟩
    · have hk : k ≤ s := Nat.le_of_not_lt fun h => h1 (nI_lt h (by omega))
      refine x_iload hm rfl rfl ?_
      refine x_iload hm rfl rfl ?_
      refine x_iload_n hm rfl rfl ?_
      refine x_iconst hm rfl (v := (-1 : Int32)) (by decide) ?_
      refine x_ixor hm rfl ?_
      refine x_iand hm rfl ?_
      refine x_if_ne hm rfl (t := 44) rfl (fun h2 => ?_) (fun h2 => ?_)
      · refine x_iconst hm rfl (v := nI 0) (by decide) ?_
        refine x_iadd hm rfl ?_
        refine x_istore hm rfl rfl ?_
        refine x_iinc hm rfl rfl (v := nI 1) (by decide) rfl ?_
        rw [jI_add]
        refine x_goto hm rfl (t := 6) rfl ?_
        exact ih _ _ (by omega) (by omega)
      · refine x_aload_n hm rfl rfl ?_
        refine x_iload_n hm rfl rfl ?_
        refine x_iload_n hm rfl rfl ?_
        refine x_iload hm rfl rfl ?_
        refine x_iload_n hm rfl rfl ?_
        refine x_iload hm rfl rfl ?_
        refine x_iconst hm rfl (v := (-1 : Int32)) (by decide) ?_
        refine x_ixor hm rfl ?_
        refine x_iand hm rfl ?_
        refine x_cVe hm rfl rfl (t203 hI (by omega) (by omega)) (fun v3 r3 => ?_)
        refine x_if_eq hm rfl (t := 44) rfl (fun h4 => ?_) (fun h4 => ?_)
        · refine x_iconst hm rfl (v := nI 0) (by decide) ?_
          refine x_iadd hm rfl ?_
          refine x_istore hm rfl rfl ?_
          refine x_iinc hm rfl rfl (v := nI 1) (by decide) rfl ?_
          rw [jI_add]
          refine x_goto hm rfl (t := 6) rfl ?_
          exact ih _ _ (by omega) (by omega)
        · refine x_iconst hm rfl (v := nI 1) (by decide) ?_
          refine x_goto hm rfl (t := 45) rfl ?_
          refine x_iadd hm rfl ?_
          refine x_istore hm rfl rfl ?_
          refine x_iinc hm rfl rfl (v := nI 1) (by decide) rfl ?_
          rw [jI_add]
          refine x_goto hm rfl (t := 6) rfl ?_
          exact ih _ _ (by omega) (by omega)
theorem t205 {p q s : Nat} (hp : p < 8) (hq : q < 8) (hs : s < 256) (hI : Inv M) : ∃ v M', mT X 205 [.ref 66, .int (nI p), .int (nI q), .int (nI s)] (con M) (some (.int v)) (con M') ∧ Inv M' := by
  refine ti_of (row := _) rfl (Nat.le_of_ble_eq_true rfl) ?_
  have hm : mMet 205 = some _ := rfl
  refine x_iconst hm rfl (v := nI 0) (by decide) ?_
  refine x_istore hm rfl rfl ?_
  refine x_iconst hm rfl (v := nI 0) (by decide) ?_
  refine x_istore hm rfl rfl ?_
  exact l205 hI hp hq hs _ 0 _ (Nat.lt_succ_self _) (Nat.zero_le _)
theorem t204 {a1 a2 a3 : Int32} (hI : Inv M) : ∃ v M', mT X 204 [.ref 66, .int a1, .int a2, .int a3] (con M) (some (.int v)) (con M') ∧ Inv M' := by
  refine ti_of (row := _) rfl (Nat.le_of_ble_eq_true rfl) ?_
  have hm : mMet 204 = some _ := rfl
  refine x_aload_n hm rfl rfl ?_
  refine x_iload_n hm rfl rfl ?_
  refine x_iload_n hm rfl rfl ?_
  refine x_iload_n hm rfl rfl ?_
  refine x_cVe hm rfl rfl (t202 hI) (fun v1 r1 => ?_)
  refine x_if_eq hm rfl (t := 20) rfl (fun h2 => ?_) (fun h2 => ?_)
  · refine x_aload_n hm rfl rfl ?_
    refine x_ldcI hm rfl (v := (-1000001 : Int32)) (by decide) ?_
    refine x_cVi hm rfl rfl (t135 (by decide)) (fun v3 M3 r3 => ?_)
    refine x_iret hm rfl rfl (by first | rfl | exact bI_nar | decide) ?_
    exact ⟨_, _, rfl, rfl, by first | exact r3 | exact r4 | exact (r3.2.inv hI) | exact (r4.2.inv hI) | exact (r5.2.inv hI)⟩
  · obtain ⟨-, p, q, s, hp, hq, hs, rfl, rfl, rfl⟩ := r1.resolve_left (fun e => by subst e; exact h2 rfl)
    refine x_aload_n hm rfl rfl ?_
    refine x_iload_n hm rfl rfl ?_
    refine x_iload_n hm rfl rfl ?_
    refine x_iload_n hm rfl rfl ?_
    refine x_cVi hm rfl rfl (t205 (by omega) (by omega) (by omega) hI) (fun v4 M4 r4 => ?_)
    refine x_goto hm rfl (t := 26) rfl ?_
    refine x_iret hm rfl rfl (by first | rfl | exact bI_nar | decide) ?_
    exact ⟨_, _, rfl, rfl, by first | exact r3 | exact r4 | exact (r3.2.inv hI) | exact (r4.2.inv hI) | exact (r5.2.inv hI)⟩
theorem l206 {p q s : Nat} (hI : Inv M) (hp : p < 8) (hq : q < 8) (hs : s < 256) : ∀ (n k : Nat) (b c : Int32) (x7 : Option Value), s + 1 - k < n → k ≤ s + 1 → mEv X (QI (fun _ M' => Inv M')) 206 26 [some (.ref 66), some (.int (nI p)), some (.int (nI q)), some (.int (nI s)), some (.int b), some (.int c), some (.int (nI k)), x7] [] (con M) := by
  have hm : mMet 206 = some _ := rfl
  intro n
  induction n with
  | zero =>
    intro k b c x7 hkn hkb
    omega
  | succ n ih =>
    intro k b c x7 hkn hkb
    refine x_iload hm rfl rfl ?_
    refine x_iload_n hm rfl rfl ?_
    refine x_icmp_gt hm rfl (t := 99) rfl (fun h1 => ?_) (fun h1 => ?_)
    · refine x_iload hm rfl rfl ?_
      refine x_iret hm rfl rfl (by first | rfl | exact bI_nar | decide) ?_
      exact ⟨_, _, rfl, rfl, by first | exact hI | exact (r1.2.inv hI) | exact (r2.2.inv hI) | exact (r3.2.inv hI) | exact (r4.2.inv hI) | exact (r5.2.inv hI) | exact (r6.2.inv hI) | exact (r7.2.inv hI) | exact (r8.2.inv hI) | exact (r1.inv hI) | exact (r2.inv hI) | exact (r3.inv hI) | exact (r4.inv hI) | exact (r5.inv hI) | exact (r6.inv hI) | exact (r7.inv hI) | exact (r8.inv hI)⟩
    · have hk : k ≤ s := Nat.le_of_not_lt fun h => h1 (nI_lt h (by omega))
      refine x_iload hm rfl rfl ?_
      refine x_iload_n hm rfl rfl ?_
      refine x_iconst hm rfl (v := (-1 : Int32)) (by decide) ?_
      refine x_ixor hm rfl ?_
      refine x_iand hm rfl ?_
      refine x_if_ne hm rfl (t := 65) rfl (fun h2 => ?_) (fun h2 => ?_)
      · refine x_iconst hm rfl (v := (-1 : Int32)) (by decide) ?_
        refine x_istore hm rfl rfl ?_
        refine x_iload hm rfl rfl ?_
        refine x_iload hm rfl rfl ?_
        refine x_icmp_le hm rfl (t := 80) rfl (fun h3 => ?_) (fun h3 => ?_)
        · refine x_iload hm rfl rfl ?_
          refine x_istore hm rfl rfl ?_
          refine x_iload hm rfl rfl ?_
          refine x_iload hm rfl rfl ?_
          refine x_lib hm rfl rfl ?_
          dsimp only
          refine x_istore hm rfl rfl ?_
          refine x_iinc hm rfl rfl (v := nI 1) (by decide) rfl ?_
          rw [jI_add]
          refine x_goto hm rfl (t := 26) rfl ?_
          exact ih _ _ _ _ (by omega) (by omega)
        · refine x_iload hm rfl rfl ?_
          refine x_goto hm rfl (t := 82) rfl ?_
          refine x_istore hm rfl rfl ?_
          refine x_iload hm rfl rfl ?_
          refine x_iload hm rfl rfl ?_
          refine x_lib hm rfl rfl ?_
          dsimp only
          refine x_istore hm rfl rfl ?_
          refine x_iinc hm rfl rfl (v := nI 1) (by decide) rfl ?_
          rw [jI_add]
          refine x_goto hm rfl (t := 26) rfl ?_
          exact ih _ _ _ _ (by omega) (by omega)
      · refine x_aload_n hm rfl rfl ?_
        refine x_iload_n hm rfl rfl ?_
        refine x_iload hm rfl rfl ?_
        refine x_cVe hm rfl rfl (t200 hI.1 (by omega)) (fun v4 r4 => ?_)
        refine x_aload_n hm rfl rfl ?_
        refine x_iload_n hm rfl rfl ?_
        refine x_iload_n hm rfl rfl ?_
        refine x_iload hm rfl rfl ?_
        refine x_iconst hm rfl (v := (-1 : Int32)) (by decide) ?_
        refine x_ixor hm rfl ?_
        refine x_iand hm rfl ?_
        refine x_cVe hm rfl rfl (t200 hI.1 (by omega)) (fun v5 r5 => ?_)
        refine x_lib hm rfl rfl ?_
        dsimp only
        refine x_goto hm rfl (t := 66) rfl ?_
        refine x_istore hm rfl rfl ?_
        refine x_iload hm rfl rfl ?_
        refine x_iload hm rfl rfl ?_
        refine x_icmp_le hm rfl (t := 80) rfl (fun h6 => ?_) (fun h6 => ?_)
        · refine x_iload hm rfl rfl ?_
          refine x_istore hm rfl rfl ?_
          refine x_iload hm rfl rfl ?_
          refine x_iload hm rfl rfl ?_
          refine x_lib hm rfl rfl ?_
          dsimp only
          refine x_istore hm rfl rfl ?_
          refine x_iinc hm rfl rfl (v := nI 1) (by decide) rfl ?_
          rw [jI_add]
          refine x_goto hm rfl (t := 26) rfl ?_
          exact ih _ _ _ _ (by omega) (by omega)
        · refine x_iload hm rfl rfl ?_
          refine x_goto hm rfl (t := 82) rfl ?_
          refine x_istore hm rfl rfl ?_
          refine x_iload hm rfl rfl ?_
          refine x_iload hm rfl rfl ?_
          refine x_lib hm rfl rfl ?_
          dsimp only
          refine x_istore hm rfl rfl ?_
          refine x_iinc hm rfl rfl (v := nI 1) (by decide) rfl ?_
          rw [jI_add]
          refine x_goto hm rfl (t := 26) rfl ?_
          exact ih _ _ _ _ (by omega) (by omega)
theorem t206 {a1 a2 a3 : Int32} (hI : Inv M) : ∃ v M', mT X 206 [.ref 66, .int a1, .int a2, .int a3] (con M) (some (.int v)) (con M') ∧ Inv M' := by
  refine ti_of (row := _) rfl (Nat.le_of_ble_eq_true rfl) ?_
  have hm : mMet 206 = some _ := rfl
  refine x_aload_n hm rfl rfl ?_
  refine x_iload_n hm rfl rfl ?_
  refine x_iload_n hm rfl rfl ?_
  refine x_iload_n hm rfl rfl ?_
  refine x_cVe hm rfl rfl (t202 hI) (fun v1 r1 => ?_)
  refine x_if_ne hm rfl (t := 17) rfl (fun h2 => ?_) (fun h2 => ?_)
  · obtain ⟨-, p, q, s, hp, hq, hs, rfl, rfl, rfl⟩ := r1.resolve_left (fun e => by subst e; exact h2 rfl)
    refine x_iconst hm rfl (v := nI 0) (by decide) ?_
    refine x_istore hm rfl rfl ?_
    refine x_iconst hm rfl (v := (-1 : Int32)) (by decide) ?_
    refine x_istore hm rfl rfl ?_
    refine x_iconst hm rfl (v := nI 0) (by decide) ?_
    refine x_istore hm rfl rfl ?_
    exact l206 hI hp hq hs _ 0 _ _ _ (Nat.lt_succ_self _) (Nat.zero_le _)
  · refine x_aload_n hm rfl rfl ?_
    refine x_ldcI hm rfl (v := (-1000001 : Int32)) (by decide) ?_
    refine x_cVi hm rfl rfl (t135 (by decide)) (fun v3 M3 r3 => ?_)
    refine x_iret hm rfl rfl (by first | rfl | exact bI_nar | decide) ?_
    exact ⟨_, _, rfl, rfl, by first | exact hI | exact (r1.2.inv hI) | exact (r2.2.inv hI) | exact (r3.2.inv hI) | exact (r4.2.inv hI) | exact (r5.2.inv hI) | exact (r1.inv hI) | exact (r2.inv hI) | exact (r3.inv hI) | exact (r4.inv hI) | exact (r5.inv hI)⟩
theorem l207b {a nb : Nat} (hI : Inv M) (hnb : M 67 2 = nI nb) (h8 : nb ≤ 8) (ha : a < nb) (hout : ∀ (s : Int32) (x : Option Value), mEv X (QI (fun _ M' => Inv M')) 207 4 [some (.ref 66), some (.int s), some (.int (nI (a + 1))), x] [] (con M)) : ∀ (n k : Nat) (s : Int32), nb - k < n → k ≤ nb → mEv X (QI (fun _ M' => Inv M')) 207 16 [some (.ref 66), some (.int s), some (.int (nI a)), some (.int (nI k))] [] (con M) := by
  have hm : mMet 207 = some _ := rfl
  intro n
  induction n with
  | zero =>
    intro k s hkn hkb
    omega
  | succ n ih =>
    intro k s hkn hkb
    refine x_iload_n hm rfl rfl ?_
    refine x_aload_n hm rfl rfl ?_
    refine x_getf hm rfl (gR rfl rfl) ?_
    refine x_iconst hm rfl (v := nI 2) (by decide) ?_
    refine x_iald hm rfl (lI rfl (by omega) (by decide)) ?_
    rw [hnb]
    refine x_icmp_ge hm rfl (t := 68) rfl (fun h1 => ?_) (fun h1 => ?_)
    · refine x_iinc hm rfl rfl (v := nI 1) (by decide) rfl ?_
      rw [jI_add]
      refine x_goto hm rfl (t := 4) rfl ?_
      exact hout _ _
    · have hk : k < nb := Nat.lt_of_not_le fun h => h1 (nI_le h (by omega))
      refine x_iload_n hm rfl rfl ?_
      refine x_iload_n hm rfl rfl ?_
      refine x_iload_n hm rfl rfl ?_
      refine x_icmp_eq hm rfl (t := 59) rfl (fun h2 => ?_) (fun h2 => ?_)
      · refine x_iconst hm rfl (v := nI 0) (by decide) ?_
        refine x_iadd hm rfl ?_
        refine x_istore_n hm rfl rfl ?_
        refine x_iinc hm rfl rfl (v := nI 1) (by decide) rfl ?_
        rw [jI_add]
        refine x_goto hm rfl (t := 16) rfl ?_
        exact ih _ _ (by omega) (by omega)
      · refine x_aload_n hm rfl rfl ?_
        refine x_iload_n hm rfl rfl ?_
        refine x_aload_n hm rfl rfl ?_
        refine x_iload_n hm rfl rfl ?_
        refine x_cVe hm rfl rfl (t160 hI.1) (fun v3 r3 => ?_)
        refine x_cVe hm rfl rfl (t200 hI.1 (by omega)) (fun v4 r4 => ?_)
        refine x_aload_n hm rfl rfl ?_
        refine x_iload_n hm rfl rfl ?_
        refine x_aload_n hm rfl rfl ?_
        refine x_iload_n hm rfl rfl ?_
        refine x_cVe hm rfl rfl (t160 hI.1) (fun v5 r5 => ?_)
        refine x_cVe hm rfl rfl (t200 hI.1 (by omega)) (fun v6 r6 => ?_)
        refine x_icmp_le hm rfl (t := 59) rfl (fun h7 => ?_) (fun h7 => ?_)
        · refine x_iconst hm rfl (v := nI 0) (by decide) ?_
          refine x_iadd hm rfl ?_
          refine x_istore_n hm rfl rfl ?_
          refine x_iinc hm rfl rfl (v := nI 1) (by decide) rfl ?_
          rw [jI_add]
          refine x_goto hm rfl (t := 16) rfl ?_
          exact ih _ _ (by omega) (by omega)
        · refine x_iconst hm rfl (v := nI 1) (by decide) ?_
          refine x_goto hm rfl (t := 60) rfl ?_
          refine x_iadd hm rfl ?_
          refine x_istore_n hm rfl rfl ?_
          refine x_iinc hm rfl rfl (v := nI 1) (by decide) rfl ?_
          rw [jI_add]
          refine x_goto hm rfl (t := 16) rfl ?_
          exact ih _ _ (by omega) (by omega)
theorem l207a {nb : Nat} (hI : Inv M) (hnb : M 67 2 = nI nb) (h8 : nb ≤ 8) : ∀ (n k : Nat) (s : Int32) (x : Option Value), nb - k < n → k ≤ nb → mEv X (QI (fun _ M' => Inv M')) 207 4 [some (.ref 66), some (.int s), some (.int (nI k)), x] [] (con M) := by
  have hm : mMet 207 = some _ := rfl
  intro n
  induction n with
  | zero =>
    intro k s x hkn hkb
    omega
  | succ n ih =>
    intro k s x hkn hkb
    refine x_iload_n hm rfl rfl ?_
    refine x_aload_n hm rfl rfl ?_
    refine x_getf hm rfl (gR rfl rfl) ?_
    refine x_iconst hm rfl (v := nI 2) (by decide) ?_
    refine x_iald hm rfl (lI rfl (by omega) (by decide)) ?_
    rw [hnb]
    refine x_icmp_ge hm rfl (t := 74) rfl (fun h1 => ?_) (fun h1 => ?_)
    · refine x_iload_n hm rfl rfl ?_
      refine x_iret hm rfl rfl (by first | rfl | exact bI_nar | decide) ?_
      exact ⟨_, _, rfl, rfl, by first | exact hI⟩
    · have hk : k < nb := Nat.lt_of_not_le fun h => h1 (nI_le h (by omega))
      refine x_iconst hm rfl (v := nI 0) (by decide) ?_
      refine x_istore_n hm rfl rfl ?_
      exact l207b hI hnb h8 hk (fun s x => ih _ _ _ (by omega) (by omega)) _ 0 _ (Nat.lt_succ_self _) (Nat.zero_le _)
theorem t207  (hI : Inv M) : ∃ v M', mT X 207 [.ref 66] (con M) (some (.int v)) (con M') ∧ Inv M' := by
  refine ti_of (row := _) rfl (Nat.le_of_ble_eq_true rfl) ?_
  have hm : mMet 207 = some _ := rfl
  obtain ⟨nb, h8, hnb⟩ := hI.1.np
  refine x_iconst hm rfl (v := nI 0) (by decide) ?_
  refine x_istore_n hm rfl rfl ?_
  refine x_iconst hm rfl (v := nI 0) (by decide) ?_
  refine x_istore_n hm rfl rfl ?_
  exact l207a hI hnb h8 _ 0 _ _ (Nat.lt_succ_self _) (Nat.zero_le _)
end RH
end
section
/-! ===== the reference: what was worn, strollers, odds, the tape ===== -/
section RI
variable {X : mSc} {Q : Option Value → mHp → Prop} {M : mM}
def lk (M : mM) (s : Int32) : Int32 := if nI 0 ≤ s ∧ s ≤ nI 3 then (if M 76 s.toNatClampNeg = 0 then (-1000006) else nI 0) else (-1000001)
theorem lk_fd {s : Int32} (h : ¬ lk M s = 0) : FD (lk M s) := by
  unfold lk at h ⊢
  split
  · rename_i h1
    rw [if_pos h1] at h
    split
    · decide
    · rename_i h2
      rw [if_neg h2] at h
      exact absurd rfl h
  · decide
theorem lk_k {s : Int32} (h : lk M s = 0) : ∃ k, k ≤ 3 ∧ s = nI k := by
  unfold lk at h
  split at h
  · rename_i h1
    exact le_k (by decide) h1
  · exact absurd h (by decide)
theorem le1_k {v : Int32} {n : Nat} (hn : n ≤ 999) (h : nI 1 ≤ v ∧ v ≤ nI n) : ∃ k, k ≤ n ∧ 1 ≤ k ∧ v = nI k := by
  have h0 : nI 0 ≤ v := Int32.le_trans (by decide) h.1
  obtain ⟨k, hk, rfl⟩ := le_k hn ⟨h0, h.2⟩
  exact ⟨k, hk, (jI_le (by decide) (by omega)).mp h.1, rfl⟩
theorem odd_k : ∀ b, b ≤ 16 → 1 ≤ b → nI b - nI b / nI 2 * nI 2 = 0 → 1 ≤ b / 2 ∧ b / 2 < b ∧ nI b / nI 2 = nI (b / 2) := by decide
theorem dec1 (i : Nat) : nI (i + 1) + (-1) = nI i := by
  rw [← jI_add i 1]
  have e : nI 1 = 1 := rfl
  rw [e, Int32.add_assoc]
  have e2 : (1 : Int32) + (-1) = 0 := by decide
  rw [e2, Int32.add_zero]
theorem sub1 (v : Int32) : v - nI 1 = v + (-1) := by
  have e : nI 1 = 1 := rfl
  rw [e, Int32.sub_eq_add_neg]
theorem mput_ne {a b i j : Nat} {v : Int32} (h : i ≠ a) : mput M a b v i j = M i j := by
  unfold mput
  rw [if_neg fun e => h e.1]
theorem Sf.taped {v : Int32} (h : okx 4 v) : Sf M (mput M 66 9 v) := Sf.put h (by decide) (fun e => absurd e (by decide))
def QL (P : Int64 → mM → Prop) : Option Value → mHp → Prop := fun r D => ∃ v M', r = some (.long v) ∧ D = con M' ∧ P v M'
theorem tl_of {mid : Nat} {row : mRow} {as : List Value} {P : Int64 → mM → Prop} (hm : mMet mid = some row) (hb : as.length ≤ row.2.2.2.1) (h : mEv X (QL P) mid 0 (mEnv row.2.2.2.1 as) [] (con M)) : ∃ v M', mT X mid as (con M) (some (.long v)) (con M') ∧ P v M' := by
  obtain ⟨n, r1, D1, h1, v, M', rfl, rfl, hr⟩ := h
  exact ⟨v, M', ⟨row, n, hm, hb, h1⟩, hr⟩
theorem t209 {s : Int32} : mT X 209 [.ref 66, .int s] (con M) (some (.int (lk M s))) (con M) := by
  refine mT.of (row := _) rfl (Nat.le_of_ble_eq_true rfl) ?_
  have hm : mMet 209 = some _ := rfl
  refine x_iload_n hm rfl rfl ?_
  refine x_callS hm rfl rfl (t210) ?_
  refine x_if_ne hm rfl (t := 12) rfl (fun h1 => ?_) (fun h1 => ?_)
  · have hs := bI_ne0 h1
    obtain ⟨k, hk, e⟩ := le_k (by decide) hs
    subst e
    refine x_aload_n hm rfl rfl ?_
    refine x_getf hm rfl (gR rfl rfl) ?_
    refine x_iload_n hm rfl rfl ?_
    refine x_iald hm rfl (lI rfl (by omega) (by decide)) ?_
    refine x_if_ne hm rfl (t := 26) rfl (fun h2 => ?_) (fun h2 => ?_)
    · refine x_iconst hm rfl (v := nI 0) (by decide) ?_
      refine x_iret hm rfl rfl (by first | rfl | exact bI_nar | decide) ?_
      exact qt (congrArg Value.int (by unfold lk; first | rw [if_neg (bI_eq0.mp h1)] | rw [if_pos hs, jI_nat (by omega), if_pos h2] | rw [if_pos hs, jI_nat (by omega), if_neg h2]))
    · refine x_ldcI hm rfl (v := (-1000006 : Int32)) (by decide) ?_
      refine x_goto hm rfl (t := 27) rfl ?_
      refine x_iret hm rfl rfl (by first | rfl | exact bI_nar | decide) ?_
      exact qt (congrArg Value.int (by unfold lk; first | rw [if_neg (bI_eq0.mp h1)] | rw [if_pos hs, jI_nat (by omega), if_pos h2] | rw [if_pos hs, jI_nat (by omega), if_neg h2]))
  · refine x_ldcI hm rfl (v := (-1000001 : Int32)) (by decide) ?_
    refine x_goto hm rfl (t := 27) rfl ?_
    refine x_iret hm rfl rfl (by first | rfl | exact bI_nar | decide) ?_
    exact qt (congrArg Value.int (by unfold lk; first | rw [if_neg (bI_eq0.mp h1)] | rw [if_pos hs, jI_nat (by omega), if_pos h2] | rw [if_pos hs, jI_nat (by omega), if_neg h2]))
theorem l212 {s t : Nat} (hW : Wf M) (hs : s ≤ 3) (ht : t < 8) : ∀ (n k : Nat) (b : Int32) (x5 : Option Value) (M1 : mM), 41 - k < n → k ≤ 41 → (b = nI 0 ∨ b = nI 1) → Dy (cp M 67 69 118) M1 → mEv X (QI (fun v M' => (v = nI 0 ∨ v = nI 1) ∧ Sf M M')) 212 16 [some (.ref 66), some (.int (nI s)), some (.int (nI t)), some (.int b), some (.int (nI k)), x5] [] (con M1) := by
  have hm : mMet 212 = some _ := rfl
  intro n
  induction n with
  | zero =>
    intro k b x5 M1 hkn hkb h01 hD
    omega
  | succ n ih =>
    intro k b x5 M1 hkn hkb h01 hD
    have hW1 := hD.1.1 hW.aside
    obtain ⟨z, hz, hz2⟩ := ok5 (show okx 5 (M1 77 s) from hW1 77 s)
    refine x_iload hm rfl rfl ?_
    refine x_aload_n hm rfl rfl ?_
    refine x_getf hm rfl (gR rfl rfl) ?_
    refine x_iload_n hm rfl rfl ?_
    refine x_iald hm rfl (lI rfl (by omega) (by decide)) ?_
    rw [hz2]
    refine x_icmp_ge hm rfl (t := 78) rfl (fun h1 => ?_) (fun h1 => ?_)
    · refine x_aload_n hm rfl rfl ?_
      refine x_getf hm rfl (gR rfl rfl) ?_
      refine x_aload_n hm rfl rfl ?_
      refine x_getf hm rfl (gR rfl rfl) ?_
      refine x_callS hm rfl rfl (t174 rfl rfl (by decide)) ?_
      refine x_iload_n hm rfl rfl ?_
      refine x_iret hm rfl rfl (nar01 h01) ?_
      exact ⟨_, _, rfl, rfl, h01, Sf.trial hD⟩ --stop
    · have hk : k < z := Nat.lt_of_not_le fun h => h1 (nI_le h (by omega))
      refine x_iload_n hm rfl rfl ?_
      refine x_if_eq hm rfl (t := 78) rfl (fun h2 => ?_) (fun h2 => ?_)
      · refine x_aload_n hm rfl rfl ?_
        refine x_getf hm rfl (gR rfl rfl) ?_
        refine x_aload_n hm rfl rfl ?_
        refine x_getf hm rfl (gR rfl rfl) ?_
        refine x_callS hm rfl rfl (t174 rfl rfl (by decide)) ?_
        refine x_iload_n hm rfl rfl ?_
        refine x_iret hm rfl rfl (nar01 h01) ?_
        exact ⟨_, _, rfl, rfl, h01, Sf.trial hD⟩ --stop
      · refine x_aload_n hm rfl rfl ?_
        refine x_getf hm rfl (gR rfl rfl) ?_
        refine x_bipush hm rfl (v := nI 40) (by decide) ?_
        refine x_iload_n hm rfl rfl ?_
        refine x_imul hm rfl ?_
        rw [jI_mul]
        refine x_iload hm rfl rfl ?_
        refine x_iadd hm rfl ?_
        rw [jI_add]
        refine x_iald hm rfl (lI rfl (by omega) (by decide)) ?_
        refine x_istore hm rfl rfl ?_
        refine x_iload hm rfl rfl ?_
        refine x_iconst hm rfl (v := (-1 : Int32)) (by decide) ?_
        refine x_icmp_eq hm rfl (t := 62) rfl (fun h3 => ?_) (fun h3 => ?_)
        · refine x_iconst hm rfl (v := nI 1) (by decide) ?_
          refine x_goto hm rfl (t := 67) rfl ?_
          refine x_istore_n hm rfl rfl ?_
          refine x_aload_n hm rfl rfl ?_
          refine x_cVv hm rfl rfl (t165 hW1) (fun M4 r4 => ?_)
          refine x_iinc hm rfl rfl (v := nI 1) (by decide) rfl ?_
          rw [jI_add]
          refine x_goto hm rfl (t := 16) rfl ?_
          first
            | exact ih _ _ _ _ (by omega) (by omega) (by first | exact Or.inl rfl | exact Or.inr rfl) (hD.trans r2)
            | exact ih _ _ _ _ (by omega) (by omega) (by first | exact Or.inl rfl | exact Or.inr rfl) (hD.trans r3)
            | exact ih _ _ _ _ (by omega) (by omega) (by first | exact Or.inl rfl | exact Or.inr rfl) (hD.trans r4)
            | exact ih _ _ _ _ (by omega) (by omega) (by first | exact Or.inl rfl | exact Or.inr rfl) (hD.trans r5)
            | exact ih _ _ _ _ (by omega) (by omega) (by first | exact Or.inl rfl | exact Or.inr rfl) (hD.trans r6)
            | exact ih _ _ _ _ (by omega) (by omega) (by first | exact Or.inl rfl | exact Or.inr rfl) (hD.trans r7)
            | exact ih _ _ _ _ (by omega) (by omega) (by first | exact Or.inl rfl | exact Or.inr rfl) (hD.trans r8)
            | exact ih _ _ _ _ (by omega) (by omega) (by first | exact Or.inl rfl | exact Or.inr rfl) (hD.trans r9)
            | exact ih _ _ _ _ (by omega) (by omega) (by first | exact Or.inl rfl | exact Or.inr rfl) (hD.trans r10)
            | exact ih _ _ _ _ (by omega) (by omega) (by first | exact Or.inl rfl | exact Or.inr rfl) (hD.trans r11)
        · refine x_iload hm rfl rfl ?_
          refine x_aload_n hm rfl rfl ?_
          refine x_iload_n hm rfl rfl ?_
          refine x_iconst hm rfl (v := nI 2) (by decide) ?_
          refine x_callV hm rfl rfl (t143 (by omega) (by omega)) ?_
          refine x_icmp_ne hm rfl (t := 66) rfl (fun h5 => ?_) (fun h5 => ?_)
          · refine x_iconst hm rfl (v := nI 0) (by decide) ?_
            refine x_istore_n hm rfl rfl ?_
            refine x_aload_n hm rfl rfl ?_
            refine x_cVv hm rfl rfl (t165 hW1) (fun M6 r6 => ?_)
            refine x_iinc hm rfl rfl (v := nI 1) (by decide) rfl ?_
            rw [jI_add]
            refine x_goto hm rfl (t := 16) rfl ?_
            first
              | exact ih _ _ _ _ (by omega) (by omega) (by first | exact Or.inl rfl | exact Or.inr rfl) (hD.trans r2)
              | exact ih _ _ _ _ (by omega) (by omega) (by first | exact Or.inl rfl | exact Or.inr rfl) (hD.trans r3)
              | exact ih _ _ _ _ (by omega) (by omega) (by first | exact Or.inl rfl | exact Or.inr rfl) (hD.trans r4)
              | exact ih _ _ _ _ (by omega) (by omega) (by first | exact Or.inl rfl | exact Or.inr rfl) (hD.trans r5)
              | exact ih _ _ _ _ (by omega) (by omega) (by first | exact Or.inl rfl | exact Or.inr rfl) (hD.trans r6)
              | exact ih _ _ _ _ (by omega) (by omega) (by first | exact Or.inl rfl | exact Or.inr rfl) (hD.trans r7)
              | exact ih _ _ _ _ (by omega) (by omega) (by first | exact Or.inl rfl | exact Or.inr rfl) (hD.trans r8)
              | exact ih _ _ _ _ (by omega) (by omega) (by first | exact Or.inl rfl | exact Or.inr rfl) (hD.trans r9)
              | exact ih _ _ _ _ (by omega) (by omega) (by first | exact Or.inl rfl | exact Or.inr rfl) (hD.trans r10)
              | exact ih _ _ _ _ (by omega) (by omega) (by first | exact Or.inl rfl | exact Or.inr rfl) (hD.trans r11)
          · refine x_iconst hm rfl (v := nI 1) (by decide) ?_
            refine x_goto hm rfl (t := 67) rfl ?_
            refine x_istore_n hm rfl rfl ?_
            refine x_aload_n hm rfl rfl ?_
            refine x_cVv hm rfl rfl (t165 hW1) (fun M7 r7 => ?_)
            refine x_iinc hm rfl rfl (v := nI 1) (by decide) rfl ?_
            rw [jI_add]
            refine x_goto hm rfl (t := 16) rfl ?_
            first
              | exact ih _ _ _ _ (by omega) (by omega) (by first | exact Or.inl rfl | exact Or.inr rfl) (hD.trans r2)
              | exact ih _ _ _ _ (by omega) (by omega) (by first | exact Or.inl rfl | exact Or.inr rfl) (hD.trans r3)
              | exact ih _ _ _ _ (by omega) (by omega) (by first | exact Or.inl rfl | exact Or.inr rfl) (hD.trans r4)
              | exact ih _ _ _ _ (by omega) (by omega) (by first | exact Or.inl rfl | exact Or.inr rfl) (hD.trans r5)
              | exact ih _ _ _ _ (by omega) (by omega) (by first | exact Or.inl rfl | exact Or.inr rfl) (hD.trans r6)
              | exact ih _ _ _ _ (by omega) (by omega) (by first | exact Or.inl rfl | exact Or.inr rfl) (hD.trans r7)
              | exact ih _ _ _ _ (by omega) (by omega) (by first | exact Or.inl rfl | exact Or.inr rfl) (hD.trans r8)
              | exact ih _ _ _ _ (by omega) (by omega) (by first | exact Or.inl rfl | exact Or.inr rfl) (hD.trans r9)
              | exact ih _ _ _ _ (by omega) (by omega) (by first | exact Or.inl rfl | exact Or.inr rfl) (hD.trans r10)
              | exact ih _ _ _ _ (by omega) (by omega) (by first | exact Or.inl rfl | exact Or.inr rfl) (hD.trans r11)
theorem t212 {s t : Nat} (hW : Wf M) (hs : s ≤ 3) (ht : t < 8) : ∃ v M', mT X 212 [.ref 66, .int (nI s), .int (nI t)] (con M) (some (.int v)) (con M') ∧ (v = nI 0 ∨ v = nI 1) ∧ Sf M M' := by
  refine ti_of (row := _) rfl (Nat.le_of_ble_eq_true rfl) ?_
  have hm : mMet 212 = some _ := rfl
  refine x_aload_n hm rfl rfl ?_
  refine x_getf hm rfl (gR rfl rfl) ?_
  refine x_aload_n hm rfl rfl ?_
  refine x_getf hm rfl (gR rfl rfl) ?_
  refine x_callS hm rfl rfl (t174 rfl rfl (by decide)) ?_
  refine x_iconst hm rfl (v := nI 1) (by decide) ?_
  refine x_istore_n hm rfl rfl ?_
  refine x_iconst hm rfl (v := nI 0) (by decide) ?_
  refine x_istore hm rfl rfl ?_
  exact l212 hW hs ht _ 0 _ _ _ (Nat.lt_succ_self _) (Nat.zero_le _) (Or.inr rfl) Dy.rf
theorem l211 {s p t : Nat} {i : Nat} {c : Int32} (hW : Wf M) (hs : s ≤ 3) (ht : t < 8) (hp : p < 8) (hi : i < 7) : ∀ (n k : Nat) (b : Int32) (M1 : mM), 10 - k < n → k ≤ 10 → Sf M M1 → mEv X (QI (fun _ M' => Sf M M')) 211 29 [some (.ref 66), some (.int (nI s)), some (.int (nI p)), some (.int (nI t)), some (.int (nI (62 + 7 * p + i))), some (.int c), some (.int b), some (.int (nI k))] [] (con M1) := by
  have hm : mMet 211 = some _ := rfl
  intro n
  induction n with
  | zero =>
    intro k b M1 hkn hkb hS
    omega
  | succ n ih =>
    intro k b M1 hkn hkb hS
    refine x_iload hm rfl rfl ?_
    refine x_bipush hm rfl (v := nI 9) (by decide) ?_
    refine x_icmp_gt hm rfl (t := 73) rfl (fun h1 => ?_) (fun h1 => ?_)
    · refine x_aload_n hm rfl rfl ?_
      refine x_getf hm rfl (gR rfl rfl) ?_
      refine x_iload hm rfl rfl ?_
      refine x_iload hm rfl rfl ?_
      refine x_iast hm rfl (sI rfl (by omega) (by decide)) ?_
      refine x_iload hm rfl rfl ?_
      refine x_iret hm rfl rfl (by first | rfl | exact bI_nar | decide) ?_
      exact ⟨_, _, rfl, rfl, hS.trans (Sf.person hp hi)⟩
    · have hk : k ≤ 9 := Nat.le_of_not_lt fun h => h1 (nI_lt h (by omega))
      refine x_aload_n hm rfl rfl ?_
      refine x_getf hm rfl (gR rfl rfl) ?_
      refine x_iload hm rfl rfl ?_
      refine x_iload hm rfl rfl ?_
      refine x_iast hm rfl (sI rfl (by omega) (by decide)) ?_
      have hS2 := hS.trans (Sf.person (M := M1) (v := nI k) hp hi)
      refine x_iload hm rfl rfl ?_
      refine x_aload_n hm rfl rfl ?_
      refine x_iload_n hm rfl rfl ?_
      refine x_iload_n hm rfl rfl ?_
      refine x_cVi hm rfl rfl (t212 (hS2.1 hW) hs ht) (fun v2 M2 r2 => ?_)
      refine x_if_eq hm rfl (t := 63) rfl (fun h3 => ?_) (fun h3 => ?_)
      · refine x_iconst hm rfl (v := nI 0) (by decide) ?_
        refine x_ior hm rfl ?_
        refine x_istore hm rfl rfl ?_
        refine x_iinc hm rfl rfl (v := nI 1) (by decide) rfl ?_
        rw [jI_add]
        refine x_goto hm rfl (t := 29) rfl ?_
        exact ih _ _ _ (by omega) (by omega) (hS2.trans r2.2)
      · refine x_iconst hm rfl (v := nI 1) (by decide) ?_
        refine x_iload hm rfl rfl ?_
        refine x_ishl hm rfl ?_
        refine x_goto hm rfl (t := 64) rfl ?_
        refine x_ior hm rfl ?_
        refine x_istore hm rfl rfl ?_
        refine x_iinc hm rfl rfl (v := nI 1) (by decide) rfl ?_
        rw [jI_add]
        refine x_goto hm rfl (t := 29) rfl ?_
        exact ih _ _ _ (by omega) (by omega) (hS2.trans r2.2)
theorem t211 {s p t : Nat} (hW : Wf M) (hs : s ≤ 3) (ht : t < 8) (hp : p < 8) : ∃ v M', mT X 211 [.ref 66, .int (nI s), .int (nI p), .int (nI t)] (con M) (some (.int v)) (con M') ∧ Sf M M' := by
  refine ti_of (row := _) rfl (Nat.le_of_ble_eq_true rfl) ?_
  have hm : mMet 211 = some _ := rfl
  obtain ⟨w, hw3, hw⟩ := hW.sort ht
  refine x_iload_n hm rfl rfl ?_
  refine x_iconst hm rfl (v := nI 3) (by decide) ?_
  refine x_aload_n hm rfl rfl ?_
  refine x_iload_n hm rfl rfl ?_
  refine x_iconst hm rfl (v := nI 0) (by decide) ?_
  refine x_callV hm rfl rfl (t143 (by omega) (by omega)) ?_
  rw [hw]
  refine x_iadd hm rfl ?_
  rw [jI_add]
  refine x_callS hm rfl rfl (t142) ?_
  refine x_istore hm rfl rfl ?_
  refine x_aload_n hm rfl rfl ?_
  refine x_getf hm rfl (gR rfl rfl) ?_
  refine x_iload hm rfl rfl ?_
  refine x_iald hm rfl (lI rfl (by omega) (by decide)) ?_
  refine x_istore hm rfl rfl ?_
  refine x_iconst hm rfl (v := nI 0) (by decide) ?_
  refine x_istore hm rfl rfl ?_
  refine x_iconst hm rfl (v := nI 0) (by decide) ?_
  refine x_istore hm rfl rfl ?_
  exact l211 hW hs ht hp (by omega) _ 0 _ _ (Nat.lt_succ_self _) (Nat.zero_le _) Sf.rf
theorem t208 {a1 a2 a3 : Int32} (hI : Inv M) : ∃ v M', mT X 208 [.ref 66, .int a1, .int a2, .int a3] (con M) (some (.int v)) (con M') ∧ Inv M' := by
  refine ti_of (row := _) rfl (Nat.le_of_ble_eq_true rfl) ?_
  have hm : mMet 208 = some _ := rfl
  obtain ⟨np, hp8, hnp⟩ := hI.1.np
  obtain ⟨nt, hn8, hnt⟩ := hI.1.nt
  refine x_aload_n hm rfl rfl ?_
  refine x_iload_n hm rfl rfl ?_
  refine x_callV hm rfl rfl (t209) ?_
  refine x_if_eq hm rfl (t := 18) rfl (fun h1 => ?_) (fun h1 => ?_)
  · obtain ⟨s, hs, rfl⟩ := lk_k h1
    refine x_aload_n hm rfl rfl ?_
    refine x_iload_n hm rfl rfl ?_
    refine x_callV hm rfl rfl (t153) ?_
    refine x_if_eq hm rfl (t := 47) rfl (fun h2 => ?_) (fun h2 => ?_)
    · refine x_aload_n hm rfl rfl ?_
      refine x_ldcI hm rfl (v := (-1000001 : Int32)) (by decide) ?_
      refine x_cVi hm rfl rfl (t135 (by decide)) (fun v3 M3 r3 => ?_)
      refine x_iret hm rfl rfl (by first | rfl | exact bI_nar | decide) ?_
      exact ⟨_, _, rfl, rfl, by first | exact hI | exact (r1.2.inv hI) | exact (r2.2.inv hI) | exact (r3.2.inv hI) | exact (r4.2.inv hI) | exact (r5.2.inv hI) | exact (r6.2.inv hI) | exact (r7.2.inv hI) | exact (r8.2.inv hI) | exact (r1.inv hI) | exact (r2.inv hI) | exact (r3.inv hI) | exact (r4.inv hI) | exact (r5.inv hI) | exact (r6.inv hI) | exact (r7.inv hI) | exact (r8.inv hI)⟩
    · obtain ⟨p, hp, rfl⟩ := in_k hnp (by omega) (bI_ne0 h2)
      refine x_aload_n hm rfl rfl ?_
      refine x_iload_n hm rfl rfl ?_
      refine x_callV hm rfl rfl (t139) ?_
      refine x_if_eq hm rfl (t := 47) rfl (fun h4 => ?_) (fun h4 => ?_)
      · refine x_aload_n hm rfl rfl ?_
        refine x_ldcI hm rfl (v := (-1000001 : Int32)) (by decide) ?_
        refine x_cVi hm rfl rfl (t135 (by decide)) (fun v5 M5 r5 => ?_)
        refine x_iret hm rfl rfl (by first | rfl | exact bI_nar | decide) ?_
        exact ⟨_, _, rfl, rfl, by first | exact hI | exact (r1.2.inv hI) | exact (r2.2.inv hI) | exact (r3.2.inv hI) | exact (r4.2.inv hI) | exact (r5.2.inv hI) | exact (r6.2.inv hI) | exact (r7.2.inv hI) | exact (r8.2.inv hI) | exact (r1.inv hI) | exact (r2.inv hI) | exact (r3.inv hI) | exact (r4.inv hI) | exact (r5.inv hI) | exact (r6.inv hI) | exact (r7.inv hI) | exact (r8.inv hI)⟩
      · obtain ⟨t, ht, rfl⟩ := in_k hnt (by omega) (bI_ne0 h4)
        refine x_aload_n hm rfl rfl ?_
        refine x_iload_n hm rfl rfl ?_
        refine x_iload_n hm rfl rfl ?_
        refine x_iload_n hm rfl rfl ?_
        refine x_cVi hm rfl rfl (t211 hI.1 (by omega) (by omega) (by omega)) (fun v6 M6 r6 => ?_)
        refine x_cSe hm rfl rfl (t168) (fun v7 r7 => ?_)
        refine x_goto hm rfl (t := 53) rfl ?_
        refine x_iret hm rfl rfl (by first | rfl | exact bI_nar | decide) ?_
        exact ⟨_, _, rfl, rfl, by first | exact hI | exact (r1.2.inv hI) | exact (r2.2.inv hI) | exact (r3.2.inv hI) | exact (r4.2.inv hI) | exact (r5.2.inv hI) | exact (r6.2.inv hI) | exact (r7.2.inv hI) | exact (r8.2.inv hI) | exact (r1.inv hI) | exact (r2.inv hI) | exact (r3.inv hI) | exact (r4.inv hI) | exact (r5.inv hI) | exact (r6.inv hI) | exact (r7.inv hI) | exact (r8.inv hI)⟩
  · refine x_aload_n hm rfl rfl ?_
    refine x_aload_n hm rfl rfl ?_
    refine x_iload_n hm rfl rfl ?_
    refine x_callV hm rfl rfl (t209) ?_
    refine x_cVi hm rfl rfl (t135 (lk_fd h1)) (fun v8 M8 r8 => ?_)
    refine x_iret hm rfl rfl (by first | rfl | exact bI_nar | decide) ?_
    exact ⟨_, _, rfl, rfl, by first | exact hI | exact (r1.2.inv hI) | exact (r2.2.inv hI) | exact (r3.2.inv hI) | exact (r4.2.inv hI) | exact (r5.2.inv hI) | exact (r6.2.inv hI) | exact (r7.2.inv hI) | exact (r8.2.inv hI) | exact (r1.inv hI) | exact (r2.inv hI) | exact (r3.inv hI) | exact (r4.inv hI) | exact (r5.inv hI) | exact (r6.inv hI) | exact (r7.inv hI) | exact (r8.inv hI)⟩
theorem l213 {s p t : Nat} {c : Int32} {M0 : mM} (hI : Inv M0) (hS : Sf M0 M) : ∀ (n k : Nat), 11 - k < n → k ≤ 10 → mEv X (QI (fun _ M' => Inv M')) 213 53 [some (.ref 66), some (.int (nI s)), some (.int (nI p)), some (.int (nI t)), some (.int c), some (.int (nI k))] [] (con M) := by
  have hm : mMet 213 = some _ := rfl
  intro n
  induction n with
  | zero =>
    intro k hkn hkb
    omega
  | succ n ih =>
    intro k hkn hkb
    refine x_iload hm rfl rfl ?_
    refine x_bipush hm rfl (v := nI 9) (by decide) ?_
    refine x_icmp_gt hm rfl (t := 76) rfl (fun h1 => ?_) (fun h1 => ?_)
    · refine x_iload hm rfl rfl ?_
      refine x_bipush hm rfl (v := nI 9) (by decide) ?_
      refine x_icmp_le hm rfl (t := 92) rfl (fun h2 => ?_) (fun h2 => ?_)
      · refine x_iload hm rfl rfl ?_
        refine x_iret hm rfl rfl (by first | rfl | exact bI_nar | decide) ?_
        exact ⟨_, _, rfl, rfl, by first | exact hS.inv hI | exact (hS.trans r3.2.sf).inv hI | exact (hS.trans r4.2.sf).inv hI | exact (hS.trans r5.2.sf).inv hI | exact (hS.trans r6.2.sf).inv hI | exact (hS.trans r7.2.sf).inv hI | exact (hS.trans r8.2.sf).inv hI | exact (hS.trans r2.2.sf).inv hI⟩
      · refine x_aload_n hm rfl rfl ?_
        refine x_ldcI hm rfl (v := (-1000004 : Int32)) (by decide) ?_
        refine x_cVi hm rfl rfl (t135 (by decide)) (fun v3 M3 r3 => ?_)
        refine x_goto hm rfl (t := 94) rfl ?_
        refine x_iret hm rfl rfl (by first | rfl | exact bI_nar | decide) ?_
        exact ⟨_, _, rfl, rfl, by first | exact hS.inv hI | exact (hS.trans r3.2.sf).inv hI | exact (hS.trans r4.2.sf).inv hI | exact (hS.trans r5.2.sf).inv hI | exact (hS.trans r6.2.sf).inv hI | exact (hS.trans r7.2.sf).inv hI | exact (hS.trans r8.2.sf).inv hI | exact (hS.trans r2.2.sf).inv hI⟩
    · have hk : k ≤ 9 := Nat.le_of_not_lt fun h => h1 (nI_lt h (by omega))
      refine x_iload hm rfl rfl ?_
      refine x_iload hm rfl rfl ?_
      refine x_cSe hm rfl rfl (t191) (fun v4 r4 => ?_)
      refine x_if_ne hm rfl (t := 76) rfl (fun h5 => ?_) (fun h5 => ?_)
      · refine x_iload hm rfl rfl ?_
        refine x_bipush hm rfl (v := nI 9) (by decide) ?_
        refine x_icmp_le hm rfl (t := 92) rfl (fun h6 => ?_) (fun h6 => ?_)
        · refine x_iload hm rfl rfl ?_
          refine x_iret hm rfl rfl (by first | rfl | exact bI_nar | decide) ?_
          exact ⟨_, _, rfl, rfl, by first | exact hS.inv hI | exact (hS.trans r3.2.sf).inv hI | exact (hS.trans r4.2.sf).inv hI | exact (hS.trans r5.2.sf).inv hI | exact (hS.trans r6.2.sf).inv hI | exact (hS.trans r7.2.sf).inv hI | exact (hS.trans r8.2.sf).inv hI | exact (hS.trans r2.2.sf).inv hI⟩
        · refine x_aload_n hm rfl rfl ?_
          refine x_ldcI hm rfl (v := (-1000004 : Int32)) (by decide) ?_
          refine x_cVi hm rfl rfl (t135 (by decide)) (fun v7 M7 r7 => ?_)
          refine x_goto hm rfl (t := 94) rfl ?_
          refine x_iret hm rfl rfl (by first | rfl | exact bI_nar | decide) ?_
          exact ⟨_, _, rfl, rfl, by first | exact hS.inv hI | exact (hS.trans r3.2.sf).inv hI | exact (hS.trans r4.2.sf).inv hI | exact (hS.trans r5.2.sf).inv hI | exact (hS.trans r6.2.sf).inv hI | exact (hS.trans r7.2.sf).inv hI | exact (hS.trans r8.2.sf).inv hI | exact (hS.trans r2.2.sf).inv hI⟩
      · refine x_iinc hm rfl rfl (v := nI 1) (by decide) rfl ?_
        rw [jI_add]
        refine x_goto hm rfl (t := 53) rfl ?_
        exact ih _ (by omega) (by omega)
theorem t213 {a1 a2 a3 : Int32} (hI : Inv M) : ∃ v M', mT X 213 [.ref 66, .int a1, .int a2, .int a3] (con M) (some (.int v)) (con M') ∧ Inv M' := by
  refine ti_of (row := _) rfl (Nat.le_of_ble_eq_true rfl) ?_
  have hm : mMet 213 = some _ := rfl
  obtain ⟨np, hp8, hnp⟩ := hI.1.np
  obtain ⟨nt, hn8, hnt⟩ := hI.1.nt
  refine x_aload_n hm rfl rfl ?_
  refine x_iload_n hm rfl rfl ?_
  refine x_callV hm rfl rfl (t209) ?_
  refine x_if_eq hm rfl (t := 18) rfl (fun h1 => ?_) (fun h1 => ?_)
  · obtain ⟨s, hs, rfl⟩ := lk_k h1
    refine x_aload_n hm rfl rfl ?_
    refine x_iload_n hm rfl rfl ?_
    refine x_callV hm rfl rfl (t153) ?_
    refine x_if_eq hm rfl (t := 34) rfl (fun h2 => ?_) (fun h2 => ?_)
    · refine x_aload_n hm rfl rfl ?_
      refine x_ldcI hm rfl (v := (-1000001 : Int32)) (by decide) ?_
      refine x_cVi hm rfl rfl (t135 (by decide)) (fun v3 M3 r3 => ?_)
      refine x_iret hm rfl rfl (by first | rfl | exact bI_nar | decide) ?_
      exact ⟨_, _, rfl, rfl, by first | exact hI | exact (r1.2.inv hI) | exact (r2.2.inv hI) | exact (r3.2.inv hI) | exact (r4.2.inv hI) | exact (r5.2.inv hI) | exact (r6.2.inv hI) | exact (r7.2.inv hI) | exact (r8.2.inv hI) | exact (r1.inv hI) | exact (r2.inv hI) | exact (r3.inv hI) | exact (r4.inv hI) | exact (r5.inv hI) | exact (r6.inv hI) | exact (r7.inv hI) | exact (r8.inv hI)⟩
    · obtain ⟨p, hp, rfl⟩ := in_k hnp (by omega) (bI_ne0 h2)
      refine x_aload_n hm rfl rfl ?_
      refine x_iload_n hm rfl rfl ?_
      refine x_callV hm rfl rfl (t139) ?_
      refine x_if_ne hm rfl (t := 41) rfl (fun h4 => ?_) (fun h4 => ?_)
      · obtain ⟨t, ht, rfl⟩ := in_k hnt (by omega) (bI_ne0 h4)
        refine x_aload_n hm rfl rfl ?_
        refine x_iload_n hm rfl rfl ?_
        refine x_iload_n hm rfl rfl ?_
        refine x_iload_n hm rfl rfl ?_
        refine x_cVi hm rfl rfl (t211 hI.1 (by omega) (by omega) (by omega)) (fun v5 M5 r5 => ?_)
        refine x_istore hm rfl rfl ?_
        refine x_iconst hm rfl (v := nI 0) (by decide) ?_
        refine x_istore hm rfl rfl ?_
        first
          | exact l213 hI r1 _ 0 (Nat.lt_succ_self _) (Nat.zero_le _)
          | exact l213 hI r2 _ 0 (Nat.lt_succ_self _) (Nat.zero_le _)
          | exact l213 hI r3 _ 0 (Nat.lt_succ_self _) (Nat.zero_le _)
          | exact l213 hI r4 _ 0 (Nat.lt_succ_self _) (Nat.zero_le _)
          | exact l213 hI r5 _ 0 (Nat.lt_succ_self _) (Nat.zero_le _)
          | exact l213 hI r6 _ 0 (Nat.lt_succ_self _) (Nat.zero_le _)
          | exact l213 hI r7 _ 0 (Nat.lt_succ_self _) (Nat.zero_le _)
          | exact l213 hI r8 _ 0 (Nat.lt_succ_self _) (Nat.zero_le _)
      · refine x_aload_n hm rfl rfl ?_
        refine x_ldcI hm rfl (v := (-1000001 : Int32)) (by decide) ?_
        refine x_cVi hm rfl rfl (t135 (by decide)) (fun v6 M6 r6 => ?_)
        refine x_iret hm rfl rfl (by first | rfl | exact bI_nar | decide) ?_
        exact ⟨_, _, rfl, rfl, by first | exact hI | exact (r1.2.inv hI) | exact (r2.2.inv hI) | exact (r3.2.inv hI) | exact (r4.2.inv hI) | exact (r5.2.inv hI) | exact (r6.2.inv hI) | exact (r7.2.inv hI) | exact (r8.2.inv hI) | exact (r1.inv hI) | exact (r2.inv hI) | exact (r3.inv hI) | exact (r4.inv hI) | exact (r5.inv hI) | exact (r6.inv hI) | exact (r7.inv hI) | exact (r8.inv hI)⟩
  · refine x_aload_n hm rfl rfl ?_
    refine x_aload_n hm rfl rfl ?_
    refine x_iload_n hm rfl rfl ?_
    refine x_callV hm rfl rfl (t209) ?_
    refine x_cVi hm rfl rfl (t135 (lk_fd h1)) (fun v7 M7 r7 => ?_)
    refine x_iret hm rfl rfl (by first | rfl | exact bI_nar | decide) ?_
    exact ⟨_, _, rfl, rfl, by first | exact hI | exact (r1.2.inv hI) | exact (r2.2.inv hI) | exact (r3.2.inv hI) | exact (r4.2.inv hI) | exact (r5.2.inv hI) | exact (r6.2.inv hI) | exact (r7.2.inv hI) | exact (r8.2.inv hI) | exact (r1.inv hI) | exact (r2.inv hI) | exact (r3.inv hI) | exact (r4.inv hI) | exact (r5.inv hI) | exact (r6.inv hI) | exact (r7.inv hI) | exact (r8.inv hI)⟩
theorem t215  : ∃ v M', mT X 215 [.ref 66] (con M) (some (.int v)) (con M') ∧ Dy M M' := by
  refine ti_of (row := _) rfl (Nat.le_of_ble_eq_true rfl) ?_
  have hm : mMet 215 = some _ := rfl
  refine x_aload_n hm rfl rfl ?_
  refine x_getf hm rfl (gR rfl rfl) ?_
  refine x_iconst hm rfl (v := nI 3) (by decide) ?_
  refine x_aload_n hm rfl rfl ?_
  refine x_getf hm rfl (gR rfl rfl) ?_
  refine x_iconst hm rfl (v := nI 3) (by decide) ?_
  refine x_iald hm rfl (lI rfl (by omega) (by decide)) ?_
  refine x_ldcI hm rfl (v := nI 1103515245) (by decide) ?_
  refine x_imul hm rfl ?_
  refine x_sipush hm rfl (v := nI 12345) (by decide) ?_
  refine x_iadd hm rfl ?_
  refine x_iast hm rfl (sI rfl (by omega) (by decide)) ?_
  refine x_aload_n hm rfl rfl ?_
  refine x_getf hm rfl (gR rfl rfl) ?_
  refine x_iconst hm rfl (v := nI 3) (by decide) ?_
  refine x_iald hm rfl (lI rfl (by omega) (by decide)) ?_
  refine x_bipush hm rfl (v := nI 8) (by decide) ?_
  refine x_iushr hm rfl ?_
  refine x_iret hm rfl rfl (by first | rfl | exact bI_nar | decide) ?_
  exact ⟨_, _, rfl, rfl, Dy.put Sf.draw (by decide)⟩
theorem l214b {a nb j : Nat} {c : Int32} (hW : Wf M) (hnb : M 67 2 = nI nb) (h8 : nb ≤ 8) (hout : ∀ (M1 : mM) (x : Option Value), Dy M M1 → mEv X (QI (fun _ M' => Dy M M')) 214 44 [some (.ref 66), some (.int (nI a)), some (.int c), some (.int (nI (j + 1))), x] [] (con M1)) : ∀ (n k : Nat) (M1 : mM), nb - k < n → k ≤ nb → Dy M M1 → mEv X (QI (fun _ M' => Dy M M')) 214 52 [some (.ref 66), some (.int (nI a)), some (.int c), some (.int (nI j)), some (.int (nI k))] [] (con M1) := by
  have hm : mMet 214 = some _ := rfl
  intro n
  induction n with
  | zero =>
    intro k M1 hkn hkb hD
    omega
  | succ n ih =>
    intro k M1 hkn hkb hD
    have hW1 := hD.1.1 hW
    have hn1 : M1 67 2 = nI nb := hD.1.2.2.1.trans hnb
    refine x_iload hm rfl rfl ?_
    refine x_aload_n hm rfl rfl ?_
    refine x_getf hm rfl (gR rfl rfl) ?_
    refine x_iconst hm rfl (v := nI 2) (by decide) ?_
    refine x_iald hm rfl (lI rfl (by omega) (by decide)) ?_
    rw [hn1]
    refine x_icmp_ge hm rfl (t := 87) rfl (fun h1 => ?_) (fun h1 => ?_)
    · refine x_aload_n hm rfl rfl ?_
      refine x_cVv hm rfl rfl (t165 hW1) (fun M2 r2 => ?_)
      refine x_iinc hm rfl rfl (v := nI 1) (by decide) rfl ?_
      rw [jI_add]
      refine x_goto hm rfl (t := 44) rfl ?_
      first | exact hout _ _ (hD.trans r2) | exact hout _ _ (hD.trans r3)
    · have hk : k < nb := Nat.lt_of_not_le fun h => h1 (nI_le h (by omega))
      refine x_aload_n hm rfl rfl ?_
      refine x_getf hm rfl (gR rfl rfl) ?_
      refine x_iload hm rfl rfl ?_
      refine x_iconst hm rfl (v := nI 1) (by decide) ?_
      refine x_callS hm rfl rfl (t142) ?_
      refine x_aload_n hm rfl rfl ?_
      refine x_cVi hm rfl rfl (t215) (fun v3 M3 r3 => ?_)
      refine x_bipush hm rfl (v := nI 16) (by decide) ?_
      refine x_irem hm rfl (by decide) ?_
      refine x_iast hm rfl (sI rfl (by omega) (by decide)) ?_
      refine x_iinc hm rfl rfl (v := nI 1) (by decide) rfl ?_
      rw [jI_add]
      refine x_goto hm rfl (t := 52) rfl ?_
      first | exact ih _ _ (by omega) (by omega) ((hD.trans r2).trans (Dy.put (Sf.person (by omega) (by decide)) (by decide))) | exact ih _ _ (by omega) (by omega) ((hD.trans r3).trans (Dy.put (Sf.person (by omega) (by decide)) (by decide)))
theorem l214a {a nb : Nat} {c : Int32} (hW : Wf M) (ha : a ≤ 1000) (hnb : M 67 2 = nI nb) (h8 : nb ≤ 8) : ∀ (n k : Nat) (x : Option Value) (M1 : mM), a - k < n → k ≤ a → Dy M M1 → mEv X (QI (fun _ M' => Dy M M')) 214 44 [some (.ref 66), some (.int (nI a)), some (.int c), some (.int (nI k)), x] [] (con M1) := by
  have hm : mMet 214 = some _ := rfl
  intro n
  induction n with
  | zero =>
    intro k x M1 hkn hkb hD
    omega
  | succ n ih =>
    intro k x M1 hkn hkb hD
    have hW1 := hD.1.1 hW
    refine x_iload_n hm rfl rfl ?_
    refine x_iload_n hm rfl rfl ?_
    refine x_icmp_ge hm rfl (t := 97) rfl (fun h1 => ?_) (fun h1 => ?_)
    · refine x_iload_n hm rfl rfl ?_
      refine x_aload_n hm rfl rfl ?_
      refine x_cVe hm rfl rfl (t170 hW1) (fun v2 r2 => ?_)
      refine x_isub hm rfl ?_
      refine x_iret hm rfl rfl (by first | rfl | exact bI_nar | decide) ?_
      exact ⟨_, _, rfl, rfl, hD⟩
    · have hk : k < a := Nat.lt_of_not_le fun h => h1 (nI_le h (by omega))
      refine x_iconst hm rfl (v := nI 0) (by decide) ?_
      refine x_istore hm rfl rfl ?_
      exact l214b hW hnb h8 (fun M2 x g => ih (k + 1) x M2 (by omega) (by omega) g) _ 0 _ (Nat.lt_succ_self _) (Nat.zero_le _) hD
theorem ev_invD {m pc : Nat} {L : mLoc} {st : List Value} {D : mHp} (hI : Inv M) (h : mEv X (QI (fun _ M' => Dy M M')) m pc L st D) : mEv X (QI (fun _ M' => Inv M')) m pc L st D := ev_mono h (fun r D' ⟨v, M2, g1, g2, g3⟩ => ⟨v, M2, g1, g2, g3.1.inv hI⟩)
theorem t214 {a1 : Int32} (hI : Inv M) : ∃ v M', mT X 214 [.ref 66, .int a1] (con M) (some (.int v)) (con M') ∧ Inv M' := by
  refine ti_of (row := _) rfl (Nat.le_of_ble_eq_true rfl) ?_
  have hm : mMet 214 = some _ := rfl
  obtain ⟨np, hp8, hnp⟩ := hI.1.np
  refine x_iload_n hm rfl rfl ?_
  refine x_iconst hm rfl (v := nI 1) (by decide) ?_
  refine x_bipush hm rfl (v := nI 20) (by decide) ?_
  refine x_callS hm rfl rfl (t133) ?_
  refine x_if_ne hm rfl (t := 17) rfl (fun h1 => ?_) (fun h1 => ?_)
  · obtain ⟨a, ha, -, rfl⟩ := le1_k (by omega) (bI_ne0 h1)
    refine x_aload_n hm rfl rfl ?_
    refine x_getf hm rfl (gR rfl rfl) ?_
    refine x_iconst hm rfl (v := nI 0) (by decide) ?_
    refine x_iald hm rfl (lI rfl (by omega) (by decide)) ?_
    refine x_iload_n hm rfl rfl ?_
    refine x_iadd hm rfl ?_
    refine x_ldcI hm rfl (v := nI 99999) (by decide) ?_
    refine x_icmp_le hm rfl (t := 37) rfl (fun h2 => ?_) (fun h2 => ?_)
    · refine x_aload_n hm rfl rfl ?_
      refine x_cVe hm rfl rfl (t170 hI.1) (fun v3 r3 => ?_)
      refine x_istore_n hm rfl rfl ?_
      refine x_iconst hm rfl (v := nI 0) (by decide) ?_
      refine x_istore_n hm rfl rfl ?_
      exact ev_invD hI (l214a hI.1 (by omega) hnp hp8 _ 0 _ _ (Nat.lt_succ_self _) (Nat.zero_le _) Dy.rf)
    · refine x_aload_n hm rfl rfl ?_
      refine x_ldcI hm rfl (v := (-1000005 : Int32)) (by decide) ?_
      refine x_cVi hm rfl rfl (t135 (by decide)) (fun v4 M4 r4 => ?_)
      refine x_iret hm rfl rfl (by first | rfl | exact bI_nar | decide) ?_
      exact ⟨_, _, rfl, rfl, by first | exact hI | exact (r1.2.inv hI) | exact (r2.2.inv hI) | exact (r3.2.inv hI) | exact (r4.2.inv hI) | exact (r5.2.inv hI) | exact (r1.inv hI) | exact (r2.inv hI) | exact (r3.inv hI) | exact (r4.inv hI) | exact (r5.inv hI)⟩
  · refine x_aload_n hm rfl rfl ?_
    refine x_ldcI hm rfl (v := (-1000001 : Int32)) (by decide) ?_
    refine x_cVi hm rfl rfl (t135 (by decide)) (fun v5 M5 r5 => ?_)
    refine x_iret hm rfl rfl (by first | rfl | exact bI_nar | decide) ?_
    exact ⟨_, _, rfl, rfl, by first | exact hI | exact (r1.2.inv hI) | exact (r2.2.inv hI) | exact (r3.2.inv hI) | exact (r4.2.inv hI) | exact (r5.2.inv hI) | exact (r1.inv hI) | exact (r2.inv hI) | exact (r3.inv hI) | exact (r4.inv hI) | exact (r5.inv hI)⟩
theorem l216c {a : Nat} {w x : Int32} {y z : Int32} (hI : Inv M) (ha : a ≤ 1000) : ∀ (n k : Nat) (g : Int64), a - k < n → k ≤ a → mEv X (QL (fun _ M' => Inv M')) 216 109 [some (.ref 66), some (.int (nI a)), some (.int w), some (.int x), some (.int y), some (.int z), some (.long g), none, some (.int (nI k))] [] (con M) := by
  have hm : mMet 216 = some _ := rfl
  intro n
  induction n with
  | zero =>
    intro k g hkn hkb
    omega
  | succ n ih =>
    intro k g hkn hkb
    refine x_iload hm rfl rfl ?_
    refine x_iload_n hm rfl rfl ?_
    refine x_icmp_ge hm rfl (t := 139) rfl (fun h1 => ?_) (fun h1 => ?_)
    · refine x_lload hm rfl rfl ?_
      refine x_lret hm rfl rfl ?_
      exact ⟨_, _, rfl, rfl, hI⟩
    · have hk : k < a := Nat.lt_of_not_le fun h => h1 (nI_le h (by omega))
      refine x_lload hm rfl rfl ?_
      refine x_iload_n hm rfl rfl ?_
      refine x_if_ne hm rfl (t := 127) rfl (fun h2 => ?_) (fun h2 => ?_)
      · refine x_iload hm rfl rfl ?_
        refine x_i2l hm rfl ?_
        refine x_lmul hm rfl ?_
        refine x_lstore hm rfl rfl ?_
        refine x_iinc hm rfl rfl (v := nI 1) (by decide) rfl ?_
        rw [jI_add]
        refine x_goto hm rfl (t := 109) rfl ?_
        exact ih _ _ (by omega) (by omega)
      · refine x_iload hm rfl rfl ?_
        refine x_i2l hm rfl ?_
        refine x_goto hm rfl (t := 130) rfl ?_
        refine x_lmul hm rfl ?_
        refine x_lstore hm rfl rfl ?_
        refine x_iinc hm rfl rfl (v := nI 1) (by decide) rfl ?_
        rw [jI_add]
        refine x_goto hm rfl (t := 109) rfl ?_
        exact ih _ _ (by omega) (by omega)
theorem l216b {a : Nat} {w x : Int32} (hI : Inv M) (ha : a ≤ 1000) : ∀ (n b : Nat) (y : Int32), b < n → 1 ≤ b → b ≤ 16 → mEv X (QL (fun _ M' => Inv M')) 216 74 [some (.ref 66), some (.int (nI a)), some (.int w), some (.int x), some (.int y), some (.int (nI b)), none, none, none] [] (con M) := by
  have hm : mMet 216 = some _ := rfl
  intro n
  induction n with
  | zero =>
    intro b y hb h1b hb16
    omega
  | succ n ih =>
    intro b y hb h1b hb16
    refine x_iload hm rfl rfl ?_
    refine x_iconst hm rfl (v := nI 2) (by decide) ?_
    refine x_irem hm rfl (by decide) ?_
    refine x_if_ne hm rfl (t := 103) rfl (fun h1 => ?_) (fun h1 => ?_)
    · refine x_lconst hm rfl rfl ?_
      refine x_lstore hm rfl rfl ?_
      refine x_iconst hm rfl (v := nI 0) (by decide) ?_
      refine x_istore hm rfl rfl ?_
      exact l216c hI ha _ 0 _ (Nat.lt_succ_self _) (Nat.zero_le _)
    · refine x_iload hm rfl rfl ?_
      refine x_iconst hm rfl (v := nI 2) (by decide) ?_
      refine x_irem hm rfl (by decide) ?_
      refine x_if_ne hm rfl (t := 103) rfl (fun h2 => ?_) (fun h2 => ?_)
      · refine x_lconst hm rfl rfl ?_
        refine x_lstore hm rfl rfl ?_
        refine x_iconst hm rfl (v := nI 0) (by decide) ?_
        refine x_istore hm rfl rfl ?_
        exact l216c hI ha _ 0 _ (Nat.lt_succ_self _) (Nat.zero_le _)
      · obtain ⟨o1, o2, o3⟩ := odd_k b hb16 h1b h2
        refine x_iload hm rfl rfl ?_
        refine x_iconst hm rfl (v := nI 2) (by decide) ?_
        refine x_idiv hm rfl (by decide) ?_
        refine x_istore hm rfl rfl ?_
        refine x_iload hm rfl rfl ?_
        refine x_iconst hm rfl (v := nI 2) (by decide) ?_
        refine x_idiv hm rfl (by decide) ?_
        rw [o3]
        refine x_istore hm rfl rfl ?_
        refine x_goto hm rfl (t := 74) rfl ?_
        exact ih _ _ (by omega) o1 (by omega)
theorem l216a {a : Nat} {w : Int32} (hI : Inv M) (ha : a ≤ 1000) {nb : Nat} (hnb : M 67 1 = nI nb) (h8 : nb ≤ 8) : ∀ (n k : Nat) (s : Int32), nb - k < n → k ≤ nb → mEv X (QL (fun _ M' => Inv M')) 216 32 [some (.ref 66), some (.int (nI a)), some (.int w), some (.int s), some (.int (nI k)), none, none, none, none] [] (con M) := by
  have hm : mMet 216 = some _ := rfl
  intro n
  induction n with
  | zero =>
    intro k s hkn hkb
    omega
  | succ n ih =>
    intro k s hkn hkb
    refine x_iload hm rfl rfl ?_
    refine x_aload_n hm rfl rfl ?_
    refine x_getf hm rfl (gR rfl rfl) ?_
    refine x_iconst hm rfl (v := nI 1) (by decide) ?_
    refine x_iald hm rfl (lI rfl (by omega) (by decide)) ?_
    rw [hnb]
    refine x_icmp_ge hm rfl (t := 61) rfl (fun h1 => ?_) (fun h1 => ?_)
    · refine x_bipush hm rfl (v := nI 16) (by decide) ?_
      refine x_iload_n hm rfl rfl ?_
      refine x_cSe hm rfl rfl (t168) (fun v2 r2 => ?_)
      refine x_isub hm rfl ?_
      refine x_istore hm rfl rfl ?_
      refine x_bipush hm rfl (v := nI 16) (by decide) ?_
      refine x_istore hm rfl rfl ?_
      exact l216b hI ha _ 16 _ (Nat.lt_succ_self _) (by decide) (by decide)
    · have hk : k < nb := Nat.lt_of_not_le fun h => h1 (nI_le h (by omega))
      refine x_iload_n hm rfl rfl ?_
      refine x_iconst hm rfl (v := nI 1) (by decide) ?_
      refine x_aload_n hm rfl rfl ?_
      refine x_iload hm rfl rfl ?_
      refine x_iconst hm rfl (v := nI 1) (by decide) ?_
      refine x_callV hm rfl rfl (t143 (by omega) (by omega)) ?_
      refine x_ishl hm rfl ?_
      refine x_ior hm rfl ?_
      refine x_istore_n hm rfl rfl ?_
      refine x_iinc hm rfl rfl (v := nI 1) (by decide) rfl ?_
      rw [jI_add]
      refine x_goto hm rfl (t := 32) rfl ?_
      exact ih _ _ (by omega) (by omega)
theorem t216 {a1 a2 : Int32} (hI : Inv M) : ∃ v M', mT X 216 [.ref 66, .int a1, .int a2] (con M) (some (.long v)) (con M') ∧ Inv M' := by
  refine tl_of (row := _) rfl (Nat.le_of_ble_eq_true rfl) ?_
  have hm : mMet 216 = some _ := rfl
  obtain ⟨nt, hn8, hnt⟩ := hI.1.nt
  refine x_iload_n hm rfl rfl ?_
  refine x_iconst hm rfl (v := nI 0) (by decide) ?_
  refine x_bipush hm rfl (v := nI 14) (by decide) ?_
  refine x_callS hm rfl rfl (t133) ?_
  refine x_if_eq hm rfl (t := 19) rfl (fun h1 => ?_) (fun h1 => ?_)
  · refine x_aload_n hm rfl rfl ?_
    refine x_ldcI hm rfl (v := (-1000001 : Int32)) (by decide) ?_
    refine x_cVi hm rfl rfl (t135 (by decide)) (fun v2 M2 r2 => ?_)
    refine x_i2l hm rfl ?_
    refine x_lret hm rfl rfl ?_
    exact ⟨_, _, rfl, rfl, by first | exact hI | exact (r1.2.inv hI) | exact (r2.2.inv hI) | exact (r3.2.inv hI) | exact (r4.2.inv hI) | exact (r5.2.inv hI) | exact (r1.inv hI) | exact (r2.inv hI) | exact (r3.inv hI) | exact (r4.inv hI) | exact (r5.inv hI)⟩
  · obtain ⟨a, ha, rfl⟩ := le_k (by omega) (bI_ne0 h1)
    refine x_iload_n hm rfl rfl ?_
    refine x_iconst hm rfl (v := nI 0) (by decide) ?_
    refine x_iconst hm rfl (v := nI 1) (by decide) ?_
    refine x_callS hm rfl rfl (t133) ?_
    refine x_if_ne hm rfl (t := 27) rfl (fun h3 => ?_) (fun h3 => ?_)
    · refine x_iconst hm rfl (v := nI 0) (by decide) ?_
      refine x_istore_n hm rfl rfl ?_
      refine x_iconst hm rfl (v := nI 0) (by decide) ?_
      refine x_istore hm rfl rfl ?_
      exact l216a hI (by omega) hnt hn8 _ 0 _ (Nat.lt_succ_self _) (Nat.zero_le _)
    · refine x_aload_n hm rfl rfl ?_
      refine x_ldcI hm rfl (v := (-1000001 : Int32)) (by decide) ?_
      refine x_cVi hm rfl rfl (t135 (by decide)) (fun v4 M4 r4 => ?_)
      refine x_i2l hm rfl ?_
      refine x_lret hm rfl rfl ?_
      exact ⟨_, _, rfl, rfl, by first | exact hI | exact (r1.2.inv hI) | exact (r2.2.inv hI) | exact (r3.2.inv hI) | exact (r4.2.inv hI) | exact (r5.2.inv hI) | exact (r1.inv hI) | exact (r2.inv hI) | exact (r3.inv hI) | exact (r4.inv hI) | exact (r5.inv hI)⟩
theorem t155 {i : Nat} {v : Int32} (hi : i < 118) : mT X 155 [.ref 66, .int (nI i), .int v] (con M) (some (.int (M 67 i))) (con (mput M 67 i v)) := by
  refine mT.of (row := _) rfl (Nat.le_of_ble_eq_true rfl) ?_
  have hm : mMet 155 = some _ := rfl
  refine x_aload_n hm rfl rfl ?_
  refine x_getf hm rfl (gR rfl rfl) ?_
  refine x_iload_n hm rfl rfl ?_
  refine x_iald hm rfl (lI rfl (by omega) (by decide)) ?_
  refine x_istore_n hm rfl rfl ?_
  refine x_aload_n hm rfl rfl ?_
  refine x_getf hm rfl (gR rfl rfl) ?_
  refine x_iload_n hm rfl rfl ?_
  refine x_iload_n hm rfl rfl ?_
  refine x_iast hm rfl (sI rfl (by omega) (by decide)) ?_
  refine x_iload_n hm rfl rfl ?_
  refine x_iret hm rfl rfl (by first | rfl | exact bI_nar | decide) ?_
  exact ⟨rfl, rfl⟩
theorem t217 {a1 : Int32} (hI : Inv M) : ∃ v M', mT X 217 [.ref 66, .int a1] (con M) (some (.int v)) (con M') ∧ Inv M' := by
  refine ti_of (row := _) rfl (Nat.le_of_ble_eq_true rfl) ?_
  have hm : mMet 217 = some _ := rfl
  refine x_aload_n hm rfl rfl ?_
  refine x_iconst hm rfl (v := nI 3) (by decide) ?_
  refine x_iload_n hm rfl rfl ?_
  refine x_callV hm rfl rfl (t155 (by omega)) ?_
  refine x_iret hm rfl rfl (by first | rfl | exact bI_nar | decide) ?_
  exact ⟨_, _, rfl, rfl, Sf.draw.inv hI⟩
theorem t219  (hI : Inv M) : ∃ v M', mT X 219 [.ref 66] (con M) (some (.int v)) (con M') ∧ Inv M' := by
  refine ti_of (row := _) rfl (Nat.le_of_ble_eq_true rfl) ?_
  have hm : mMet 219 = some _ := rfl
  refine x_aload_n hm rfl rfl ?_
  refine x_getf hm rfl (gI rfl rfl) ?_
  refine x_istore_n hm rfl rfl ?_
  refine x_aload_n hm rfl rfl ?_
  refine x_iconst hm rfl (v := nI 0) (by decide) ?_
  refine x_putf hm rfl (pI rfl rfl (by decide) (by first | exact mFit_int | rfl | decide) rfl) ?_
  refine x_iload_n hm rfl rfl ?_
  refine x_iret hm rfl rfl (by first | rfl | exact bI_nar | decide) ?_
  exact ⟨_, _, rfl, rfl, (Sf.taped (okI4 (k := 0) (by decide))).inv hI⟩
theorem l218 {b nn : Int32} : ∀ (n j c : Nat) (M1 : mM), j < n → c + j ≤ 120 → M1 66 9 = nI c → Sf M M1 → mEv X (QI (fun _ M' => Sf M M')) 218 38 [some (.ref 66), some (.int b), some (.int nn), some (.int (nI j + (-1)))] [] (con M1) := by
  have hm : mMet 218 = some _ := rfl
  intro n
  induction n with
  | zero =>
    intro j c M1 hj hc hm9 hS
    omega
  | succ n ih =>
    intro j c M1 hj hc hm9 hS
    refine x_iload_n hm rfl rfl ?_
    refine x_if_lt hm rfl (t := 77) rfl (fun h1 => ?_) (fun h1 => ?_)
    · refine x_aload_n hm rfl rfl ?_
      refine x_getf hm rfl (gI rfl rfl) ?_
      refine x_iret hm rfl rfl (by first | rfl | exact bI_nar | decide) ?_
      exact ⟨_, _, rfl, rfl, hS⟩
    · obtain ⟨i, rfl⟩ : ∃ i, j = i + 1 := by
        cases j with
        | zero => exact absurd (by decide) h1
        | succ i => exact ⟨i, rfl⟩
      refine x_aload_n hm rfl rfl ?_
      refine x_getf hm rfl (gR rfl rfl) ?_
      refine x_aload_n hm rfl rfl ?_
      refine x_getf hm rfl (gI rfl rfl) ?_
      rw [hm9]
      refine x_iload_n hm rfl rfl ?_
      refine x_bipush hm rfl (v := nI 8) (by decide) ?_
      refine x_iload_n hm rfl rfl ?_
      refine x_imul hm rfl ?_
      refine x_ishr hm rfl ?_
      refine x_sipush hm rfl (v := nI 255) (by decide) ?_
      refine x_iand hm rfl ?_
      refine x_iast hm rfl (sI rfl (by omega) (by decide)) ?_
      refine x_aload_n hm rfl rfl ?_
      refine x_dup hm rfl rfl ?_
      refine x_getf hm rfl (gI rfl rfl) ?_
      rw [mput_ne (a := 73) (i := 66) (by decide), hm9]
      refine x_iconst hm rfl (v := nI 1) (by decide) ?_
      refine x_iadd hm rfl ?_
      rw [jI_add]
      refine x_putf hm rfl (pI rfl rfl (by decide) (by first | exact mFit_int | rfl | decide) rfl) ?_
      refine x_iinc hm rfl rfl (v := (-1 : Int32)) (by decide) rfl ?_
      rw [dec1]
      refine x_goto hm rfl (t := 38) rfl ?_
      exact ih _ (c + 1) _ (by omega) (by omega) (by unfold mput; rw [if_pos ⟨rfl, rfl⟩]) ((hS.trans (Sf.put0 (kd73 _) (by decide) (by decide))).trans (Sf.taped (okI4 (by omega))))
theorem t218 {a1 a2 : Int32} (hI : Inv M) : ∃ v M', mT X 218 [.ref 66, .int a1, .int a2] (con M) (some (.int v)) (con M') ∧ Inv M' := by
  refine ti_of (row := _) rfl (Nat.le_of_ble_eq_true rfl) ?_
  have hm : mMet 218 = some _ := rfl
  obtain ⟨c, hc, hc9⟩ := ok4 (show okx 4 (M 66 9) from hI.1 66 9)
  refine x_iload_n hm rfl rfl ?_
  refine x_iconst hm rfl (v := nI 1) (by decide) ?_
  refine x_iconst hm rfl (v := nI 4) (by decide) ?_
  refine x_callS hm rfl rfl (t133) ?_
  refine x_if_ne hm rfl (t := 16) rfl (fun h1 => ?_) (fun h1 => ?_)
  · obtain ⟨a, ha, ha1, rfl⟩ := le1_k (by omega) (bI_ne0 h1)
    refine x_aload_n hm rfl rfl ?_
    refine x_getf hm rfl (gI rfl rfl) ?_
    rw [hc9]
    refine x_iload_n hm rfl rfl ?_
    refine x_iadd hm rfl ?_
    rw [jI_add]
    refine x_bipush hm rfl (v := nI 120) (by decide) ?_
    refine x_icmp_le hm rfl (t := 34) rfl (fun h2 => ?_) (fun h2 => ?_)
    · have hle : c + a ≤ 120 := (jI_le (by omega) (by decide)).mp h2
      refine x_iload_n hm rfl rfl ?_
      refine x_iconst hm rfl (v := nI 1) (by decide) ?_
      refine x_isub hm rfl ?_
      rw [sub1]
      refine x_istore_n hm rfl rfl ?_
      exact ev_inv hI (l218 _ a c _ (Nat.lt_succ_self _) hle hc9 Sf.rf)
    · refine x_aload_n hm rfl rfl ?_
      refine x_ldcI hm rfl (v := (-1000002 : Int32)) (by decide) ?_
      refine x_cVi hm rfl rfl (t135 (by decide)) (fun v3 M3 r3 => ?_)
      refine x_iret hm rfl rfl (by first | rfl | exact bI_nar | decide) ?_
      exact ⟨_, _, rfl, rfl, by first | exact hI | exact (r1.2.inv hI) | exact (r2.2.inv hI) | exact (r3.2.inv hI) | exact (r4.2.inv hI) | exact (r5.2.inv hI) | exact (r1.inv hI) | exact (r2.inv hI) | exact (r3.inv hI) | exact (r4.inv hI) | exact (r5.inv hI)⟩
  · refine x_aload_n hm rfl rfl ?_
    refine x_ldcI hm rfl (v := (-1000001 : Int32)) (by decide) ?_
    refine x_cVi hm rfl rfl (t135 (by decide)) (fun v4 M4 r4 => ?_)
    refine x_iret hm rfl rfl (by first | rfl | exact bI_nar | decide) ?_
    exact ⟨_, _, rfl, rfl, by first | exact hI | exact (r1.2.inv hI) | exact (r2.2.inv hI) | exact (r3.2.inv hI) | exact (r4.2.inv hI) | exact (r5.2.inv hI) | exact (r1.inv hI) | exact (r2.inv hI) | exact (r3.inv hI) | exact (r4.inv hI) | exact (r5.inv hI)⟩
end RI
end
section
/-! ===== the reference: what changes the town ===== -/
section RJ
variable {X : mSc} {Q : Option Value → mHp → Prop} {M : mM}
theorem mp1 {b j : Nat} {v : Int32} (h : j ≠ b) : mput M 67 b v 67 j = M 67 j := by
  unfold mput
  rw [if_neg fun e => h e.2]
theorem mp0 {b : Nat} {v : Int32} {a : Nat} : mput M a b v a b = v := if_pos ⟨rfl, rfl⟩
theorem Ac.add {r r' : Nat → Int32} {n : Nat} (h : Ac r) (hn : r 1 = nI n) (h8 : n < 8) (h1 : r' 1 = nI (n + 1)) (hs : ∀ t, t < n → r' (14 + 6 * t + 5) = r (14 + 6 * t + 5)) (ho : r' (14 + 6 * n + 5) = -1 ∨ ∃ u, u < n ∧ r' (14 + 6 * n + 5) = nI u) : Ac r' := by
  intro n' hn' e
  obtain rfl : n' = n + 1 := jI_inj (by omega) (by omega) (e.symm.trans h1)
  obtain ⟨rk, hk⟩ := h n (by omega) hn
  rcases ho with ho | ⟨w, hw, ho⟩
  · refine ⟨rk, fun t u ht hu he => ?_⟩
    by_cases htn : t = n
    · subst htn
      rw [ho] at he
      exact absurd (congrArg Int32.toInt he) (by rw [jI_int (by omega)]; have : (-1 : Int32).toInt = -1 := by decide
                                                 omega)
    · rw [hs t (by omega)] at he
      have := hk t u (by omega) hu he
      exact ⟨by omega, this.2⟩
  · refine ⟨fun t => if t = n then rk w + 1 else rk t, fun t u ht hu he => ?_⟩
    by_cases htn : t = n
    · subst htn
      rw [ho] at he
      obtain rfl := jI_inj (by omega) (by omega) he
      refine ⟨by omega, ?_⟩
      dsimp only
      rw [if_neg (by omega), if_pos rfl]
      omega
    · rw [hs t (by omega)] at he
      have := hk t u (by omega) hu he
      refine ⟨by omega, ?_⟩
      dsimp only
      rw [if_neg (by omega), if_neg htn]
      exact this.2
def addT (M : mM) (n : Nat) (s p th pa ow on : Int32) : mM := mput (mput (mput (mput (mput (mput (mput M 67 (14 + 6 * n + 0) s) 67 (14 + 6 * n + 1) p) 67 (14 + 6 * n + 2) th) 67 (14 + 6 * n + 3) pa) 67 (14 + 6 * n + 4) ow) 67 (14 + 6 * n + 5) on) 67 1 (nI (n + 1))
theorem addT_1 {n : Nat} {s p th pa ow on : Int32} : mput (mput (mput (mput (mput (mput M 67 (14 + 6 * n + 0) s) 67 (14 + 6 * n + 1) p) 67 (14 + 6 * n + 2) th) 67 (14 + 6 * n + 3) pa) 67 (14 + 6 * n + 4) ow) 67 (14 + 6 * n + 5) on 67 1 = M 67 1 := by
  rw [mp1 (by omega), mp1 (by omega), mp1 (by omega), mp1 (by omega), mp1 (by omega), mp1 (by omega)]
theorem mpo {a b i : Nat} {v : Int32} (h : i ≠ a) : mput M a b v i = M i := by
  funext j
  exact mput_ne h
theorem addT_o {n i : Nat} {s p th pa ow on : Int32} (h : i ≠ 67) : addT M n s p th pa ow on i = M i := by
  unfold addT
  rw [mpo h, mpo h, mpo h, mpo h, mpo h, mpo h, mpo h]
theorem addT_2 {n : Nat} {s p th pa ow on : Int32} : addT M n s p th pa ow on 67 2 = M 67 2 := by
  unfold addT
  rw [mp1 (by omega), mp1 (by omega), mp1 (by omega), mp1 (by omega), mp1 (by omega), mp1 (by omega), mp1 (by omega)]
theorem addT_inv {n : Nat} {s p th pa ow on : Int32} (hI : Inv M) (hn : M 67 1 = nI n) (h8 : n < 8) (hs : okx 3 s) (how : okx 2 ow) (hon : on = -1 ∨ ∃ u, u < n ∧ on = nI u) : Inv (addT M n s p th pa ow on) := by
  have hko : okx 2 on := by
    rcases hon with rfl | ⟨u, hu, rfl⟩
    · exact okM1
    · exact okI2 (by omega)
  refine ⟨?_, ?_, by rw [addT_o (by decide)]; exact hI.2.2⟩
  · unfold addT
    refine Wf.put ?_ (okI1 (by omega))
    refine Wf.put ?_ (by rw [kd_t n h8 5 (by decide)]; exact hko)
    refine Wf.put ?_ (by rw [kd_t n h8 4 (by decide)]; exact how)
    refine Wf.put ?_ (by rw [kd_t n h8 3 (by decide)]; trivial)
    refine Wf.put ?_ (by rw [kd_t n h8 2 (by decide)]; trivial)
    refine Wf.put ?_ (by rw [kd_t n h8 1 (by decide)]; trivial)
    exact Wf.put hI.1 (by rw [kd_t n h8 0 (by decide)]; exact hs)
  · refine hI.2.1.add hn h8 mp0 (fun t ht => ?_) ?_
    · unfold addT
      rw [mp1 (by omega), mp1 (by omega), mp1 (by omega), mp1 (by omega), mp1 (by omega), mp1 (by omega), mp1 (by omega)]
    · have e : addT M n s p th pa ow on 67 (14 + 6 * n + 5) = on := by
        unfold addT
        rw [mp1 (by omega), mp0]
      rw [e]
      exact hon
theorem okx_le3 {v : Int32} (h : nI 0 ≤ v ∧ v ≤ nI 3) : okx 3 v := by
  obtain ⟨k, hk, rfl⟩ := le_k (by decide) h
  exact okI3 hk
theorem tn {x : Int32} {i : Nat} (h : x.toInt = 0 + (i : Int)) (hi : i < 1000) : x = nI i := by
  apply Int32.toInt_inj.mp
  rw [jI_int (by omega)]
  omega
theorem bI_cs {c : Prop} [Decidable c] : (bI c = nI 0) ∨ (bI c = nI 1 ∧ c) := by
  by_cases h : c
  · exact Or.inr ⟨if_pos h, h⟩
  · exact Or.inl (if_neg h)
theorem Ac.re {r : Nat → Int32} {n t v : Nat} (h : Ac r) (hn : r 1 = nI n) (h8 : n ≤ 8) (ht : t < n) (hv : v < n) (hR : ¬ Rch r t v) {r' : Nat → Int32} (h1 : r' 1 = r 1) (hs : ∀ u, u < 8 → u ≠ t → r' (14 + 6 * u + 5) = r (14 + 6 * u + 5)) (he : r' (14 + 6 * t + 5) = nI v) : Ac r' := by
  intro n' hn' e
  rw [h1, hn] at e
  obtain rfl := jI_inj (by omega) (by omega) e
  obtain ⟨rk, hk⟩ := h n h8 hn
  classical
  refine ⟨fun x => rk x + if Rch r t x then rk v + 1 else 0, fun x u hx hu hxu => ?_⟩
  by_cases hxt : x = t
  · subst hxt
    rw [he] at hxu
    obtain rfl := jI_inj (by omega) (by omega) hxu
    refine ⟨hv, ?_⟩
    have hx1 : Rch r x x := ⟨1, Or.inl rfl⟩
    dsimp only
    rw [if_neg hR, if_pos hx1]
    omega
  · rw [hs x (by omega) hxt] at hxu
    obtain ⟨g1, g2⟩ := hk x u hx hu hxu
    refine ⟨g1, ?_⟩
    dsimp only
    by_cases hu2 : Rch r t u
    · have hx2 : Rch r t x := by
        obtain ⟨f, hf⟩ := hu2
        exact ⟨f + 1, Or.inr ⟨u, hu, hxu, hf⟩⟩
      rw [if_pos hu2, if_pos hx2]
      omega
    · rw [if_neg hu2]
      omega
theorem Ac.off {r : Nat → Int32} {t : Nat} (h : Ac r) {r' : Nat → Int32} (h1 : r' 1 = r 1) (hs : ∀ u, u < 8 → u ≠ t → r' (14 + 6 * u + 5) = r (14 + 6 * u + 5)) (he : r' (14 + 6 * t + 5) = -1) : Ac r' := by
  intro n hn e
  rw [h1] at e
  obtain ⟨rk, hk⟩ := h n hn e
  refine ⟨rk, fun x u hx hu hxu => ?_⟩
  by_cases hxt : x = t
  · subst hxt
    rw [he] at hxu
    exact absurd (congrArg Int32.toInt hxu) (by rw [jI_int (by omega)]; have : (-1 : Int32).toInt = -1 := by decide
                                                omega)
  · rw [hs x (by omega) hxt] at hxu
    exact hk x u hx hu hxu
theorem Inv.on {t : Nat} {v : Int32} (hI : Inv M) (ht : t < 8) (hv : okx 2 v) (hA : Ac (mput M 67 (14 + 6 * t + 5) v 67)) : Inv (mput M 67 (14 + 6 * t + 5) v) :=
  ⟨hI.1.put (by rw [kd_t t ht 5 (by decide)]; exact hv), hA, by rw [mpo (by decide)]; exact hI.2.2⟩
theorem t136 {n : Nat} {s p th pa ow on : Int32} (hn : M 67 1 = nI n) (h8 : n < 8) : mT X 136 [.ref 66, .int s, .int p, .int th, .int pa, .int ow, .int on] (con M) (some (.int (nI n))) (con (addT M n s p th pa ow on)) := by
  refine mT.of (row := _) rfl (Nat.le_of_ble_eq_true rfl) ?_
  have hm : mMet 136 = some _ := rfl
  refine x_aload_n hm rfl rfl ?_
  refine x_getf hm rfl (gR rfl rfl) ?_
  refine x_iconst hm rfl (v := nI 1) (by decide) ?_
  refine x_iald hm rfl (lI rfl (by omega) (by decide)) ?_
  rw [hn]
  refine x_istore hm rfl rfl ?_
  refine x_aload_n hm rfl rfl ?_
  refine x_getf hm rfl (gR rfl rfl) ?_
  refine x_iload hm rfl rfl ?_
  refine x_iconst hm rfl (v := nI 0) (by decide) ?_
  refine x_callS hm rfl rfl (t137) ?_
  refine x_iload_n hm rfl rfl ?_
  refine x_iast hm rfl (sI rfl (by omega) (by decide)) ?_
  refine x_aload_n hm rfl rfl ?_
  refine x_getf hm rfl (gR rfl rfl) ?_
  refine x_iload hm rfl rfl ?_
  refine x_iconst hm rfl (v := nI 1) (by decide) ?_
  refine x_callS hm rfl rfl (t137) ?_
  refine x_iload_n hm rfl rfl ?_
  refine x_iast hm rfl (sI rfl (by omega) (by decide)) ?_
  refine x_aload_n hm rfl rfl ?_
  refine x_getf hm rfl (gR rfl rfl) ?_
  refine x_iload hm rfl rfl ?_
  refine x_iconst hm rfl (v := nI 2) (by decide) ?_
  refine x_callS hm rfl rfl (t137) ?_
  refine x_iload_n hm rfl rfl ?_
  refine x_iast hm rfl (sI rfl (by omega) (by decide)) ?_
  refine x_aload_n hm rfl rfl ?_
  refine x_getf hm rfl (gR rfl rfl) ?_
  refine x_iload hm rfl rfl ?_
  refine x_iconst hm rfl (v := nI 3) (by decide) ?_
  refine x_callS hm rfl rfl (t137) ?_
  refine x_iload hm rfl rfl ?_
  refine x_iast hm rfl (sI rfl (by omega) (by decide)) ?_
  refine x_aload_n hm rfl rfl ?_
  refine x_getf hm rfl (gR rfl rfl) ?_
  refine x_iload hm rfl rfl ?_
  refine x_iconst hm rfl (v := nI 4) (by decide) ?_
  refine x_callS hm rfl rfl (t137) ?_
  refine x_iload hm rfl rfl ?_
  refine x_iast hm rfl (sI rfl (by omega) (by decide)) ?_
  refine x_aload_n hm rfl rfl ?_
  refine x_getf hm rfl (gR rfl rfl) ?_
  refine x_iload hm rfl rfl ?_
  refine x_iconst hm rfl (v := nI 5) (by decide) ?_
  refine x_callS hm rfl rfl (t137) ?_
  refine x_iload hm rfl rfl ?_
  refine x_iast hm rfl (sI rfl (by omega) (by decide)) ?_
  refine x_aload_n hm rfl rfl ?_
  refine x_getf hm rfl (gR rfl rfl) ?_
  refine x_iconst hm rfl (v := nI 1) (by decide) ?_
  refine x_dup2 hm rfl rfl rfl ?_
  refine x_iald hm rfl (lI rfl (by omega) (by decide)) ?_
  rw [addT_1, hn]
  refine x_iconst hm rfl (v := nI 1) (by decide) ?_
  refine x_iadd hm rfl ?_
  rw [jI_add]
  refine x_iast hm rfl (sI rfl (by omega) (by decide)) ?_
  refine x_iload hm rfl rfl ?_
  refine x_iret hm rfl rfl (by first | rfl | exact bI_nar | decide) ?_
  exact ⟨rfl, rfl⟩
theorem t132 {a1 a2 : Int32} (hI : Inv M) : ∃ v M', mT X 132 [.ref 66, .int a1, .int a2] (con M) (some (.int v)) (con M') ∧ Inv M' := by
  refine ti_of (row := _) rfl (Nat.le_of_ble_eq_true rfl) ?_
  have hm : mMet 132 = some _ := rfl
  obtain ⟨nt, hn8, hnt⟩ := hI.1.nt
  refine x_iload_n hm rfl rfl ?_
  refine x_iconst hm rfl (v := nI 0) (by decide) ?_
  refine x_iconst hm rfl (v := nI 3) (by decide) ?_
  refine x_callS hm rfl rfl (t133) ?_
  refine x_if_eq hm rfl (t := 16) rfl (fun h1 => ?_) (fun h1 => ?_)
  · refine x_aload_n hm rfl rfl ?_
    refine x_ldcI hm rfl (v := (-1000001 : Int32)) (by decide) ?_
    refine x_cVi hm rfl rfl (t135 (by decide)) (fun v2 M2 r2 => ?_)
    refine x_iret hm rfl rfl (by first | rfl | exact bI_nar | decide) ?_
    exact ⟨_, _, rfl, rfl, by first | exact (r3.2.inv hI) | exact (r4.2.inv hI) | exact (r2.2.inv hI) | exact (r5.2.inv hI) | exact (r6.2.inv hI) | exact (r7.2.inv hI) | exact (r8.2.inv hI) | exact addT_inv hI hnt hlt hs okM1 (Or.inl rfl)⟩
  · have hs := okx_le3 (bI_ne0 h1)
    refine x_iload_n hm rfl rfl ?_
    refine x_callS hm rfl rfl (t134) ?_
    refine x_if_ne hm rfl (t := 23) rfl (fun h3 => ?_) (fun h3 => ?_)
    · refine x_aload_n hm rfl rfl ?_
      refine x_getf hm rfl (gR rfl rfl) ?_
      refine x_iconst hm rfl (v := nI 1) (by decide) ?_
      refine x_iald hm rfl (lI rfl (by omega) (by decide)) ?_
      rw [hnt]
      refine x_bipush hm rfl (v := nI 8) (by decide) ?_
      refine x_icmp_ne hm rfl (t := 43) rfl (fun h4 => ?_) (fun h4 => ?_)
      · have hlt : nt < 8 := Nat.lt_of_le_of_ne hn8 fun e => h4 (by rw [e])
        refine x_aload_n hm rfl rfl ?_
        refine x_iload_n hm rfl rfl ?_
        refine x_iload_n hm rfl rfl ?_
        refine x_bipush hm rfl (v := nI 100) (by decide) ?_
        refine x_iconst hm rfl (v := nI 0) (by decide) ?_
        refine x_iconst hm rfl (v := (-1 : Int32)) (by decide) ?_
        refine x_iconst hm rfl (v := (-1 : Int32)) (by decide) ?_
        refine x_callV hm rfl rfl (t136 hnt hlt) ?_
        refine x_iret hm rfl rfl (by first | rfl | exact bI_nar | decide) ?_
        exact ⟨_, _, rfl, rfl, by first | exact (r3.2.inv hI) | exact (r4.2.inv hI) | exact (r2.2.inv hI) | exact (r5.2.inv hI) | exact (r6.2.inv hI) | exact (r7.2.inv hI) | exact (r8.2.inv hI) | exact addT_inv hI hnt hlt hs okM1 (Or.inl rfl)⟩
      · refine x_aload_n hm rfl rfl ?_
        refine x_ldcI hm rfl (v := (-1000002 : Int32)) (by decide) ?_
        refine x_cVi hm rfl rfl (t135 (by decide)) (fun v5 M5 r5 => ?_)
        refine x_goto hm rfl (t := 54) rfl ?_
        refine x_iret hm rfl rfl (by first | rfl | exact bI_nar | decide) ?_
        exact ⟨_, _, rfl, rfl, by first | exact (r3.2.inv hI) | exact (r4.2.inv hI) | exact (r2.2.inv hI) | exact (r5.2.inv hI) | exact (r6.2.inv hI) | exact (r7.2.inv hI) | exact (r8.2.inv hI) | exact addT_inv hI hnt hlt hs okM1 (Or.inl rfl)⟩
    · refine x_aload_n hm rfl rfl ?_
      refine x_ldcI hm rfl (v := (-1000001 : Int32)) (by decide) ?_
      refine x_cVi hm rfl rfl (t135 (by decide)) (fun v6 M6 r6 => ?_)
      refine x_iret hm rfl rfl (by first | rfl | exact bI_nar | decide) ?_
      exact ⟨_, _, rfl, rfl, by first | exact (r3.2.inv hI) | exact (r4.2.inv hI) | exact (r2.2.inv hI) | exact (r5.2.inv hI) | exact (r6.2.inv hI) | exact (r7.2.inv hI) | exact (r8.2.inv hI) | exact addT_inv hI hnt hlt hs okM1 (Or.inl rfl)⟩
theorem l158 {n : Nat} {k p w : Int32} (h8 : n < 8) : ∀ (m i : Nat) (M1 : mM), 4 - i < m → i ≤ 4 → M1 67 2 = nI n → Sf M M1 → mEv X (QI (fun v M' => v = nI n ∧ ∃ M1, Sf M M1 ∧ M' = mput M1 67 2 (nI (n + 1)))) 158 47 [some (.ref 66), some (.int k), some (.int p), some (.int w), some (.int (nI n)), some (.int (nI i))] [] (con M1) := by
  have hm : mMet 158 = some _ := rfl
  intro m
  induction m with
  | zero =>
    intro i M1 him hi4 hn1 hS
    omega
  | succ m ih =>
    intro i M1 him hi4 hn1 hS
    refine x_iload hm rfl rfl ?_
    refine x_iconst hm rfl (v := nI 4) (by decide) ?_
    refine x_icmp_ge hm rfl (t := 74) rfl (fun h1 => ?_) (fun h1 => ?_)
    · refine x_aload_n hm rfl rfl ?_
      refine x_getf hm rfl (gR rfl rfl) ?_
      refine x_iconst hm rfl (v := nI 2) (by decide) ?_
      refine x_dup2 hm rfl rfl rfl ?_
      refine x_iald hm rfl (lI rfl (by omega) (by decide)) ?_
      rw [hn1]
      refine x_iconst hm rfl (v := nI 1) (by decide) ?_
      refine x_iadd hm rfl ?_
      rw [jI_add]
      refine x_iast hm rfl (sI rfl (by omega) (by decide)) ?_
      refine x_iload hm rfl rfl ?_
      refine x_iret hm rfl rfl (by first | rfl | exact bI_nar | decide) ?_
      exact ⟨_, _, rfl, rfl, rfl, M1, hS, rfl⟩
    · have hk : i < 4 := Nat.lt_of_not_le fun h => h1 (nI_le h (by omega))
      refine x_aload_n hm rfl rfl ?_
      refine x_getf hm rfl (gR rfl rfl) ?_
      refine x_iload hm rfl rfl ?_
      refine x_iconst hm rfl (v := nI 3) (by decide) ?_
      refine x_iload hm rfl rfl ?_
      refine x_iadd hm rfl ?_
      rw [jI_add]
      refine x_callS hm rfl rfl (t142) ?_
      refine x_iconst hm rfl (v := nI 1) (by decide) ?_
      refine x_iast hm rfl (sI rfl (by omega) (by decide)) ?_
      refine x_iinc hm rfl rfl (v := nI 1) (by decide) rfl ?_
      rw [jI_add]
      refine x_goto hm rfl (t := 47) rfl ?_
      exact ih _ _ (by omega) (by omega) (by rw [mp1 (by omega)]; exact hn1) (hS.trans (Sf.person (by omega) (by omega)))
theorem t158 {n : Nat} {k p w : Int32} (hn : M 67 2 = nI n) (h8 : n < 8) : ∃ v M', mT X 158 [.ref 66, .int k, .int p, .int w] (con M) (some (.int v)) (con M') ∧ v = nI n ∧ ∃ M1, Sf M M1 ∧ M' = mput M1 67 2 (nI (n + 1)) := by
  refine ti_of (row := _) rfl (Nat.le_of_ble_eq_true rfl) ?_
  have hm : mMet 158 = some _ := rfl
  refine x_aload_n hm rfl rfl ?_
  refine x_getf hm rfl (gR rfl rfl) ?_
  refine x_iconst hm rfl (v := nI 2) (by decide) ?_
  refine x_iald hm rfl (lI rfl (by omega) (by decide)) ?_
  rw [hn]
  refine x_istore hm rfl rfl ?_
  refine x_aload_n hm rfl rfl ?_
  refine x_getf hm rfl (gR rfl rfl) ?_
  refine x_iload hm rfl rfl ?_
  refine x_iconst hm rfl (v := nI 0) (by decide) ?_
  refine x_callS hm rfl rfl (t142) ?_
  refine x_iload_n hm rfl rfl ?_
  refine x_iast hm rfl (sI rfl (by omega) (by decide)) ?_
  refine x_aload_n hm rfl rfl ?_
  refine x_getf hm rfl (gR rfl rfl) ?_
  refine x_iload hm rfl rfl ?_
  refine x_iconst hm rfl (v := nI 1) (by decide) ?_
  refine x_callS hm rfl rfl (t142) ?_
  refine x_iload_n hm rfl rfl ?_
  refine x_iast hm rfl (sI rfl (by omega) (by decide)) ?_
  refine x_aload_n hm rfl rfl ?_
  refine x_getf hm rfl (gR rfl rfl) ?_
  refine x_iload hm rfl rfl ?_
  refine x_iconst hm rfl (v := nI 2) (by decide) ?_
  refine x_callS hm rfl rfl (t142) ?_
  refine x_iload_n hm rfl rfl ?_
  refine x_iast hm rfl (sI rfl (by omega) (by decide)) ?_
  refine x_iconst hm rfl (v := nI 0) (by decide) ?_
  refine x_istore hm rfl rfl ?_
  exact l158 h8 _ 0 _ (Nat.lt_succ_self _) (Nat.zero_le _) (by rw [mp1 (by omega), mp1 (by omega), mp1 (by omega)]; exact hn) (((Sf.person h8 (by decide)).trans (Sf.person h8 (by decide))).trans (Sf.person h8 (by decide)))
theorem joined {M1 : mM} {n : Nat} (hI : Inv M) (hS : Sf M M1) (h8 : n < 8) : Inv (mput M1 67 2 (nI (n + 1))) := by
  have h1 := hS.inv hI
  refine ⟨h1.1.put (okI1 (by omega)), h1.2.1.of (mp1 (by decide)) (fun t ht => mp1 (by omega)), by rw [mpo (by decide)]; exact h1.2.2⟩
theorem t156 {a1 a2 : Int32} (hI : Inv M) : ∃ v M', mT X 156 [.ref 66, .int a1, .int a2] (con M) (some (.int v)) (con M') ∧ Inv M' := by
  refine ti_of (row := _) rfl (Nat.le_of_ble_eq_true rfl) ?_
  have hm : mMet 156 = some _ := rfl
  obtain ⟨np, hp8, hnp⟩ := hI.1.np
  refine x_iload_n hm rfl rfl ?_
  refine x_callS hm rfl rfl (t157) ?_
  refine x_if_eq hm rfl (t := 14) rfl (fun h1 => ?_) (fun h1 => ?_)
  · refine x_aload_n hm rfl rfl ?_
    refine x_ldcI hm rfl (v := (-1000001 : Int32)) (by decide) ?_
    refine x_cVi hm rfl rfl (t135 (by decide)) (fun v2 M2 r2 => ?_)
    refine x_iret hm rfl rfl (by first | rfl | exact bI_nar | decide) ?_
    first
      | exact ⟨_, _, rfl, rfl, r1.2.inv hI⟩
      | exact ⟨_, _, rfl, rfl, r2.2.inv hI⟩
      | exact ⟨_, _, rfl, rfl, r3.2.inv hI⟩
      | exact ⟨_, _, rfl, rfl, r4.2.inv hI⟩
      | exact ⟨_, _, rfl, rfl, r5.2.inv hI⟩
      | exact ⟨_, _, rfl, rfl, r6.2.inv hI⟩
      | exact ⟨_, _, rfl, rfl, r7.2.inv hI⟩
      | exact ⟨_, _, rfl, rfl, r8.2.inv hI⟩
      | exact ⟨_, _, rfl, rfl, r9.2.inv hI⟩
      | (obtain ⟨-, M9, g1, rfl⟩ := r1; exact ⟨_, _, rfl, rfl, joined hI g1 hlt⟩)
      | (obtain ⟨-, M9, g1, rfl⟩ := r2; exact ⟨_, _, rfl, rfl, joined hI g1 hlt⟩)
      | (obtain ⟨-, M9, g1, rfl⟩ := r3; exact ⟨_, _, rfl, rfl, joined hI g1 hlt⟩)
      | (obtain ⟨-, M9, g1, rfl⟩ := r4; exact ⟨_, _, rfl, rfl, joined hI g1 hlt⟩)
      | (obtain ⟨-, M9, g1, rfl⟩ := r5; exact ⟨_, _, rfl, rfl, joined hI g1 hlt⟩)
      | (obtain ⟨-, M9, g1, rfl⟩ := r6; exact ⟨_, _, rfl, rfl, joined hI g1 hlt⟩)
      | (obtain ⟨-, M9, g1, rfl⟩ := r7; exact ⟨_, _, rfl, rfl, joined hI g1 hlt⟩)
      | (obtain ⟨-, M9, g1, rfl⟩ := r8; exact ⟨_, _, rfl, rfl, joined hI g1 hlt⟩)
      | (obtain ⟨-, M9, g1, rfl⟩ := r9; exact ⟨_, _, rfl, rfl, joined hI g1 hlt⟩)
  · refine x_iload_n hm rfl rfl ?_
    refine x_callS hm rfl rfl (t134) ?_
    refine x_if_ne hm rfl (t := 21) rfl (fun h3 => ?_) (fun h3 => ?_)
    · refine x_aload_n hm rfl rfl ?_
      refine x_getf hm rfl (gR rfl rfl) ?_
      refine x_iconst hm rfl (v := nI 2) (by decide) ?_
      refine x_iald hm rfl (lI rfl (by omega) (by decide)) ?_
      rw [hnp]
      refine x_bipush hm rfl (v := nI 8) (by decide) ?_
      refine x_icmp_ne hm rfl (t := 41) rfl (fun h4 => ?_) (fun h4 => ?_)
      · have hlt : np < 8 := Nat.lt_of_le_of_ne hp8 fun e => h4 (by rw [e])
        refine x_aload_n hm rfl rfl ?_
        refine x_iload_n hm rfl rfl ?_
        refine x_iload_n hm rfl rfl ?_
        refine x_iconst hm rfl (v := nI 1) (by decide) ?_
        refine x_cVi hm rfl rfl (t158 hnp hlt) (fun v5 M5 r5 => ?_)
        refine x_iret hm rfl rfl (by first | rfl | exact bI_nar | decide) ?_
        first
          | exact ⟨_, _, rfl, rfl, r1.2.inv hI⟩
          | exact ⟨_, _, rfl, rfl, r2.2.inv hI⟩
          | exact ⟨_, _, rfl, rfl, r3.2.inv hI⟩
          | exact ⟨_, _, rfl, rfl, r4.2.inv hI⟩
          | exact ⟨_, _, rfl, rfl, r5.2.inv hI⟩
          | exact ⟨_, _, rfl, rfl, r6.2.inv hI⟩
          | exact ⟨_, _, rfl, rfl, r7.2.inv hI⟩
          | exact ⟨_, _, rfl, rfl, r8.2.inv hI⟩
          | exact ⟨_, _, rfl, rfl, r9.2.inv hI⟩
          | (obtain ⟨-, M9, g1, rfl⟩ := r1; exact ⟨_, _, rfl, rfl, joined hI g1 hlt⟩)
          | (obtain ⟨-, M9, g1, rfl⟩ := r2; exact ⟨_, _, rfl, rfl, joined hI g1 hlt⟩)
          | (obtain ⟨-, M9, g1, rfl⟩ := r3; exact ⟨_, _, rfl, rfl, joined hI g1 hlt⟩)
          | (obtain ⟨-, M9, g1, rfl⟩ := r4; exact ⟨_, _, rfl, rfl, joined hI g1 hlt⟩)
          | (obtain ⟨-, M9, g1, rfl⟩ := r5; exact ⟨_, _, rfl, rfl, joined hI g1 hlt⟩)
          | (obtain ⟨-, M9, g1, rfl⟩ := r6; exact ⟨_, _, rfl, rfl, joined hI g1 hlt⟩)
          | (obtain ⟨-, M9, g1, rfl⟩ := r7; exact ⟨_, _, rfl, rfl, joined hI g1 hlt⟩)
          | (obtain ⟨-, M9, g1, rfl⟩ := r8; exact ⟨_, _, rfl, rfl, joined hI g1 hlt⟩)
          | (obtain ⟨-, M9, g1, rfl⟩ := r9; exact ⟨_, _, rfl, rfl, joined hI g1 hlt⟩)
      · refine x_aload_n hm rfl rfl ?_
        refine x_ldcI hm rfl (v := (-1000002 : Int32)) (by decide) ?_
        refine x_cVi hm rfl rfl (t135 (by decide)) (fun v6 M6 r6 => ?_)
        refine x_goto hm rfl (t := 48) rfl ?_
        refine x_iret hm rfl rfl (by first | rfl | exact bI_nar | decide) ?_
        first
          | exact ⟨_, _, rfl, rfl, r1.2.inv hI⟩
          | exact ⟨_, _, rfl, rfl, r2.2.inv hI⟩
          | exact ⟨_, _, rfl, rfl, r3.2.inv hI⟩
          | exact ⟨_, _, rfl, rfl, r4.2.inv hI⟩
          | exact ⟨_, _, rfl, rfl, r5.2.inv hI⟩
          | exact ⟨_, _, rfl, rfl, r6.2.inv hI⟩
          | exact ⟨_, _, rfl, rfl, r7.2.inv hI⟩
          | exact ⟨_, _, rfl, rfl, r8.2.inv hI⟩
          | exact ⟨_, _, rfl, rfl, r9.2.inv hI⟩
          | (obtain ⟨-, M9, g1, rfl⟩ := r1; exact ⟨_, _, rfl, rfl, joined hI g1 hlt⟩)
          | (obtain ⟨-, M9, g1, rfl⟩ := r2; exact ⟨_, _, rfl, rfl, joined hI g1 hlt⟩)
          | (obtain ⟨-, M9, g1, rfl⟩ := r3; exact ⟨_, _, rfl, rfl, joined hI g1 hlt⟩)
          | (obtain ⟨-, M9, g1, rfl⟩ := r4; exact ⟨_, _, rfl, rfl, joined hI g1 hlt⟩)
          | (obtain ⟨-, M9, g1, rfl⟩ := r5; exact ⟨_, _, rfl, rfl, joined hI g1 hlt⟩)
          | (obtain ⟨-, M9, g1, rfl⟩ := r6; exact ⟨_, _, rfl, rfl, joined hI g1 hlt⟩)
          | (obtain ⟨-, M9, g1, rfl⟩ := r7; exact ⟨_, _, rfl, rfl, joined hI g1 hlt⟩)
          | (obtain ⟨-, M9, g1, rfl⟩ := r8; exact ⟨_, _, rfl, rfl, joined hI g1 hlt⟩)
          | (obtain ⟨-, M9, g1, rfl⟩ := r9; exact ⟨_, _, rfl, rfl, joined hI g1 hlt⟩)
    · refine x_aload_n hm rfl rfl ?_
      refine x_ldcI hm rfl (v := (-1000001 : Int32)) (by decide) ?_
      refine x_cVi hm rfl rfl (t135 (by decide)) (fun v7 M7 r7 => ?_)
      refine x_iret hm rfl rfl (by first | rfl | exact bI_nar | decide) ?_
      first
        | exact ⟨_, _, rfl, rfl, r1.2.inv hI⟩
        | exact ⟨_, _, rfl, rfl, r2.2.inv hI⟩
        | exact ⟨_, _, rfl, rfl, r3.2.inv hI⟩
        | exact ⟨_, _, rfl, rfl, r4.2.inv hI⟩
        | exact ⟨_, _, rfl, rfl, r5.2.inv hI⟩
        | exact ⟨_, _, rfl, rfl, r6.2.inv hI⟩
        | exact ⟨_, _, rfl, rfl, r7.2.inv hI⟩
        | exact ⟨_, _, rfl, rfl, r8.2.inv hI⟩
        | exact ⟨_, _, rfl, rfl, r9.2.inv hI⟩
        | (obtain ⟨-, M9, g1, rfl⟩ := r1; exact ⟨_, _, rfl, rfl, joined hI g1 hlt⟩)
        | (obtain ⟨-, M9, g1, rfl⟩ := r2; exact ⟨_, _, rfl, rfl, joined hI g1 hlt⟩)
        | (obtain ⟨-, M9, g1, rfl⟩ := r3; exact ⟨_, _, rfl, rfl, joined hI g1 hlt⟩)
        | (obtain ⟨-, M9, g1, rfl⟩ := r4; exact ⟨_, _, rfl, rfl, joined hI g1 hlt⟩)
        | (obtain ⟨-, M9, g1, rfl⟩ := r5; exact ⟨_, _, rfl, rfl, joined hI g1 hlt⟩)
        | (obtain ⟨-, M9, g1, rfl⟩ := r6; exact ⟨_, _, rfl, rfl, joined hI g1 hlt⟩)
        | (obtain ⟨-, M9, g1, rfl⟩ := r7; exact ⟨_, _, rfl, rfl, joined hI g1 hlt⟩)
        | (obtain ⟨-, M9, g1, rfl⟩ := r8; exact ⟨_, _, rfl, rfl, joined hI g1 hlt⟩)
        | (obtain ⟨-, M9, g1, rfl⟩ := r9; exact ⟨_, _, rfl, rfl, joined hI g1 hlt⟩)
theorem t150 {a1 a2 a3 : Int32} {nt np : Nat} (hnt : M 67 1 = nI nt) (hn8 : nt ≤ 8) (hnp : M 67 2 = nI np) (hp8 : np ≤ 8) : ∃ v, mT X 150 [.ref 66, .int a1, .int a2, .int a3] (con M) (some (.int v)) (con M) ∧ (v = nI 0 ∨ (v = nI 1 ∧ ∃ f, f < 6 ∧ a2 = nI f ∧ (f = 0 → okx 3 a3) ∧ (f = 4 → okx 2 a3) ∧ (f = 5 → a3 = -1 ∨ ∃ u, u < nt ∧ a3 = nI u))) := by
  refine te_of (row := _) rfl (Nat.le_of_ble_eq_true rfl) ?_
  have hm : mMet 150 = some _ := rfl
  refine x_iload_n hm rfl rfl ?_
  refine x_ts hm rfl (fun h1 => ⟨105, rfl, ?_⟩) (fun i1 h1 g1 => ?_)
  · refine x_iconst hm rfl (v := nI 0) (by decide) ?_
    refine x_iret hm rfl rfl (by first | rfl | exact bI_nar | decide) ?_
    exact ⟨_, rfl, rfl, Or.inl rfl⟩
  · have k1 : i1 = 0 ∨ i1 = 1 ∨ i1 = 2 ∨ i1 = 3 ∨ i1 = 4 ∨ i1 = 5 := by omega
    rcases k1 with rfl | rfl | rfl | rfl | rfl | rfl
    · refine ⟨_, 40, rfl, rfl, ?_⟩
      refine x_iload_n hm rfl rfl ?_
      refine x_iconst hm rfl (v := nI 0) (by decide) ?_
      refine x_iconst hm rfl (v := nI 3) (by decide) ?_
      refine x_callS hm rfl rfl (t133) ?_
      refine x_iret hm rfl rfl (by first | rfl | exact bI_nar | decide) ?_
      exact ⟨_, rfl, rfl, bI_cs.imp id (fun e => ⟨e.1, 0, by decide, tn h1 (by decide), by first | exact fun _ => okx_le3 e.2 | exact fun q => absurd q (by decide), fun q => absurd q (by decide), fun q => absurd q (by decide)⟩)⟩
    · refine ⟨_, 47, rfl, rfl, ?_⟩
      refine x_iload_n hm rfl rfl ?_
      refine x_callS hm rfl rfl (t134) ?_
      refine x_iret hm rfl rfl (by first | rfl | exact bI_nar | decide) ?_
      exact ⟨_, rfl, rfl, bI_cs.imp id (fun e => ⟨e.1, 1, by decide, tn h1 (by decide), by first | exact fun _ => okx_le3 e.2 | exact fun q => absurd q (by decide), fun q => absurd q (by decide), fun q => absurd q (by decide)⟩)⟩
    · refine ⟨_, 52, rfl, rfl, ?_⟩
      refine x_iload_n hm rfl rfl ?_
      refine x_callS hm rfl rfl (t151) ?_
      refine x_iret hm rfl rfl (by first | rfl | exact bI_nar | decide) ?_
      exact ⟨_, rfl, rfl, bI_cs.imp id (fun e => ⟨e.1, 2, by decide, tn h1 (by decide), by first | exact fun _ => okx_le3 e.2 | exact fun q => absurd q (by decide), fun q => absurd q (by decide), fun q => absurd q (by decide)⟩)⟩
    · refine ⟨_, 57, rfl, rfl, ?_⟩
      refine x_iload_n hm rfl rfl ?_
      refine x_callS hm rfl rfl (t152) ?_
      refine x_iret hm rfl rfl (by first | rfl | exact bI_nar | decide) ?_
      exact ⟨_, rfl, rfl, bI_cs.imp id (fun e => ⟨e.1, 3, by decide, tn h1 (by decide), by first | exact fun _ => okx_le3 e.2 | exact fun q => absurd q (by decide), fun q => absurd q (by decide), fun q => absurd q (by decide)⟩)⟩
    · refine ⟨_, 62, rfl, rfl, ?_⟩
      refine x_iload_n hm rfl rfl ?_
      refine x_iconst hm rfl (v := (-1 : Int32)) (by decide) ?_
      refine x_icmp_eq hm rfl (t := 75) rfl (fun h2 => ?_) (fun h2 => ?_)
      · have hq : okx 2 a3 := by rw [h2]; exact okM1
        refine x_iconst hm rfl (v := nI 1) (by decide) ?_
        refine x_goto hm rfl (t := 80) rfl ?_
        refine x_iret hm rfl rfl (by first | rfl | exact bI_nar | decide) ?_
        exact ⟨_, rfl, rfl, by first | exact Or.inl rfl | exact Or.inr ⟨rfl, 4, by decide, tn h1 (by decide), fun q => absurd q (by decide), fun _ => hq, fun q => absurd q (by decide)⟩⟩
      · refine x_aload_n hm rfl rfl ?_
        refine x_iload_n hm rfl rfl ?_
        refine x_callV hm rfl rfl (t153) ?_
        refine x_if_eq hm rfl (t := 79) rfl (fun h3 => ?_) (fun h3 => ?_)
        · refine x_iconst hm rfl (v := nI 0) (by decide) ?_
          refine x_iret hm rfl rfl (by first | rfl | exact bI_nar | decide) ?_
          exact ⟨_, rfl, rfl, by first | exact Or.inl rfl | exact Or.inr ⟨rfl, 4, by decide, tn h1 (by decide), fun q => absurd q (by decide), fun _ => hq, fun q => absurd q (by decide)⟩⟩
        · have hq : okx 2 a3 := by
            obtain ⟨k, hk, e⟩ := in_k hnp (by omega) (bI_ne0 h3)
            rw [e]; exact okI2 (by omega)
          refine x_iconst hm rfl (v := nI 1) (by decide) ?_
          refine x_goto hm rfl (t := 80) rfl ?_
          refine x_iret hm rfl rfl (by first | rfl | exact bI_nar | decide) ?_
          exact ⟨_, rfl, rfl, by first | exact Or.inl rfl | exact Or.inr ⟨rfl, 4, by decide, tn h1 (by decide), fun q => absurd q (by decide), fun _ => hq, fun q => absurd q (by decide)⟩⟩
    · refine ⟨_, 81, rfl, rfl, ?_⟩
      refine x_iload_n hm rfl rfl ?_
      refine x_iconst hm rfl (v := (-1 : Int32)) (by decide) ?_
      refine x_icmp_eq hm rfl (t := 99) rfl (fun h4 => ?_) (fun h4 => ?_)
      · have hq : a3 = -1 ∨ ∃ u, u < nt ∧ a3 = nI u := Or.inl h4
        refine x_iconst hm rfl (v := nI 1) (by decide) ?_
        refine x_goto hm rfl (t := 104) rfl ?_
        refine x_iret hm rfl rfl (by first | rfl | exact bI_nar | decide) ?_
        exact ⟨_, rfl, rfl, by first | exact Or.inl rfl | exact Or.inr ⟨rfl, 5, by decide, tn h1 (by decide), fun q => absurd q (by decide), fun q => absurd q (by decide), fun _ => hq⟩⟩
      · refine x_aload_n hm rfl rfl ?_
        refine x_iload_n hm rfl rfl ?_
        refine x_callV hm rfl rfl (t139) ?_
        refine x_if_eq hm rfl (t := 103) rfl (fun h5 => ?_) (fun h5 => ?_)
        · refine x_iconst hm rfl (v := nI 0) (by decide) ?_
          refine x_iret hm rfl rfl (by first | rfl | exact bI_nar | decide) ?_
          exact ⟨_, rfl, rfl, by first | exact Or.inl rfl | exact Or.inr ⟨rfl, 5, by decide, tn h1 (by decide), fun q => absurd q (by decide), fun q => absurd q (by decide), fun _ => hq⟩⟩
        · have hq : a3 = -1 ∨ ∃ u, u < nt ∧ a3 = nI u := Or.inr (in_k hnt (by omega) (bI_ne0 h5))
          refine x_iload_n hm rfl rfl ?_
          refine x_iload_n hm rfl rfl ?_
          refine x_icmp_eq hm rfl (t := 103) rfl (fun h6 => ?_) (fun h6 => ?_)
          · refine x_iconst hm rfl (v := nI 0) (by decide) ?_
            refine x_iret hm rfl rfl (by first | rfl | exact bI_nar | decide) ?_
            exact ⟨_, rfl, rfl, by first | exact Or.inl rfl | exact Or.inr ⟨rfl, 5, by decide, tn h1 (by decide), fun q => absurd q (by decide), fun q => absurd q (by decide), fun _ => hq⟩⟩
          · refine x_iconst hm rfl (v := nI 1) (by decide) ?_
            refine x_goto hm rfl (t := 104) rfl ?_
            refine x_iret hm rfl rfl (by first | rfl | exact bI_nar | decide) ?_
            exact ⟨_, rfl, rfl, by first | exact Or.inl rfl | exact Or.inr ⟨rfl, 5, by decide, tn h1 (by decide), fun q => absurd q (by decide), fun q => absurd q (by decide), fun _ => hq⟩⟩
theorem forge_inv {t f nt : Nat} {v : Int32} (hI : Inv M) (hnt : M 67 1 = nI nt) (hn8 : nt ≤ 8) (ht : t < nt) (hf : f < 6) (g0 : f = 0 → okx 3 v) (g4 : f = 4 → okx 2 v) (g5 : f = 5 → v = -1 ∨ ∃ u, u < nt ∧ v = nI u ∧ ¬ Rch (M 67) t u) : Inv (mput M 67 (14 + 6 * t + f) v) := by
  rcases (by omega : f = 0 ∨ f = 4 ∨ f = 5 ∨ (f < 5 ∧ f ≠ 0 ∧ f ≠ 4)) with rfl | rfl | rfl | ⟨h1, h2, h3⟩
  · exact (Sf.sort (by omega) (g0 rfl)).inv hI
  · exact (Sf.owner (by omega) (g4 rfl)).inv hI
  · have hs : ∀ u, u < 8 → u ≠ t → mput M 67 (14 + 6 * t + 5) v 67 (14 + 6 * u + 5) = M 67 (14 + 6 * u + 5) := fun u _ hu => mp1 (by omega)
    rcases g5 rfl with rfl | ⟨u, hu, rfl, hR⟩
    · exact Inv.on hI (by omega) okM1 (hI.2.1.off (mp1 (by omega)) hs mp0)
    · exact Inv.on hI (by omega) (okI2 (by omega)) (hI.2.1.re hnt hn8 ht hu hR (mp1 (by omega)) hs mp0)
  · exact (Sf.thing (by omega) h1 h2 h3).inv hI
theorem t149 {a1 a2 a3 : Int32} (hI : Inv M) : ∃ v M', mT X 149 [.ref 66, .int a1, .int a2, .int a3] (con M) (some (.int v)) (con M') ∧ Inv M' := by
  refine ti_of (row := _) rfl (Nat.le_of_ble_eq_true rfl) ?_
  have hm : mMet 149 = some _ := rfl
  obtain ⟨nt, hn8, hnt⟩ := hI.1.nt
  obtain ⟨np, hp8, hnp⟩ := hI.1.np
  refine x_aload_n hm rfl rfl ?_
  refine x_iload_n hm rfl rfl ?_
  refine x_callV hm rfl rfl (t139) ?_
  refine x_if_eq hm rfl (t := 18) rfl (fun h1 => ?_) (fun h1 => ?_)
  · refine x_aload_n hm rfl rfl ?_
    refine x_ldcI hm rfl (v := (-1000001 : Int32)) (by decide) ?_
    refine x_cVi hm rfl rfl (t135 (by decide)) (fun v2 M2 r2 => ?_)
    refine x_iret hm rfl rfl (by first | rfl | exact bI_nar | decide) ?_
    first
      | exact ⟨_, _, rfl, rfl, r1.2.inv hI⟩
      | exact ⟨_, _, rfl, rfl, r2.2.inv hI⟩
      | exact ⟨_, _, rfl, rfl, r3.2.inv hI⟩
      | exact ⟨_, _, rfl, rfl, r4.2.inv hI⟩
      | exact ⟨_, _, rfl, rfl, r5.2.inv hI⟩
      | exact ⟨_, _, rfl, rfl, r6.2.inv hI⟩
      | exact ⟨_, _, rfl, rfl, r7.2.inv hI⟩
      | exact ⟨_, _, rfl, rfl, r8.2.inv hI⟩
      | exact ⟨_, _, rfl, rfl, r9.2.inv hI⟩
      | exact ⟨_, _, rfl, rfl, r10.2.inv hI⟩
      | exact ⟨_, _, rfl, rfl, r11.2.inv hI⟩
      | exact ⟨_, _, rfl, rfl, forge_inv hI hnt hn8 ht hf g0 g4 hg⟩
      | exact ⟨_, _, rfl, rfl, forge_inv hI hnt hn8 ht (by decide) (fun q => absurd q (by decide)) (fun q => absurd q (by decide)) hg⟩
  · obtain ⟨t, ht, rfl⟩ := in_k hnt (by omega) (bI_ne0 h1)
    refine x_aload_n hm rfl rfl ?_
    refine x_iload_n hm rfl rfl ?_
    refine x_iload_n hm rfl rfl ?_
    refine x_iload_n hm rfl rfl ?_
    refine x_cVe hm rfl rfl (t150 hnt hn8 hnp hp8) (fun v3 r3 => ?_)
    refine x_if_ne hm rfl (t := 25) rfl (fun h4 => ?_) (fun h4 => ?_)
    · first
        | obtain ⟨-, f, hf, rfl, g0, g4, g5⟩ := r1.resolve_left (fun e => by subst e; exact h4 rfl)
        | obtain ⟨-, f, hf, rfl, g0, g4, g5⟩ := r2.resolve_left (fun e => by subst e; exact h4 rfl)
        | obtain ⟨-, f, hf, rfl, g0, g4, g5⟩ := r3.resolve_left (fun e => by subst e; exact h4 rfl)
        | obtain ⟨-, f, hf, rfl, g0, g4, g5⟩ := r4.resolve_left (fun e => by subst e; exact h4 rfl)
        | obtain ⟨-, f, hf, rfl, g0, g4, g5⟩ := r5.resolve_left (fun e => by subst e; exact h4 rfl)
        | obtain ⟨-, f, hf, rfl, g0, g4, g5⟩ := r6.resolve_left (fun e => by subst e; exact h4 rfl)
      refine x_iload_n hm rfl rfl ?_
      refine x_iconst hm rfl (v := nI 5) (by decide) ?_
      refine x_icmp_ne hm rfl (t := 50) rfl (fun h5 => ?_) (fun h5 => ?_)
      · have hg : f = 5 → a3 = -1 ∨ ∃ u, u < nt ∧ a3 = nI u ∧ ¬ Rch (M 67) t u := fun q => absurd (by rw [q]) h5
        refine x_aload_n hm rfl rfl ?_
        refine x_iload_n hm rfl rfl ?_
        refine x_iload_n hm rfl rfl ?_
        refine x_callS hm rfl rfl (t137) ?_
        refine x_iload_n hm rfl rfl ?_
        refine x_callV hm rfl rfl (t155 (by omega)) ?_
        refine x_iret hm rfl rfl (by first | rfl | exact bI_nar | decide) ?_
        first
          | exact ⟨_, _, rfl, rfl, r1.2.inv hI⟩
          | exact ⟨_, _, rfl, rfl, r2.2.inv hI⟩
          | exact ⟨_, _, rfl, rfl, r3.2.inv hI⟩
          | exact ⟨_, _, rfl, rfl, r4.2.inv hI⟩
          | exact ⟨_, _, rfl, rfl, r5.2.inv hI⟩
          | exact ⟨_, _, rfl, rfl, r6.2.inv hI⟩
          | exact ⟨_, _, rfl, rfl, r7.2.inv hI⟩
          | exact ⟨_, _, rfl, rfl, r8.2.inv hI⟩
          | exact ⟨_, _, rfl, rfl, r9.2.inv hI⟩
          | exact ⟨_, _, rfl, rfl, r10.2.inv hI⟩
          | exact ⟨_, _, rfl, rfl, r11.2.inv hI⟩
          | exact ⟨_, _, rfl, rfl, forge_inv hI hnt hn8 ht hf g0 g4 hg⟩
          | exact ⟨_, _, rfl, rfl, forge_inv hI hnt hn8 ht (by decide) (fun q => absurd q (by decide)) (fun q => absurd q (by decide)) hg⟩
      · refine x_iload_n hm rfl rfl ?_
        refine x_if_lt hm rfl (t := 50) rfl (fun h6 => ?_) (fun h6 => ?_)
        · have hg : f = 5 → a3 = -1 ∨ ∃ u, u < nt ∧ a3 = nI u ∧ ¬ Rch (M 67) t u := fun q => Or.inl ((g5 q).resolve_right fun ⟨u, hu, e⟩ => by subst e; exact jI_nn (by omega) h6)
          refine x_aload_n hm rfl rfl ?_
          refine x_iload_n hm rfl rfl ?_
          refine x_iload_n hm rfl rfl ?_
          refine x_callS hm rfl rfl (t137) ?_
          refine x_iload_n hm rfl rfl ?_
          refine x_callV hm rfl rfl (t155 (by omega)) ?_
          refine x_iret hm rfl rfl (by first | rfl | exact bI_nar | decide) ?_
          first
            | exact ⟨_, _, rfl, rfl, r1.2.inv hI⟩
            | exact ⟨_, _, rfl, rfl, r2.2.inv hI⟩
            | exact ⟨_, _, rfl, rfl, r3.2.inv hI⟩
            | exact ⟨_, _, rfl, rfl, r4.2.inv hI⟩
            | exact ⟨_, _, rfl, rfl, r5.2.inv hI⟩
            | exact ⟨_, _, rfl, rfl, r6.2.inv hI⟩
            | exact ⟨_, _, rfl, rfl, r7.2.inv hI⟩
            | exact ⟨_, _, rfl, rfl, r8.2.inv hI⟩
            | exact ⟨_, _, rfl, rfl, r9.2.inv hI⟩
            | exact ⟨_, _, rfl, rfl, r10.2.inv hI⟩
            | exact ⟨_, _, rfl, rfl, r11.2.inv hI⟩
            | exact ⟨_, _, rfl, rfl, forge_inv hI hnt hn8 ht hf g0 g4 hg⟩
            | exact ⟨_, _, rfl, rfl, forge_inv hI hnt hn8 ht (by decide) (fun q => absurd q (by decide)) (fun q => absurd q (by decide)) hg⟩
        · obtain rfl : f = 5 := jI_inj (by omega) (by decide) (by assumption)
          obtain ⟨u, hu, rfl⟩ := (g5 rfl).resolve_left (fun e => by subst e; exact h6 (by decide))
          refine x_aload_n hm rfl rfl ?_
          refine x_iload_n hm rfl rfl ?_
          refine x_iload_n hm rfl rfl ?_
          refine x_cVe hm rfl rfl (t154 hI hnt hn8 hu (by omega)) (fun v7 r7 => ?_)
          refine x_if_eq hm rfl (t := 50) rfl (fun h8 => ?_) (fun h8 => ?_)
          · have hR : ¬ Rch (M 67) t u := by
              first
              | exact r1.2 (r1.1.resolve_right (fun e => by rw [e] at h8; exact absurd h8 (by decide)))
              | exact r2.2 (r2.1.resolve_right (fun e => by rw [e] at h8; exact absurd h8 (by decide)))
              | exact r3.2 (r3.1.resolve_right (fun e => by rw [e] at h8; exact absurd h8 (by decide)))
              | exact r4.2 (r4.1.resolve_right (fun e => by rw [e] at h8; exact absurd h8 (by decide)))
              | exact r5.2 (r5.1.resolve_right (fun e => by rw [e] at h8; exact absurd h8 (by decide)))
              | exact r6.2 (r6.1.resolve_right (fun e => by rw [e] at h8; exact absurd h8 (by decide)))
              | exact r7.2 (r7.1.resolve_right (fun e => by rw [e] at h8; exact absurd h8 (by decide)))
              | exact r8.2 (r8.1.resolve_right (fun e => by rw [e] at h8; exact absurd h8 (by decide)))
              | exact r9.2 (r9.1.resolve_right (fun e => by rw [e] at h8; exact absurd h8 (by decide)))
              | exact r10.2 (r10.1.resolve_right (fun e => by rw [e] at h8; exact absurd h8 (by decide)))
              | exact r11.2 (r11.1.resolve_right (fun e => by rw [e] at h8; exact absurd h8 (by decide)))
            have hg : (5 : Nat) = 5 → nI u = -1 ∨ ∃ w, w < nt ∧ nI u = nI w ∧ ¬ Rch (M 67) t w := fun _ => Or.inr ⟨u, hu, rfl, hR⟩
            refine x_aload_n hm rfl rfl ?_
            refine x_iload_n hm rfl rfl ?_
            refine x_iload_n hm rfl rfl ?_
            refine x_callS hm rfl rfl (t137) ?_
            refine x_iload_n hm rfl rfl ?_
            refine x_callV hm rfl rfl (t155 (by omega)) ?_
            refine x_iret hm rfl rfl (by first | rfl | exact bI_nar | decide) ?_
            first
              | exact ⟨_, _, rfl, rfl, r1.2.inv hI⟩
              | exact ⟨_, _, rfl, rfl, r2.2.inv hI⟩
              | exact ⟨_, _, rfl, rfl, r3.2.inv hI⟩
              | exact ⟨_, _, rfl, rfl, r4.2.inv hI⟩
              | exact ⟨_, _, rfl, rfl, r5.2.inv hI⟩
              | exact ⟨_, _, rfl, rfl, r6.2.inv hI⟩
              | exact ⟨_, _, rfl, rfl, r7.2.inv hI⟩
              | exact ⟨_, _, rfl, rfl, r8.2.inv hI⟩
              | exact ⟨_, _, rfl, rfl, r9.2.inv hI⟩
              | exact ⟨_, _, rfl, rfl, r10.2.inv hI⟩
              | exact ⟨_, _, rfl, rfl, r11.2.inv hI⟩
              | exact ⟨_, _, rfl, rfl, forge_inv hI hnt hn8 ht hf g0 g4 hg⟩
              | exact ⟨_, _, rfl, rfl, forge_inv hI hnt hn8 ht (by decide) (fun q => absurd q (by decide)) (fun q => absurd q (by decide)) hg⟩
          · refine x_aload_n hm rfl rfl ?_
            refine x_ldcI hm rfl (v := (-1000005 : Int32)) (by decide) ?_
            refine x_cVi hm rfl rfl (t135 (by decide)) (fun v9 M9 r9 => ?_)
            refine x_iret hm rfl rfl (by first | rfl | exact bI_nar | decide) ?_
            first
              | exact ⟨_, _, rfl, rfl, r1.2.inv hI⟩
              | exact ⟨_, _, rfl, rfl, r2.2.inv hI⟩
              | exact ⟨_, _, rfl, rfl, r3.2.inv hI⟩
              | exact ⟨_, _, rfl, rfl, r4.2.inv hI⟩
              | exact ⟨_, _, rfl, rfl, r5.2.inv hI⟩
              | exact ⟨_, _, rfl, rfl, r6.2.inv hI⟩
              | exact ⟨_, _, rfl, rfl, r7.2.inv hI⟩
              | exact ⟨_, _, rfl, rfl, r8.2.inv hI⟩
              | exact ⟨_, _, rfl, rfl, r9.2.inv hI⟩
              | exact ⟨_, _, rfl, rfl, r10.2.inv hI⟩
              | exact ⟨_, _, rfl, rfl, r11.2.inv hI⟩
              | exact ⟨_, _, rfl, rfl, forge_inv hI hnt hn8 ht hf g0 g4 hg⟩
              | exact ⟨_, _, rfl, rfl, forge_inv hI hnt hn8 ht (by decide) (fun q => absurd q (by decide)) (fun q => absurd q (by decide)) hg⟩
    · refine x_aload_n hm rfl rfl ?_
      refine x_ldcI hm rfl (v := (-1000001 : Int32)) (by decide) ?_
      refine x_cVi hm rfl rfl (t135 (by decide)) (fun v10 M10 r10 => ?_)
      refine x_iret hm rfl rfl (by first | rfl | exact bI_nar | decide) ?_
      first
        | exact ⟨_, _, rfl, rfl, r1.2.inv hI⟩
        | exact ⟨_, _, rfl, rfl, r2.2.inv hI⟩
        | exact ⟨_, _, rfl, rfl, r3.2.inv hI⟩
        | exact ⟨_, _, rfl, rfl, r4.2.inv hI⟩
        | exact ⟨_, _, rfl, rfl, r5.2.inv hI⟩
        | exact ⟨_, _, rfl, rfl, r6.2.inv hI⟩
        | exact ⟨_, _, rfl, rfl, r7.2.inv hI⟩
        | exact ⟨_, _, rfl, rfl, r8.2.inv hI⟩
        | exact ⟨_, _, rfl, rfl, r9.2.inv hI⟩
        | exact ⟨_, _, rfl, rfl, r10.2.inv hI⟩
        | exact ⟨_, _, rfl, rfl, r11.2.inv hI⟩
        | exact ⟨_, _, rfl, rfl, forge_inv hI hnt hn8 ht hf g0 g4 hg⟩
        | exact ⟨_, _, rfl, rfl, forge_inv hI hnt hn8 ht (by decide) (fun q => absurd q (by decide)) (fun q => absurd q (by decide)) hg⟩
end RJ
end
