section
-- ===== PART A: goes FIRST, ahead of the names: the tables' words, and 'selects' of the private methods out of them =====
/-- a private method of a class that the tables say can be made, by its rows of tables_1 -/
def lw_okq (q : MethodName × Nat) : Prop := (q.1.cls ≠ "java/lang/invoke/MethodHandle" ∧ q.1.cls ≠ "java/lang/invoke/VarHandle") ∧ Cond.instantiable q.1.cls q.2 ∈ tables_1 ∧ Cond.privateMethod q.1 ∈ tables_1 ∧ Cond.instanceMethod q.1 ∈ tables_1
theorem lw_p0 : lw_okq (⟨"EnvyRust", "told", "(I)I"⟩, 9) := ⟨⟨by decide +kernel, by decide +kernel⟩, List.mem_of_getElem? (i := 14) (by decide +kernel), List.mem_of_getElem? (i := 155) (by decide +kernel), List.mem_of_getElem? (i := 156) (by decide +kernel)⟩
theorem lw_p1 : lw_okq (⟨"EnvyRust$Town", "addThing", "(II)I"⟩, 8) := ⟨⟨by decide +kernel, by decide +kernel⟩, List.mem_of_getElem? (i := 22) (by decide +kernel), List.mem_of_getElem? (i := 160) (by decide +kernel), List.mem_of_getElem? (i := 161) (by decide +kernel)⟩
theorem lw_p2 : lw_okq (⟨"EnvyRust$Town", "isThing", "(I)Z"⟩, 8) := ⟨⟨by decide +kernel, by decide +kernel⟩, List.mem_of_getElem? (i := 22) (by decide +kernel), List.mem_of_getElem? (i := 168) (by decide +kernel), List.mem_of_getElem? (i := 169) (by decide +kernel)⟩
theorem lw_p3 : lw_okq (⟨"EnvyRust$Town", "wearOf", "(I)I"⟩, 8) := ⟨⟨by decide +kernel, by decide +kernel⟩, List.mem_of_getElem? (i := 22) (by decide +kernel), List.mem_of_getElem? (i := 173) (by decide +kernel), List.mem_of_getElem? (i := 174) (by decide +kernel)⟩
theorem lw_p4 : lw_okq (⟨"EnvyRust$Town", "envyOf", "(II)I"⟩, 8) := ⟨⟨by decide +kernel, by decide +kernel⟩, List.mem_of_getElem? (i := 22) (by decide +kernel), List.mem_of_getElem? (i := 177) (by decide +kernel), List.mem_of_getElem? (i := 178) (by decide +kernel)⟩
theorem lw_p5 : lw_okq (⟨"EnvyRust$Town", "envyIfOwnedBy", "(III)I"⟩, 8) := ⟨⟨by decide +kernel, by decide +kernel⟩, List.mem_of_getElem? (i := 22) (by decide +kernel), List.mem_of_getElem? (i := 181) (by decide +kernel), List.mem_of_getElem? (i := 182) (by decide +kernel)⟩
theorem lw_p6 : lw_okq (⟨"EnvyRust", "forgeable", "(III)Z"⟩, 9) := ⟨⟨by decide +kernel, by decide +kernel⟩, List.mem_of_getElem? (i := 14) (by decide +kernel), List.mem_of_getElem? (i := 200) (by decide +kernel), List.mem_of_getElem? (i := 201) (by decide +kernel)⟩
theorem lw_p7 : lw_okq (⟨"EnvyRust$Town", "isPerson", "(I)Z"⟩, 8) := ⟨⟨by decide +kernel, by decide +kernel⟩, List.mem_of_getElem? (i := 22) (by decide +kernel), List.mem_of_getElem? (i := 204) (by decide +kernel), List.mem_of_getElem? (i := 205) (by decide +kernel)⟩
theorem lw_p8 : lw_okq (⟨"EnvyRust$Town", "falling", "(I)I"⟩, 8) := ⟨⟨by decide +kernel, by decide +kernel⟩, List.mem_of_getElem? (i := 22) (by decide +kernel), List.mem_of_getElem? (i := 208) (by decide +kernel), List.mem_of_getElem? (i := 209) (by decide +kernel)⟩
theorem lw_p9 : lw_okq (⟨"EnvyRust$Town", "addPerson", "(II)I"⟩, 8) := ⟨⟨by decide +kernel, by decide +kernel⟩, List.mem_of_getElem? (i := 22) (by decide +kernel), List.mem_of_getElem? (i := 221) (by decide +kernel), List.mem_of_getElem? (i := 222) (by decide +kernel)⟩
theorem lw_p10 : lw_okq (⟨"EnvyRust$Town", "ownedBy", "(I)I"⟩, 8) := ⟨⟨by decide +kernel, by decide +kernel⟩, List.mem_of_getElem? (i := 22) (by decide +kernel), List.mem_of_getElem? (i := 229) (by decide +kernel), List.mem_of_getElem? (i := 230) (by decide +kernel)⟩
theorem lw_p11 : lw_okq (⟨"EnvyRust$Town", "passDays", "(I)V"⟩, 8) := ⟨⟨by decide +kernel, by decide +kernel⟩, List.mem_of_getElem? (i := 22) (by decide +kernel), List.mem_of_getElem? (i := 250) (by decide +kernel), List.mem_of_getElem? (i := 251) (by decide +kernel)⟩
theorem lw_p12 : lw_okq (⟨"EnvyRust$Town", "fallAll", "()V"⟩, 8) := ⟨⟨by decide +kernel, by decide +kernel⟩, List.mem_of_getElem? (i := 22) (by decide +kernel), List.mem_of_getElem? (i := 255) (by decide +kernel), List.mem_of_getElem? (i := 256) (by decide +kernel)⟩
theorem lw_p13 : lw_okq (⟨"EnvyRust$Town", "isGone", "(I)Z"⟩, 8) := ⟨⟨by decide +kernel, by decide +kernel⟩, List.mem_of_getElem? (i := 22) (by decide +kernel), List.mem_of_getElem? (i := 259) (by decide +kernel), List.mem_of_getElem? (i := 260) (by decide +kernel)⟩
theorem lw_p14 : lw_okq (⟨"EnvyRust$Town", "walkAll", "()V"⟩, 8) := ⟨⟨by decide +kernel, by decide +kernel⟩, List.mem_of_getElem? (i := 22) (by decide +kernel), List.mem_of_getElem? (i := 263) (by decide +kernel), List.mem_of_getElem? (i := 264) (by decide +kernel)⟩
theorem lw_p15 : lw_okq (⟨"EnvyRust$Town", "goneSet", "()I"⟩, 8) := ⟨⟨by decide +kernel, by decide +kernel⟩, List.mem_of_getElem? (i := 22) (by decide +kernel), List.mem_of_getElem? (i := 270) (by decide +kernel), List.mem_of_getElem? (i := 271) (by decide +kernel)⟩
def lw_privs_1 : List (MethodName × Nat) := [(⟨"EnvyRust", "told", "(I)I"⟩, 9), (⟨"EnvyRust$Town", "addThing", "(II)I"⟩, 8), (⟨"EnvyRust$Town", "isThing", "(I)Z"⟩, 8), (⟨"EnvyRust$Town", "wearOf", "(I)I"⟩, 8), (⟨"EnvyRust$Town", "envyOf", "(II)I"⟩, 8), (⟨"EnvyRust$Town", "envyIfOwnedBy", "(III)I"⟩, 8), (⟨"EnvyRust", "forgeable", "(III)Z"⟩, 9), (⟨"EnvyRust$Town", "isPerson", "(I)Z"⟩, 8), (⟨"EnvyRust$Town", "falling", "(I)I"⟩, 8), (⟨"EnvyRust$Town", "addPerson", "(II)I"⟩, 8), (⟨"EnvyRust$Town", "ownedBy", "(I)I"⟩, 8), (⟨"EnvyRust$Town", "passDays", "(I)V"⟩, 8), (⟨"EnvyRust$Town", "fallAll", "()V"⟩, 8), (⟨"EnvyRust$Town", "isGone", "(I)Z"⟩, 8), (⟨"EnvyRust$Town", "walkAll", "()V"⟩, 8), (⟨"EnvyRust$Town", "goneSet", "()I"⟩, 8)]
theorem lw_r1 : ∀ q ∈ lw_privs_1, lw_okq q := List.forall_mem_cons.mpr ⟨lw_p0, List.forall_mem_cons.mpr ⟨lw_p1, List.forall_mem_cons.mpr ⟨lw_p2, List.forall_mem_cons.mpr ⟨lw_p3, List.forall_mem_cons.mpr ⟨lw_p4, List.forall_mem_cons.mpr ⟨lw_p5, List.forall_mem_cons.mpr ⟨lw_p6, List.forall_mem_cons.mpr ⟨lw_p7, List.forall_mem_cons.mpr ⟨lw_p8, List.forall_mem_cons.mpr ⟨lw_p9, List.forall_mem_cons.mpr ⟨lw_p10, List.forall_mem_cons.mpr ⟨lw_p11, List.forall_mem_cons.mpr ⟨lw_p12, List.forall_mem_cons.mpr ⟨lw_p13, List.forall_mem_cons.mpr ⟨lw_p14, List.forall_mem_cons.mpr ⟨lw_p15, fun _ h => absurd h List.not_mem_nil⟩⟩⟩⟩⟩⟩⟩⟩⟩⟩⟩⟩⟩⟩⟩⟩
theorem lw_p16 : lw_okq (⟨"EnvyRust$Town", "allThick", "()I"⟩, 8) := ⟨⟨by decide +kernel, by decide +kernel⟩, List.mem_of_getElem? (i := 22) (by decide +kernel), List.mem_of_getElem? (i := 284) (by decide +kernel), List.mem_of_getElem? (i := 285) (by decide +kernel)⟩
theorem lw_p17 : lw_okq (⟨"EnvyRust$Town", "allWear", "()I"⟩, 8) := ⟨⟨by decide +kernel, by decide +kernel⟩, List.mem_of_getElem? (i := 22) (by decide +kernel), List.mem_of_getElem? (i := 288) (by decide +kernel), List.mem_of_getElem? (i := 289) (by decide +kernel)⟩
theorem lw_p18 : lw_okq (⟨"EnvyRust$Town", "visited", "()I"⟩, 8) := ⟨⟨by decide +kernel, by decide +kernel⟩, List.mem_of_getElem? (i := 22) (by decide +kernel), List.mem_of_getElem? (i := 292) (by decide +kernel), List.mem_of_getElem? (i := 293) (by decide +kernel)⟩
theorem lw_p19 : lw_okq (⟨"EnvyRust", "startTrial", "()V"⟩, 9) := ⟨⟨by decide +kernel, by decide +kernel⟩, List.mem_of_getElem? (i := 14) (by decide +kernel), List.mem_of_getElem? (i := 300) (by decide +kernel), List.mem_of_getElem? (i := 301) (by decide +kernel)⟩
theorem lw_p20 : lw_okq (⟨"EnvyRust$Town", "become", "(LEnvyRust$Town;)V"⟩, 8) := ⟨⟨by decide +kernel, by decide +kernel⟩, List.mem_of_getElem? (i := 22) (by decide +kernel), List.mem_of_getElem? (i := 304) (by decide +kernel), List.mem_of_getElem? (i := 305) (by decide +kernel)⟩
theorem lw_p21 : lw_okq (⟨"EnvyRust", "sparingFor", "(IIII)I"⟩, 9) := ⟨⟨by decide +kernel, by decide +kernel⟩, List.mem_of_getElem? (i := 14) (by decide +kernel), List.mem_of_getElem? (i := 334) (by decide +kernel), List.mem_of_getElem? (i := 335) (by decide +kernel)⟩
theorem lw_p22 : lw_okq (⟨"EnvyRust", "thickestFor", "(IIII)I"⟩, 9) := ⟨⟨by decide +kernel, by decide +kernel⟩, List.mem_of_getElem? (i := 14) (by decide +kernel), List.mem_of_getElem? (i := 346) (by decide +kernel), List.mem_of_getElem? (i := 347) (by decide +kernel)⟩
theorem lw_p23 : lw_okq (⟨"EnvyRust", "wearAlone", "(II[I)V"⟩, 9) := ⟨⟨by decide +kernel, by decide +kernel⟩, List.mem_of_getElem? (i := 14) (by decide +kernel), List.mem_of_getElem? (i := 363) (by decide +kernel), List.mem_of_getElem? (i := 364) (by decide +kernel)⟩
theorem lw_p24 : lw_okq (⟨"EnvyRust$Town", "allThings", "()I"⟩, 8) := ⟨⟨by decide +kernel, by decide +kernel⟩, List.mem_of_getElem? (i := 22) (by decide +kernel), List.mem_of_getElem? (i := 368) (by decide +kernel), List.mem_of_getElem? (i := 369) (by decide +kernel)⟩
theorem lw_p25 : lw_okq (⟨"EnvyRust", "leftPainted", "(I)I"⟩, 9) := ⟨⟨by decide +kernel, by decide +kernel⟩, List.mem_of_getElem? (i := 14) (by decide +kernel), List.mem_of_getElem? (i := 372) (by decide +kernel), List.mem_of_getElem? (i := 373) (by decide +kernel)⟩
theorem lw_p26 : lw_okq (⟨"EnvyRust$Town", "hangingDepth", "(I)I"⟩, 8) := ⟨⟨by decide +kernel, by decide +kernel⟩, List.mem_of_getElem? (i := 22) (by decide +kernel), List.mem_of_getElem? (i := 389) (by decide +kernel), List.mem_of_getElem? (i := 390) (by decide +kernel)⟩
theorem lw_p27 : lw_okq (⟨"EnvyRust$Town", "isSet", "(I)Z"⟩, 8) := ⟨⟨by decide +kernel, by decide +kernel⟩, List.mem_of_getElem? (i := 22) (by decide +kernel), List.mem_of_getElem? (i := 405) (by decide +kernel), List.mem_of_getElem? (i := 406) (by decide +kernel)⟩
theorem lw_p28 : lw_okq (⟨"EnvyRust$Town", "worthOf", "(II)I"⟩, 8) := ⟨⟨by decide +kernel, by decide +kernel⟩, List.mem_of_getElem? (i := 22) (by decide +kernel), List.mem_of_getElem? (i := 410) (by decide +kernel), List.mem_of_getElem? (i := 411) (by decide +kernel)⟩
theorem lw_p29 : lw_okq (⟨"EnvyRust", "canDeal", "(III)Z"⟩, 9) := ⟨⟨by decide +kernel, by decide +kernel⟩, List.mem_of_getElem? (i := 14) (by decide +kernel), List.mem_of_getElem? (i := 418) (by decide +kernel), List.mem_of_getElem? (i := 419) (by decide +kernel)⟩
theorem lw_p30 : lw_okq (⟨"EnvyRust", "leavesNoEnvy", "(IIII)Z"⟩, 9) := ⟨⟨by decide +kernel, by decide +kernel⟩, List.mem_of_getElem? (i := 14) (by decide +kernel), List.mem_of_getElem? (i := 425) (by decide +kernel), List.mem_of_getElem? (i := 426) (by decide +kernel)⟩
theorem lw_p31 : lw_okq (⟨"EnvyRust", "findingOfFit", "(III)I"⟩, 9) := ⟨⟨by decide +kernel, by decide +kernel⟩, List.mem_of_getElem? (i := 14) (by decide +kernel), List.mem_of_getElem? (i := 445) (by decide +kernel), List.mem_of_getElem? (i := 446) (by decide +kernel)⟩
def lw_privs_2 : List (MethodName × Nat) := [(⟨"EnvyRust$Town", "allThick", "()I"⟩, 8), (⟨"EnvyRust$Town", "allWear", "()I"⟩, 8), (⟨"EnvyRust$Town", "visited", "()I"⟩, 8), (⟨"EnvyRust", "startTrial", "()V"⟩, 9), (⟨"EnvyRust$Town", "become", "(LEnvyRust$Town;)V"⟩, 8), (⟨"EnvyRust", "sparingFor", "(IIII)I"⟩, 9), (⟨"EnvyRust", "thickestFor", "(IIII)I"⟩, 9), (⟨"EnvyRust", "wearAlone", "(II[I)V"⟩, 9), (⟨"EnvyRust$Town", "allThings", "()I"⟩, 8), (⟨"EnvyRust", "leftPainted", "(I)I"⟩, 9), (⟨"EnvyRust$Town", "hangingDepth", "(I)I"⟩, 8), (⟨"EnvyRust$Town", "isSet", "(I)Z"⟩, 8), (⟨"EnvyRust$Town", "worthOf", "(II)I"⟩, 8), (⟨"EnvyRust", "canDeal", "(III)Z"⟩, 9), (⟨"EnvyRust", "leavesNoEnvy", "(IIII)Z"⟩, 9), (⟨"EnvyRust", "findingOfFit", "(III)I"⟩, 9)]
theorem lw_r2 : ∀ q ∈ lw_privs_2, lw_okq q := List.forall_mem_cons.mpr ⟨lw_p16, List.forall_mem_cons.mpr ⟨lw_p17, List.forall_mem_cons.mpr ⟨lw_p18, List.forall_mem_cons.mpr ⟨lw_p19, List.forall_mem_cons.mpr ⟨lw_p20, List.forall_mem_cons.mpr ⟨lw_p21, List.forall_mem_cons.mpr ⟨lw_p22, List.forall_mem_cons.mpr ⟨lw_p23, List.forall_mem_cons.mpr ⟨lw_p24, List.forall_mem_cons.mpr ⟨lw_p25, List.forall_mem_cons.mpr ⟨lw_p26, List.forall_mem_cons.mpr ⟨lw_p27, List.forall_mem_cons.mpr ⟨lw_p28, List.forall_mem_cons.mpr ⟨lw_p29, List.forall_mem_cons.mpr ⟨lw_p30, List.forall_mem_cons.mpr ⟨lw_p31, fun _ h => absurd h List.not_mem_nil⟩⟩⟩⟩⟩⟩⟩⟩⟩⟩⟩⟩⟩⟩⟩⟩
theorem lw_p32 : lw_okq (⟨"EnvyRust", "findingOfSheet", "(I)I"⟩, 9) := ⟨⟨by decide +kernel, by decide +kernel⟩, List.mem_of_getElem? (i := 14) (by decide +kernel), List.mem_of_getElem? (i := 449) (by decide +kernel), List.mem_of_getElem? (i := 450) (by decide +kernel)⟩
theorem lw_p33 : lw_okq (⟨"EnvyRust$Sheet", "isMissing", "()Z"⟩, 3) := ⟨⟨by decide +kernel, by decide +kernel⟩, List.mem_of_getElem? (i := 100) (by decide +kernel), List.mem_of_getElem? (i := 456) (by decide +kernel), List.mem_of_getElem? (i := 457) (by decide +kernel)⟩
theorem lw_p34 : lw_okq (⟨"EnvyRust", "fitsWith", "(LEnvyRust$Sheet;III)Z"⟩, 9) := ⟨⟨by decide +kernel, by decide +kernel⟩, List.mem_of_getElem? (i := 14) (by decide +kernel), List.mem_of_getElem? (i := 461) (by decide +kernel), List.mem_of_getElem? (i := 462) (by decide +kernel)⟩
theorem lw_p35 : lw_okq (⟨"EnvyRust$Town", "scatter", "()V"⟩, 8) := ⟨⟨by decide +kernel, by decide +kernel⟩, List.mem_of_getElem? (i := 22) (by decide +kernel), List.mem_of_getElem? (i := 473) (by decide +kernel), List.mem_of_getElem? (i := 474) (by decide +kernel)⟩
theorem lw_p36 : lw_okq (⟨"EnvyRust$Town", "placesOfThings", "()I"⟩, 8) := ⟨⟨by decide +kernel, by decide +kernel⟩, List.mem_of_getElem? (i := 22) (by decide +kernel), List.mem_of_getElem? (i := 482) (by decide +kernel), List.mem_of_getElem? (i := 483) (by decide +kernel)⟩
theorem lw_p37 : lw_okq (⟨"EnvyRust$TextReader", "put", "(B)V"⟩, 7) := ⟨⟨by decide +kernel, by decide +kernel⟩, List.mem_of_getElem? (i := 68) (by decide +kernel), List.mem_of_getElem? (i := 494) (by decide +kernel), List.mem_of_getElem? (i := 495) (by decide +kernel)⟩
theorem lw_p38 : lw_okq (⟨"EnvyRust$TextReader", "readInto", "(LEnvyRust$Town;)I"⟩, 7) := ⟨⟨by decide +kernel, by decide +kernel⟩, List.mem_of_getElem? (i := 68) (by decide +kernel), List.mem_of_getElem? (i := 506) (by decide +kernel), List.mem_of_getElem? (i := 507) (by decide +kernel)⟩
theorem lw_p39 : lw_okq (⟨"EnvyRust$TextReader", "advance", "()V"⟩, 7) := ⟨⟨by decide +kernel, by decide +kernel⟩, List.mem_of_getElem? (i := 68) (by decide +kernel), List.mem_of_getElem? (i := 510) (by decide +kernel), List.mem_of_getElem? (i := 511) (by decide +kernel)⟩
theorem lw_p40 : lw_okq (⟨"EnvyRust$TextReader", "kindTold", "()I"⟩, 7) := ⟨⟨by decide +kernel, by decide +kernel⟩, List.mem_of_getElem? (i := 68) (by decide +kernel), List.mem_of_getElem? (i := 521) (by decide +kernel), List.mem_of_getElem? (i := 522) (by decide +kernel)⟩
theorem lw_p41 : lw_okq (⟨"EnvyRust$TextReader", "isWord", "(Ljava/lang/String;)Z"⟩, 7) := ⟨⟨by decide +kernel, by decide +kernel⟩, List.mem_of_getElem? (i := 68) (by decide +kernel), List.mem_of_getElem? (i := 535) (by decide +kernel), List.mem_of_getElem? (i := 536) (by decide +kernel)⟩
theorem lw_p42 : lw_okq (⟨"EnvyRust$TextReader", "readPerson", "(LEnvyRust$Town;I)V"⟩, 7) := ⟨⟨by decide +kernel, by decide +kernel⟩, List.mem_of_getElem? (i := 68) (by decide +kernel), List.mem_of_getElem? (i := 587) (by decide +kernel), List.mem_of_getElem? (i := 588) (by decide +kernel)⟩
theorem lw_p43 : lw_okq (⟨"EnvyRust$TextReader", "readPerhaps", "(Ljava/lang/String;II)I"⟩, 7) := ⟨⟨by decide +kernel, by decide +kernel⟩, List.mem_of_getElem? (i := 68) (by decide +kernel), List.mem_of_getElem? (i := 592) (by decide +kernel), List.mem_of_getElem? (i := 593) (by decide +kernel)⟩
theorem lw_p44 : lw_okq (⟨"EnvyRust$TextReader", "readNumber", "(I)I"⟩, 7) := ⟨⟨by decide +kernel, by decide +kernel⟩, List.mem_of_getElem? (i := 68) (by decide +kernel), List.mem_of_getElem? (i := 596) (by decide +kernel), List.mem_of_getElem? (i := 597) (by decide +kernel)⟩
theorem lw_p45 : lw_okq (⟨"EnvyRust$TextReader", "fail", "()V"⟩, 7) := ⟨⟨by decide +kernel, by decide +kernel⟩, List.mem_of_getElem? (i := 68) (by decide +kernel), List.mem_of_getElem? (i := 600) (by decide +kernel), List.mem_of_getElem? (i := 601) (by decide +kernel)⟩
theorem lw_p46 : lw_okq (⟨"EnvyRust$TextReader", "readThing", "(LEnvyRust$Town;)V"⟩, 7) := ⟨⟨by decide +kernel, by decide +kernel⟩, List.mem_of_getElem? (i := 68) (by decide +kernel), List.mem_of_getElem? (i := 608) (by decide +kernel), List.mem_of_getElem? (i := 609) (by decide +kernel)⟩
theorem lw_p47 : lw_okq (⟨"EnvyRust$Sheet", "lay", "(II)V"⟩, 3) := ⟨⟨by decide +kernel, by decide +kernel⟩, List.mem_of_getElem? (i := 100) (by decide +kernel), List.mem_of_getElem? (i := 632) (by decide +kernel), List.mem_of_getElem? (i := 633) (by decide +kernel)⟩
def lw_privs_3 : List (MethodName × Nat) := [(⟨"EnvyRust", "findingOfSheet", "(I)I"⟩, 9), (⟨"EnvyRust$Sheet", "isMissing", "()Z"⟩, 3), (⟨"EnvyRust", "fitsWith", "(LEnvyRust$Sheet;III)Z"⟩, 9), (⟨"EnvyRust$Town", "scatter", "()V"⟩, 8), (⟨"EnvyRust$Town", "placesOfThings", "()I"⟩, 8), (⟨"EnvyRust$TextReader", "put", "(B)V"⟩, 7), (⟨"EnvyRust$TextReader", "readInto", "(LEnvyRust$Town;)I"⟩, 7), (⟨"EnvyRust$TextReader", "advance", "()V"⟩, 7), (⟨"EnvyRust$TextReader", "kindTold", "()I"⟩, 7), (⟨"EnvyRust$TextReader", "isWord", "(Ljava/lang/String;)Z"⟩, 7), (⟨"EnvyRust$TextReader", "readPerson", "(LEnvyRust$Town;I)V"⟩, 7), (⟨"EnvyRust$TextReader", "readPerhaps", "(Ljava/lang/String;II)I"⟩, 7), (⟨"EnvyRust$TextReader", "readNumber", "(I)I"⟩, 7), (⟨"EnvyRust$TextReader", "fail", "()V"⟩, 7), (⟨"EnvyRust$TextReader", "readThing", "(LEnvyRust$Town;)V"⟩, 7), (⟨"EnvyRust$Sheet", "lay", "(II)V"⟩, 3)]
theorem lw_r3 : ∀ q ∈ lw_privs_3, lw_okq q := List.forall_mem_cons.mpr ⟨lw_p32, List.forall_mem_cons.mpr ⟨lw_p33, List.forall_mem_cons.mpr ⟨lw_p34, List.forall_mem_cons.mpr ⟨lw_p35, List.forall_mem_cons.mpr ⟨lw_p36, List.forall_mem_cons.mpr ⟨lw_p37, List.forall_mem_cons.mpr ⟨lw_p38, List.forall_mem_cons.mpr ⟨lw_p39, List.forall_mem_cons.mpr ⟨lw_p40, List.forall_mem_cons.mpr ⟨lw_p41, List.forall_mem_cons.mpr ⟨lw_p42, List.forall_mem_cons.mpr ⟨lw_p43, List.forall_mem_cons.mpr ⟨lw_p44, List.forall_mem_cons.mpr ⟨lw_p45, List.forall_mem_cons.mpr ⟨lw_p46, List.forall_mem_cons.mpr ⟨lw_p47, fun _ h => absurd h List.not_mem_nil⟩⟩⟩⟩⟩⟩⟩⟩⟩⟩⟩⟩⟩⟩⟩⟩
theorem lw_p48 : lw_okq (⟨"EnvyRust$Sheet", "put", "(II)V"⟩, 3) := ⟨⟨by decide +kernel, by decide +kernel⟩, List.mem_of_getElem? (i := 100) (by decide +kernel), List.mem_of_getElem? (i := 640) (by decide +kernel), List.mem_of_getElem? (i := 641) (by decide +kernel)⟩
theorem lw_p49 : lw_okq (⟨"EnvyRust$Sheet", "has", "(II)Z"⟩, 3) := ⟨⟨by decide +kernel, by decide +kernel⟩, List.mem_of_getElem? (i := 100) (by decide +kernel), List.mem_of_getElem? (i := 648) (by decide +kernel), List.mem_of_getElem? (i := 649) (by decide +kernel)⟩
theorem lw_p50 : lw_okq (⟨"EnvyRust", "isLink", "(LEnvyRust$Sheet;I)Z"⟩, 9) := ⟨⟨by decide +kernel, by decide +kernel⟩, List.mem_of_getElem? (i := 14) (by decide +kernel), List.mem_of_getElem? (i := 660) (by decide +kernel), List.mem_of_getElem? (i := 661) (by decide +kernel)⟩
theorem lw_p51 : lw_okq (⟨"EnvyRust$Town", "heldSpots", "()I"⟩, 8) := ⟨⟨by decide +kernel, by decide +kernel⟩, List.mem_of_getElem? (i := 22) (by decide +kernel), List.mem_of_getElem? (i := 680) (by decide +kernel), List.mem_of_getElem? (i := 681) (by decide +kernel)⟩
theorem lw_p52 : lw_okq (⟨"EnvyRustModel", "finding", "(I)I"⟩, 24) := ⟨⟨by decide +kernel, by decide +kernel⟩, List.mem_of_getElem? (i := 688) (by decide +kernel), List.mem_of_getElem? (i := 787) (by decide +kernel), List.mem_of_getElem? (i := 788) (by decide +kernel)⟩
theorem lw_p53 : lw_okq (⟨"EnvyRustModel", "comes", "(IIIIII)I"⟩, 24) := ⟨⟨by decide +kernel, by decide +kernel⟩, List.mem_of_getElem? (i := 688) (by decide +kernel), List.mem_of_getElem? (i := 792) (by decide +kernel), List.mem_of_getElem? (i := 793) (by decide +kernel)⟩
theorem lw_p54 : lw_okq (⟨"EnvyRustModel", "isThing", "(I)Z"⟩, 24) := ⟨⟨by decide +kernel, by decide +kernel⟩, List.mem_of_getElem? (i := 688) (by decide +kernel), List.mem_of_getElem? (i := 803) (by decide +kernel), List.mem_of_getElem? (i := 804) (by decide +kernel)⟩
theorem lw_p55 : lw_okq (⟨"EnvyRustModel", "wornNow", "(I)I"⟩, 24) := ⟨⟨by decide +kernel, by decide +kernel⟩, List.mem_of_getElem? (i := 688) (by decide +kernel), List.mem_of_getElem? (i := 807) (by decide +kernel), List.mem_of_getElem? (i := 808) (by decide +kernel)⟩
theorem lw_p56 : lw_okq (⟨"EnvyRustModel", "personIs", "(II)I"⟩, 24) := ⟨⟨by decide +kernel, by decide +kernel⟩, List.mem_of_getElem? (i := 688) (by decide +kernel), List.mem_of_getElem? (i := 811) (by decide +kernel), List.mem_of_getElem? (i := 812) (by decide +kernel)⟩
theorem lw_p57 : lw_okq (⟨"EnvyRustModel", "thingIs", "(II)I"⟩, 24) := ⟨⟨by decide +kernel, by decide +kernel⟩, List.mem_of_getElem? (i := 688) (by decide +kernel), List.mem_of_getElem? (i := 818) (by decide +kernel), List.mem_of_getElem? (i := 819) (by decide +kernel)⟩
theorem lw_p58 : lw_okq (⟨"EnvyRustModel", "envyOf", "(II)I"⟩, 24) := ⟨⟨by decide +kernel, by decide +kernel⟩, List.mem_of_getElem? (i := 688) (by decide +kernel), List.mem_of_getElem? (i := 822) (by decide +kernel), List.mem_of_getElem? (i := 823) (by decide +kernel)⟩
theorem lw_p59 : lw_okq (⟨"EnvyRustModel", "envyIf", "(III)I"⟩, 24) := ⟨⟨by decide +kernel, by decide +kernel⟩, List.mem_of_getElem? (i := 688) (by decide +kernel), List.mem_of_getElem? (i := 826) (by decide +kernel), List.mem_of_getElem? (i := 827) (by decide +kernel)⟩
theorem lw_p60 : lw_okq (⟨"EnvyRustModel", "isGone", "(I)Z"⟩, 24) := ⟨⟨by decide +kernel, by decide +kernel⟩, List.mem_of_getElem? (i := 688) (by decide +kernel), List.mem_of_getElem? (i := 830) (by decide +kernel), List.mem_of_getElem? (i := 831) (by decide +kernel)⟩
theorem lw_p61 : lw_okq (⟨"EnvyRustModel", "mayForge", "(III)Z"⟩, 24) := ⟨⟨by decide +kernel, by decide +kernel⟩, List.mem_of_getElem? (i := 688) (by decide +kernel), List.mem_of_getElem? (i := 846) (by decide +kernel), List.mem_of_getElem? (i := 847) (by decide +kernel)⟩
theorem lw_p62 : lw_okq (⟨"EnvyRustModel", "isPerson", "(I)Z"⟩, 24) := ⟨⟨by decide +kernel, by decide +kernel⟩, List.mem_of_getElem? (i := 688) (by decide +kernel), List.mem_of_getElem? (i := 856) (by decide +kernel), List.mem_of_getElem? (i := 857) (by decide +kernel)⟩
theorem lw_p63 : lw_okq (⟨"EnvyRustModel", "hangsOn", "(II)Z"⟩, 24) := ⟨⟨by decide +kernel, by decide +kernel⟩, List.mem_of_getElem? (i := 688) (by decide +kernel), List.mem_of_getElem? (i := 860) (by decide +kernel), List.mem_of_getElem? (i := 861) (by decide +kernel)⟩
def lw_privs_4 : List (MethodName × Nat) := [(⟨"EnvyRust$Sheet", "put", "(II)V"⟩, 3), (⟨"EnvyRust$Sheet", "has", "(II)Z"⟩, 3), (⟨"EnvyRust", "isLink", "(LEnvyRust$Sheet;I)Z"⟩, 9), (⟨"EnvyRust$Town", "heldSpots", "()I"⟩, 8), (⟨"EnvyRustModel", "finding", "(I)I"⟩, 24), (⟨"EnvyRustModel", "comes", "(IIIIII)I"⟩, 24), (⟨"EnvyRustModel", "isThing", "(I)Z"⟩, 24), (⟨"EnvyRustModel", "wornNow", "(I)I"⟩, 24), (⟨"EnvyRustModel", "personIs", "(II)I"⟩, 24), (⟨"EnvyRustModel", "thingIs", "(II)I"⟩, 24), (⟨"EnvyRustModel", "envyOf", "(II)I"⟩, 24), (⟨"EnvyRustModel", "envyIf", "(III)I"⟩, 24), (⟨"EnvyRustModel", "isGone", "(I)Z"⟩, 24), (⟨"EnvyRustModel", "mayForge", "(III)Z"⟩, 24), (⟨"EnvyRustModel", "isPerson", "(I)Z"⟩, 24), (⟨"EnvyRustModel", "hangsOn", "(II)Z"⟩, 24)]
theorem lw_r4 : ∀ q ∈ lw_privs_4, lw_okq q := List.forall_mem_cons.mpr ⟨lw_p48, List.forall_mem_cons.mpr ⟨lw_p49, List.forall_mem_cons.mpr ⟨lw_p50, List.forall_mem_cons.mpr ⟨lw_p51, List.forall_mem_cons.mpr ⟨lw_p52, List.forall_mem_cons.mpr ⟨lw_p53, List.forall_mem_cons.mpr ⟨lw_p54, List.forall_mem_cons.mpr ⟨lw_p55, List.forall_mem_cons.mpr ⟨lw_p56, List.forall_mem_cons.mpr ⟨lw_p57, List.forall_mem_cons.mpr ⟨lw_p58, List.forall_mem_cons.mpr ⟨lw_p59, List.forall_mem_cons.mpr ⟨lw_p60, List.forall_mem_cons.mpr ⟨lw_p61, List.forall_mem_cons.mpr ⟨lw_p62, List.forall_mem_cons.mpr ⟨lw_p63, fun _ h => absurd h List.not_mem_nil⟩⟩⟩⟩⟩⟩⟩⟩⟩⟩⟩⟩⟩⟩⟩⟩
theorem lw_p64 : lw_okq (⟨"EnvyRustModel", "become", "(II)I"⟩, 24) := ⟨⟨by decide +kernel, by decide +kernel⟩, List.mem_of_getElem? (i := 688) (by decide +kernel), List.mem_of_getElem? (i := 865) (by decide +kernel), List.mem_of_getElem? (i := 866) (by decide +kernel)⟩
theorem lw_p65 : lw_okq (⟨"EnvyRustModel", "joins", "(III)I"⟩, 24) := ⟨⟨by decide +kernel, by decide +kernel⟩, List.mem_of_getElem? (i := 688) (by decide +kernel), List.mem_of_getElem? (i := 876) (by decide +kernel), List.mem_of_getElem? (i := 877) (by decide +kernel)⟩
theorem lw_p66 : lw_okq (⟨"EnvyRustModel", "ownedBy", "(I)I"⟩, 24) := ⟨⟨by decide +kernel, by decide +kernel⟩, List.mem_of_getElem? (i := 688) (by decide +kernel), List.mem_of_getElem? (i := 884) (by decide +kernel), List.mem_of_getElem? (i := 885) (by decide +kernel)⟩
theorem lw_p67 : lw_okq (⟨"EnvyRustModel", "days", "(I)V"⟩, 24) := ⟨⟨by decide +kernel, by decide +kernel⟩, List.mem_of_getElem? (i := 688) (by decide +kernel), List.mem_of_getElem? (i := 901) (by decide +kernel), List.mem_of_getElem? (i := 902) (by decide +kernel)⟩
theorem lw_p68 : lw_okq (⟨"EnvyRustModel", "day", "()V"⟩, 24) := ⟨⟨by decide +kernel, by decide +kernel⟩, List.mem_of_getElem? (i := 688) (by decide +kernel), List.mem_of_getElem? (i := 905) (by decide +kernel), List.mem_of_getElem? (i := 906) (by decide +kernel)⟩
theorem lw_p69 : lw_okq (⟨"EnvyRustModel", "falls", "()Z"⟩, 24) := ⟨⟨by decide +kernel, by decide +kernel⟩, List.mem_of_getElem? (i := 688) (by decide +kernel), List.mem_of_getElem? (i := 909) (by decide +kernel), List.mem_of_getElem? (i := 910) (by decide +kernel)⟩
theorem lw_p70 : lw_okq (⟨"EnvyRustModel", "goneNow", "()I"⟩, 24) := ⟨⟨by decide +kernel, by decide +kernel⟩, List.mem_of_getElem? (i := 688) (by decide +kernel), List.mem_of_getElem? (i := 913) (by decide +kernel), List.mem_of_getElem? (i := 914) (by decide +kernel)⟩
theorem lw_p71 : lw_okq (⟨"EnvyRustModel", "thickNow", "()I"⟩, 24) := ⟨⟨by decide +kernel, by decide +kernel⟩, List.mem_of_getElem? (i := 688) (by decide +kernel), List.mem_of_getElem? (i := 924) (by decide +kernel), List.mem_of_getElem? (i := 925) (by decide +kernel)⟩
theorem lw_p72 : lw_okq (⟨"EnvyRustModel", "isSomebodyAt", "(I)Z"⟩, 24) := ⟨⟨by decide +kernel, by decide +kernel⟩, List.mem_of_getElem? (i := 688) (by decide +kernel), List.mem_of_getElem? (i := 928) (by decide +kernel), List.mem_of_getElem? (i := 929) (by decide +kernel)⟩
theorem lw_p73 : lw_okq (⟨"EnvyRustModel", "thickBehind", "(II)I"⟩, 24) := ⟨⟨by decide +kernel, by decide +kernel⟩, List.mem_of_getElem? (i := 688) (by decide +kernel), List.mem_of_getElem? (i := 936) (by decide +kernel), List.mem_of_getElem? (i := 937) (by decide +kernel)⟩
theorem lw_p74 : lw_okq (⟨"EnvyRustModel", "putBack", "(I)I"⟩, 24) := ⟨⟨by decide +kernel, by decide +kernel⟩, List.mem_of_getElem? (i := 688) (by decide +kernel), List.mem_of_getElem? (i := 943) (by decide +kernel), List.mem_of_getElem? (i := 944) (by decide +kernel)⟩
theorem lw_p75 : lw_okq (⟨"EnvyRustModel", "orNone", "(I)I"⟩, 24) := ⟨⟨by decide +kernel, by decide +kernel⟩, List.mem_of_getElem? (i := 688) (by decide +kernel), List.mem_of_getElem? (i := 951) (by decide +kernel), List.mem_of_getElem? (i := 952) (by decide +kernel)⟩
theorem lw_p76 : lw_okq (⟨"EnvyRustModel", "lostIn", "(I)I"⟩, 24) := ⟨⟨by decide +kernel, by decide +kernel⟩, List.mem_of_getElem? (i := 688) (by decide +kernel), List.mem_of_getElem? (i := 964) (by decide +kernel), List.mem_of_getElem? (i := 965) (by decide +kernel)⟩
theorem lw_p77 : lw_okq (⟨"EnvyRustModel", "leastLoss", "(III)I"⟩, 24) := ⟨⟨by decide +kernel, by decide +kernel⟩, List.mem_of_getElem? (i := 688) (by decide +kernel), List.mem_of_getElem? (i := 976) (by decide +kernel), List.mem_of_getElem? (i := 977) (by decide +kernel)⟩
theorem lw_p78 : lw_okq (⟨"EnvyRustModel", "thickest", "(IIII)I"⟩, 24) := ⟨⟨by decide +kernel, by decide +kernel⟩, List.mem_of_getElem? (i := 688) (by decide +kernel), List.mem_of_getElem? (i := 989) (by decide +kernel), List.mem_of_getElem? (i := 990) (by decide +kernel)⟩
theorem lw_p79 : lw_okq (⟨"EnvyRustModel", "lostPainted", "(II)I"⟩, 24) := ⟨⟨by decide +kernel, by decide +kernel⟩, List.mem_of_getElem? (i := 688) (by decide +kernel), List.mem_of_getElem? (i := 1005) (by decide +kernel), List.mem_of_getElem? (i := 1006) (by decide +kernel)⟩
def lw_privs_5 : List (MethodName × Nat) := [(⟨"EnvyRustModel", "become", "(II)I"⟩, 24), (⟨"EnvyRustModel", "joins", "(III)I"⟩, 24), (⟨"EnvyRustModel", "ownedBy", "(I)I"⟩, 24), (⟨"EnvyRustModel", "days", "(I)V"⟩, 24), (⟨"EnvyRustModel", "day", "()V"⟩, 24), (⟨"EnvyRustModel", "falls", "()Z"⟩, 24), (⟨"EnvyRustModel", "goneNow", "()I"⟩, 24), (⟨"EnvyRustModel", "thickNow", "()I"⟩, 24), (⟨"EnvyRustModel", "isSomebodyAt", "(I)Z"⟩, 24), (⟨"EnvyRustModel", "thickBehind", "(II)I"⟩, 24), (⟨"EnvyRustModel", "putBack", "(I)I"⟩, 24), (⟨"EnvyRustModel", "orNone", "(I)I"⟩, 24), (⟨"EnvyRustModel", "lostIn", "(I)I"⟩, 24), (⟨"EnvyRustModel", "leastLoss", "(III)I"⟩, 24), (⟨"EnvyRustModel", "thickest", "(IIII)I"⟩, 24), (⟨"EnvyRustModel", "lostPainted", "(II)I"⟩, 24)]
theorem lw_r5 : ∀ q ∈ lw_privs_5, lw_okq q := List.forall_mem_cons.mpr ⟨lw_p64, List.forall_mem_cons.mpr ⟨lw_p65, List.forall_mem_cons.mpr ⟨lw_p66, List.forall_mem_cons.mpr ⟨lw_p67, List.forall_mem_cons.mpr ⟨lw_p68, List.forall_mem_cons.mpr ⟨lw_p69, List.forall_mem_cons.mpr ⟨lw_p70, List.forall_mem_cons.mpr ⟨lw_p71, List.forall_mem_cons.mpr ⟨lw_p72, List.forall_mem_cons.mpr ⟨lw_p73, List.forall_mem_cons.mpr ⟨lw_p74, List.forall_mem_cons.mpr ⟨lw_p75, List.forall_mem_cons.mpr ⟨lw_p76, List.forall_mem_cons.mpr ⟨lw_p77, List.forall_mem_cons.mpr ⟨lw_p78, List.forall_mem_cons.mpr ⟨lw_p79, fun _ h => absurd h List.not_mem_nil⟩⟩⟩⟩⟩⟩⟩⟩⟩⟩⟩⟩⟩⟩⟩⟩
theorem lw_p80 : lw_okq (⟨"EnvyRustModel", "fallWith", "(I)I"⟩, 24) := ⟨⟨by decide +kernel, by decide +kernel⟩, List.mem_of_getElem? (i := 688) (by decide +kernel), List.mem_of_getElem? (i := 1020) (by decide +kernel), List.mem_of_getElem? (i := 1021) (by decide +kernel)⟩
theorem lw_p81 : lw_okq (⟨"EnvyRustModel", "areThings", "(I)Z"⟩, 24) := ⟨⟨by decide +kernel, by decide +kernel⟩, List.mem_of_getElem? (i := 688) (by decide +kernel), List.mem_of_getElem? (i := 1040) (by decide +kernel), List.mem_of_getElem? (i := 1041) (by decide +kernel)⟩
theorem lw_p82 : lw_okq (⟨"EnvyRustModel", "worthOf", "(II)I"⟩, 24) := ⟨⟨by decide +kernel, by decide +kernel⟩, List.mem_of_getElem? (i := 688) (by decide +kernel), List.mem_of_getElem? (i := 1044) (by decide +kernel), List.mem_of_getElem? (i := 1045) (by decide +kernel)⟩
theorem lw_p83 : lw_okq (⟨"EnvyRustModel", "isPair", "(III)Z"⟩, 24) := ⟨⟨by decide +kernel, by decide +kernel⟩, List.mem_of_getElem? (i := 688) (by decide +kernel), List.mem_of_getElem? (i := 1052) (by decide +kernel), List.mem_of_getElem? (i := 1053) (by decide +kernel)⟩
theorem lw_p84 : lw_okq (⟨"EnvyRustModel", "isDeal", "(IIII)Z"⟩, 24) := ⟨⟨by decide +kernel, by decide +kernel⟩, List.mem_of_getElem? (i := 688) (by decide +kernel), List.mem_of_getElem? (i := 1056) (by decide +kernel), List.mem_of_getElem? (i := 1057) (by decide +kernel)⟩
theorem lw_p85 : lw_okq (⟨"EnvyRustModel", "dealsOf", "(III)I"⟩, 24) := ⟨⟨by decide +kernel, by decide +kernel⟩, List.mem_of_getElem? (i := 688) (by decide +kernel), List.mem_of_getElem? (i := 1064) (by decide +kernel), List.mem_of_getElem? (i := 1065) (by decide +kernel)⟩
theorem lw_p86 : lw_okq (⟨"EnvyRustModel", "lacks", "(I)I"⟩, 24) := ⟨⟨by decide +kernel, by decide +kernel⟩, List.mem_of_getElem? (i := 688) (by decide +kernel), List.mem_of_getElem? (i := 1080) (by decide +kernel), List.mem_of_getElem? (i := 1081) (by decide +kernel)⟩
theorem lw_p87 : lw_okq (⟨"EnvyRustModel", "fitting", "(III)I"⟩, 24) := ⟨⟨by decide +kernel, by decide +kernel⟩, List.mem_of_getElem? (i := 688) (by decide +kernel), List.mem_of_getElem? (i := 1088) (by decide +kernel), List.mem_of_getElem? (i := 1089) (by decide +kernel)⟩
theorem lw_p88 : lw_okq (⟨"EnvyRustModel", "isWornSo", "(II)Z"⟩, 24) := ⟨⟨by decide +kernel, by decide +kernel⟩, List.mem_of_getElem? (i := 688) (by decide +kernel), List.mem_of_getElem? (i := 1092) (by decide +kernel), List.mem_of_getElem? (i := 1093) (by decide +kernel)⟩
theorem lw_p89 : lw_okq (⟨"EnvyRustModel", "drawn", "()I"⟩, 24) := ⟨⟨by decide +kernel, by decide +kernel⟩, List.mem_of_getElem? (i := 688) (by decide +kernel), List.mem_of_getElem? (i := 1104) (by decide +kernel), List.mem_of_getElem? (i := 1105) (by decide +kernel)⟩
theorem lw_p90 : lw_okq (⟨"EnvyRustModel", "next", "()V"⟩, 24) := ⟨⟨by decide +kernel, by decide +kernel⟩, List.mem_of_getElem? (i := 688) (by decide +kernel), List.mem_of_getElem? (i := 1129) (by decide +kernel), List.mem_of_getElem? (i := 1130) (by decide +kernel)⟩
theorem lw_p91 : lw_okq (⟨"EnvyRustModel", "byteAt", "(I)I"⟩, 24) := ⟨⟨by decide +kernel, by decide +kernel⟩, List.mem_of_getElem? (i := 688) (by decide +kernel), List.mem_of_getElem? (i := 1133) (by decide +kernel), List.mem_of_getElem? (i := 1134) (by decide +kernel)⟩
theorem lw_p92 : lw_okq (⟨"EnvyRustModel", "readItem", "()V"⟩, 24) := ⟨⟨by decide +kernel, by decide +kernel⟩, List.mem_of_getElem? (i := 688) (by decide +kernel), List.mem_of_getElem? (i := 1137) (by decide +kernel), List.mem_of_getElem? (i := 1138) (by decide +kernel)⟩
theorem lw_p93 : lw_okq (⟨"EnvyRustModel", "kindTold", "()I"⟩, 24) := ⟨⟨by decide +kernel, by decide +kernel⟩, List.mem_of_getElem? (i := 688) (by decide +kernel), List.mem_of_getElem? (i := 1141) (by decide +kernel), List.mem_of_getElem? (i := 1142) (by decide +kernel)⟩
theorem lw_p94 : lw_okq (⟨"EnvyRustModel", "isWord", "(Ljava/lang/String;)Z"⟩, 24) := ⟨⟨by decide +kernel, by decide +kernel⟩, List.mem_of_getElem? (i := 688) (by decide +kernel), List.mem_of_getElem? (i := 1145) (by decide +kernel), List.mem_of_getElem? (i := 1146) (by decide +kernel)⟩
theorem lw_p95 : lw_okq (⟨"EnvyRustModel", "must", "(Z)V"⟩, 24) := ⟨⟨by decide +kernel, by decide +kernel⟩, List.mem_of_getElem? (i := 688) (by decide +kernel), List.mem_of_getElem? (i := 1151) (by decide +kernel), List.mem_of_getElem? (i := 1152) (by decide +kernel)⟩
def lw_privs_6 : List (MethodName × Nat) := [(⟨"EnvyRustModel", "fallWith", "(I)I"⟩, 24), (⟨"EnvyRustModel", "areThings", "(I)Z"⟩, 24), (⟨"EnvyRustModel", "worthOf", "(II)I"⟩, 24), (⟨"EnvyRustModel", "isPair", "(III)Z"⟩, 24), (⟨"EnvyRustModel", "isDeal", "(IIII)Z"⟩, 24), (⟨"EnvyRustModel", "dealsOf", "(III)I"⟩, 24), (⟨"EnvyRustModel", "lacks", "(I)I"⟩, 24), (⟨"EnvyRustModel", "fitting", "(III)I"⟩, 24), (⟨"EnvyRustModel", "isWornSo", "(II)Z"⟩, 24), (⟨"EnvyRustModel", "drawn", "()I"⟩, 24), (⟨"EnvyRustModel", "next", "()V"⟩, 24), (⟨"EnvyRustModel", "byteAt", "(I)I"⟩, 24), (⟨"EnvyRustModel", "readItem", "()V"⟩, 24), (⟨"EnvyRustModel", "kindTold", "()I"⟩, 24), (⟨"EnvyRustModel", "isWord", "(Ljava/lang/String;)Z"⟩, 24), (⟨"EnvyRustModel", "must", "(Z)V"⟩, 24)]
theorem lw_r6 : ∀ q ∈ lw_privs_6, lw_okq q := List.forall_mem_cons.mpr ⟨lw_p80, List.forall_mem_cons.mpr ⟨lw_p81, List.forall_mem_cons.mpr ⟨lw_p82, List.forall_mem_cons.mpr ⟨lw_p83, List.forall_mem_cons.mpr ⟨lw_p84, List.forall_mem_cons.mpr ⟨lw_p85, List.forall_mem_cons.mpr ⟨lw_p86, List.forall_mem_cons.mpr ⟨lw_p87, List.forall_mem_cons.mpr ⟨lw_p88, List.forall_mem_cons.mpr ⟨lw_p89, List.forall_mem_cons.mpr ⟨lw_p90, List.forall_mem_cons.mpr ⟨lw_p91, List.forall_mem_cons.mpr ⟨lw_p92, List.forall_mem_cons.mpr ⟨lw_p93, List.forall_mem_cons.mpr ⟨lw_p94, List.forall_mem_cons.mpr ⟨lw_p95, fun _ h => absurd h List.not_mem_nil⟩⟩⟩⟩⟩⟩⟩⟩⟩⟩⟩⟩⟩⟩⟩⟩
theorem lw_p96 : lw_okq (⟨"EnvyRustModel", "afterWord", "(Ljava/lang/String;III)I"⟩, 24) := ⟨⟨by decide +kernel, by decide +kernel⟩, List.mem_of_getElem? (i := 688) (by decide +kernel), List.mem_of_getElem? (i := 1156) (by decide +kernel), List.mem_of_getElem? (i := 1157) (by decide +kernel)⟩
theorem lw_p97 : lw_okq (⟨"EnvyRustModel", "number", "(II)I"⟩, 24) := ⟨⟨by decide +kernel, by decide +kernel⟩, List.mem_of_getElem? (i := 688) (by decide +kernel), List.mem_of_getElem? (i := 1160) (by decide +kernel), List.mem_of_getElem? (i := 1161) (by decide +kernel)⟩
theorem lw_p98 : lw_okq (⟨"EnvyRustModel", "item", "(IIIIIII)V"⟩, 24) := ⟨⟨by decide +kernel, by decide +kernel⟩, List.mem_of_getElem? (i := 688) (by decide +kernel), List.mem_of_getElem? (i := 1166) (by decide +kernel), List.mem_of_getElem? (i := 1167) (by decide +kernel)⟩
theorem lw_p99 : lw_okq (⟨"EnvyRustModel", "isToldSo", "(I)I"⟩, 24) := ⟨⟨by decide +kernel, by decide +kernel⟩, List.mem_of_getElem? (i := 688) (by decide +kernel), List.mem_of_getElem? (i := 1175) (by decide +kernel), List.mem_of_getElem? (i := 1176) (by decide +kernel)⟩
def lw_privs_7 : List (MethodName × Nat) := [(⟨"EnvyRustModel", "afterWord", "(Ljava/lang/String;III)I"⟩, 24), (⟨"EnvyRustModel", "number", "(II)I"⟩, 24), (⟨"EnvyRustModel", "item", "(IIIIIII)V"⟩, 24), (⟨"EnvyRustModel", "isToldSo", "(I)I"⟩, 24)]
theorem lw_r7 : ∀ q ∈ lw_privs_7, lw_okq q := List.forall_mem_cons.mpr ⟨lw_p96, List.forall_mem_cons.mpr ⟨lw_p97, List.forall_mem_cons.mpr ⟨lw_p98, List.forall_mem_cons.mpr ⟨lw_p99, fun _ h => absurd h List.not_mem_nil⟩⟩⟩⟩
def lw_privs : List (MethodName × Nat) := lw_privs_1 ++ (lw_privs_2 ++ (lw_privs_3 ++ (lw_privs_4 ++ (lw_privs_5 ++ (lw_privs_6 ++ (lw_privs_7))))))
def lw_tbl : List Cond := k2_sels lw_privs ++ tables_1
theorem lw_privs_ok : ∀ q ∈ lw_privs, lw_okq q := by
  show ∀ q ∈ lw_privs_1 ++ (lw_privs_2 ++ (lw_privs_3 ++ (lw_privs_4 ++ (lw_privs_5 ++ (lw_privs_6 ++ (lw_privs_7)))))), lw_okq q
  exact List.forall_mem_append.mpr ⟨lw_r1, List.forall_mem_append.mpr ⟨lw_r2, List.forall_mem_append.mpr ⟨lw_r3, List.forall_mem_append.mpr ⟨lw_r4, List.forall_mem_append.mpr ⟨lw_r5, List.forall_mem_append.mpr ⟨lw_r6, lw_r7⟩⟩⟩⟩⟩⟩
def RX0 : String := "EnvyRust$Sheet"
def TX0 : u_T := fun k => match k with
  | 0 => ("EnvyRust$Sheet", "row", "[I", true)
  | 1 => ("EnvyRust$Sheet", "bits", "I", false)
  | _ => ("EnvyRust$Sheet", "length", "I", false)
def tyX0 : Nat → FieldType := fun k => match k with
  | 0 => .array .int
  | 1 => .int
  | _ => .int
theorem nmX0 : ∀ a, a < 3 → ∀ b, b < 3 → a ≠ b → (TX0 a).2.1 ≠ (TX0 b).2.1 := by decide +kernel
theorem tyX0_ok : ∀ k, k < 3 → parseFieldDescriptor (TX0 k).2.2.1 = some (tyX0 k) := by decide +kernel
def RX1 : String := "EnvyRust$TextReader"
def TX1 : u_T := fun k => match k with
  | 0 => ("EnvyRust$TextReader", "tape", "[B", true)
  | 1 => ("EnvyRust$TextReader", "size", "I", false)
  | 2 => ("EnvyRust$TextReader", "token", "I", false)
  | 3 => ("EnvyRust$TextReader", "start", "I", false)
  | 4 => ("EnvyRust$TextReader", "end", "I", false)
  | 5 => ("EnvyRust$TextReader", "value", "I", false)
  | _ => ("EnvyRust$TextReader", "fault", "I", false)
def tyX1 : Nat → FieldType := fun k => match k with
  | 0 => .array .byte
  | 1 => .int
  | 2 => .int
  | 3 => .int
  | 4 => .int
  | 5 => .int
  | _ => .int
theorem nmX1 : ∀ a, a < 7 → ∀ b, b < 7 → a ≠ b → (TX1 a).2.1 ≠ (TX1 b).2.1 := by decide +kernel
theorem tyX1_ok : ∀ k, k < 7 → parseFieldDescriptor (TX1 k).2.2.1 = some (tyX1 k) := by decide +kernel
def RX2 : String := "EnvyRust$Town"
def TX2 : u_T := fun k => match k with
  | 0 => ("EnvyRust$Town", "iron", "[[I", true)
  | 1 => ("EnvyRust$Town", "folk", "[[I", true)
  | 2 => ("EnvyRust$Town", "spots", "[I", true)
  | 3 => ("EnvyRust$Town", "things", "I", false)
  | 4 => ("EnvyRust$Town", "people", "I", false)
  | 5 => ("EnvyRust$Town", "day", "I", false)
  | 6 => ("EnvyRust$Town", "z", "I", false)
  | _ => ("EnvyRust$Town", "calm", "I", false)
def tyX2 : Nat → FieldType := fun k => match k with
  | 0 => .array (.array .int)
  | 1 => .array (.array .int)
  | 2 => .array .int
  | 3 => .int
  | 4 => .int
  | 5 => .int
  | 6 => .int
  | _ => .int
theorem nmX2 : ∀ a, a < 8 → ∀ b, b < 8 → a ≠ b → (TX2 a).2.1 ≠ (TX2 b).2.1 := by decide +kernel
theorem tyX2_ok : ∀ k, k < 8 → parseFieldDescriptor (TX2 k).2.2.1 = some (tyX2 k) := by decide +kernel
def RX3 : String := "EnvyRust"
def TX3 : u_T := fun k => match k with
  | 0 => ("EnvyRust", "town", "LEnvyRust$Town;", true)
  | 1 => ("EnvyRust", "kept", "LEnvyRust$Town;", true)
  | 2 => ("EnvyRust", "trial", "LEnvyRust$Town;", true)
  | 3 => ("EnvyRust", "reader", "LEnvyRust$TextReader;", true)
  | 4 => ("EnvyRust", "sheets", "[LEnvyRust$Sheet;", true)
  | 5 => ("EnvyRust", "findings", "[I", true)
  | 6 => ("EnvyRust", "imaged", "Z", false)
  | 7 => ("EnvyRust", "bare", "[I", true)
  | _ => ("EnvyRust", "dull", "[I", true)
def tyX3 : Nat → FieldType := fun k => match k with
  | 0 => .object "EnvyRust$Town"
  | 1 => .object "EnvyRust$Town"
  | 2 => .object "EnvyRust$Town"
  | 3 => .object "EnvyRust$TextReader"
  | 4 => .array (.object "EnvyRust$Sheet")
  | 5 => .array .int
  | 6 => .boolean
  | 7 => .array .int
  | _ => .array .int
theorem nmX3 : ∀ a, a < 9 → ∀ b, b < 9 → a ≠ b → (TX3 a).2.1 ≠ (TX3 b).2.1 := by decide +kernel
theorem tyX3_ok : ∀ k, k < 9 → parseFieldDescriptor (TX3 k).2.2.1 = some (tyX3 k) := by decide +kernel
def RX4 : String := "EnvyRustModel"
def TX4 : u_T := fun k => match k with
  | 0 => ("EnvyRustModel", "now", "[I", true)
  | 1 => ("EnvyRustModel", "kept", "[I", true)
  | 2 => ("EnvyRustModel", "aside", "[I", true)
  | 3 => ("EnvyRustModel", "isKept", "Z", false)
  | 4 => ("EnvyRustModel", "found", "[I", true)
  | 5 => ("EnvyRustModel", "worn", "[I", true)
  | 6 => ("EnvyRustModel", "without", "I", false)
  | 7 => ("EnvyRustModel", "paints", "[I", true)
  | 8 => ("EnvyRustModel", "tape", "[I", true)
  | 9 => ("EnvyRustModel", "taped", "I", false)
  | 10 => ("EnvyRustModel", "begins", "I", false)
  | 11 => ("EnvyRustModel", "ends", "I", false)
  | 12 => ("EnvyRustModel", "sort", "I", false)
  | 13 => ("EnvyRustModel", "value", "I", false)
  | 14 => ("EnvyRustModel", "isWrong", "Z", false)
  | 15 => ("EnvyRustModel", "kindNames", "[Ljava/lang/String;", true)
  | 16 => ("EnvyRustModel", "items", "[I", true)
  | 17 => ("EnvyRustModel", "itemMany", "I", false)
  | 18 => ("EnvyRustModel", "thingThen", "I", false)
  | 19 => ("EnvyRustModel", "personThen", "I", false)
  | 20 => ("EnvyRustModel", "widths", "[I", true)
  | 21 => ("EnvyRustModel", "sizes", "[I", true)
  | 22 => ("EnvyRustModel", "numbers", "[I", true)
  | _ => ("EnvyRustModel", "moved", "[I", true)
def tyX4 : Nat → FieldType := fun k => match k with
  | 0 => .array .int
  | 1 => .array .int
  | 2 => .array .int
  | 3 => .boolean
  | 4 => .array .int
  | 5 => .array .int
  | 6 => .int
  | 7 => .array .int
  | 8 => .array .int
  | 9 => .int
  | 10 => .int
  | 11 => .int
  | 12 => .int
  | 13 => .int
  | 14 => .boolean
  | 15 => .array (.object "java/lang/String")
  | 16 => .array .int
  | 17 => .int
  | 18 => .int
  | 19 => .int
  | 20 => .array .int
  | 21 => .array .int
  | 22 => .array .int
  | _ => .array .int
theorem nmX4 : ∀ a, a < 24 → ∀ b, b < 24 → a ≠ b → (TX4 a).2.1 ≠ (TX4 b).2.1 := by decide +kernel
theorem tyX4_ok : ∀ k, k < 24 → parseFieldDescriptor (TX4 k).2.2.1 = some (tyX4 k) := by decide +kernel
abbrev vwCl : List vw_C := [(RX0, TX0, 3), (RX1, TX1, 7), (RX2, TX2, 8), (RX3, TX3, 9), (RX4, TX4, 24)]
end
section
/-! the tables of the small machine: printed by a program out of the claim's own listing -/
abbrev mEnt : Type := Instr × Nat × Nat × Nat × Nat × Nat × Int
abbrev mRow : Type := Nat × MethodName × ByteArray × Nat × Option FieldType × Nat × Nat
abbrev mLnk : Type := Nat × Nat × Nat × Nat × Nat × Int
abbrev a0 (i : Instr) (n j k a b : Nat) (z : Int) : Option mEnt := some (i, n, j, k, a, b, z)
abbrev a1 (i : Instr) : Option mEnt := some (i, 1, 0, 0, 0, 0, 0)
abbrev a2 (i : Instr) : Option mEnt := some (i, 2, 0, 0, 0, 0, 0)
abbrev a3 (i : Instr) : Option mEnt := some (i, 3, 0, 0, 0, 0, 0)
noncomputable def mNmL : List String := ["EnvyRust$Sheet", "EnvyRust$TextReader", "EnvyRust$Town", "EnvyRust", "EnvyRustModel", "EnvyRustLaw", "java/lang/Integer", "java/lang/Math", "java/lang/String", "java/lang/StringLatin1", "java/lang/StringUTF16", "jdk/internal/util/Preconditions", "java/lang/Object", "java/lang/System"]
noncomputable def mNm (k : Nat) : String := mNmL.getD k ""
/-- 0: EnvyRust.new -/
noncomputable def mk_0 : List (List (Option mEnt)) := [[a1 (.aload_n 0), a0 (.invokespecial 1) 3 2 20 0 0 0, none, none, a1 (.aload_n 0), a0 (.new 7) 3 3 4 2 0 0, none, none, a1 (.dup), a0 (.invokespecial 9) 3 4 15 2 1 0, none, none, a0 (.putfield 10) 3 49 0 3 0 0, none, none, a1 (.aload_n 0), a0 (.new 7) 3 3 4 2 0 0, none, none, a1 (.dup), a0 (.invokespecial 9) 3 4 15 2 1 0, none, none, a0 (.putfield 16) 3 50 0 3 1 0, none, none, a1 (.aload_n 0), a0 (.new 7) 3 3 4 2 0 0, none, none, a1 (.dup), a0 (.invokespecial 9) 3 4 15 2 1 0],
  [none, none, a0 (.putfield 19) 3 51 0 3 2 0, none, none, a1 (.aload_n 0), a0 (.new 22) 3 27 4 1 0 0, none, none, a1 (.dup), a0 (.invokespecial 24) 3 28 15 3 1 0, none, none, a0 (.putfield 25) 3 52 0 3 3 0, none, none, a1 (.aload_n 0), a1 (.iconst 4), a0 (.anewarray 29) 3 39 5 2 0 0, none, none, a0 (.putfield 31) 3 53 0 3 4 0, none, none, a1 (.aload_n 0), a2 (.bipush 7), none, a2 (.newarray .int), none, a0 (.putfield 35) 3 54 0 3 5 0, none, none],
  [a1 (.aload_n 0), a1 (.iconst 0), a0 (.putfield 39) 3 55 0 3 6 0, none, none, a1 (.aload_n 0), a2 (.bipush 8), none, a2 (.newarray .int), none, a0 (.putfield 43) 3 56 0 3 7 0, none, none, a1 (.aload_n 0), a2 (.bipush 8), none, a2 (.newarray .int), none, a0 (.putfield 46) 3 57 0 3 8 0, none, none, a1 (.iconst 0), a1 (.istore_n 1), a1 (.iload_n 1), a1 (.iconst 4), a3 (.if_icmp .ge 22), none, none, a1 (.aload_n 0), a0 (.getfield 31) 3 53 0 3 4 0, none, none],
  [a1 (.iload_n 1), a0 (.new 29) 3 40 4 0 0 0, none, none, a1 (.dup), a0 (.invokespecial 49) 3 41 15 4 1 0, none, none, a1 (.aastore), a3 (.iinc 1 1), none, none, a3 (.goto (-21)), none, none, a1 (.return_)]]
/-- 1: java/lang/Object.new -/
noncomputable def mk_1 : List (List (Option mEnt)) := []
/-- 2: EnvyRust$Town.new -/
noncomputable def mk_2 : List (List (Option mEnt)) := [[a1 (.aload_n 0), a0 (.invokespecial 3) 3 5 20 0 0 0, none, none, a1 (.aload_n 0), a2 (.bipush 6), none, a2 (.bipush 8), none, a0 (.multianewarray 11 2) 4 6 6 3 0 0, none, none, none, a0 (.putfield 13) 3 7 0 2 0 0, none, none, a1 (.aload_n 0), a2 (.bipush 7), none, a2 (.bipush 8), none, a0 (.multianewarray 11 2) 4 6 6 3 0 0, none, none, none, a0 (.putfield 16) 3 10 0 2 1 0, none, none, a1 (.aload_n 0), a2 (.bipush 10), none, a2 (.newarray .int)],
  [none, a0 (.putfield 19) 3 13 0 2 2 0, none, none, a1 (.aload_n 0), a1 (.iconst 0), a0 (.putfield 23) 3 15 0 2 3 0, none, none, a1 (.aload_n 0), a1 (.iconst 0), a0 (.putfield 27) 3 18 0 2 4 0, none, none, a1 (.aload_n 0), a1 (.iconst 0), a0 (.putfield 30) 3 21 0 2 5 0, none, none, a1 (.aload_n 0), a1 (.iconst 1), a0 (.putfield 33) 3 23 0 2 6 0, none, none, a1 (.aload_n 0), a1 (.iconst (-1)), a0 (.putfield 36) 3 25 0 2 7 0, none, none, a1 (.iconst 0), a1 (.istore_n 1), a1 (.iload_n 1)],
  [a2 (.bipush 10), none, a3 (.if_icmp .ge 16), none, none, a1 (.aload_n 0), a0 (.getfield 19) 3 13 0 2 2 0, none, none, a1 (.iload_n 1), a1 (.iconst (-1)), a1 (.iastore), a3 (.iinc 1 1), none, none, a3 (.goto (-16)), none, none, a1 (.return_)]]
/-- 3: EnvyRust$TextReader.new -/
noncomputable def mk_3 : List (List (Option mEnt)) := [[a1 (.aload_n 0), a0 (.invokespecial 3) 3 29 20 0 0 0, none, none, a1 (.aload_n 0), a2 (.bipush 120), none, a2 (.newarray .byte), none, a0 (.putfield 9) 3 30 0 1 0 0, none, none, a1 (.aload_n 0), a1 (.iconst 0), a0 (.putfield 15) 3 31 0 1 1 0, none, none, a1 (.aload_n 0), a1 (.iconst 0), a0 (.putfield 19) 3 33 0 1 2 0, none, none, a1 (.aload_n 0), a1 (.iconst 0), a0 (.putfield 22) 3 34 0 1 3 0, none, none, a1 (.aload_n 0), a1 (.iconst 0), a0 (.putfield 25) 3 35 0 1 4 0, none, none],
  [a1 (.aload_n 0), a1 (.iconst 0), a0 (.putfield 28) 3 36 0 1 5 0, none, none, a1 (.aload_n 0), a1 (.iconst (-1)), a0 (.putfield 31) 3 37 0 1 6 0, none, none, a1 (.return_)]]
/-- 4: EnvyRust$Sheet.new -/
noncomputable def mk_4 : List (List (Option mEnt)) := [[a1 (.aload_n 0), a0 (.invokespecial 3) 3 42 20 0 0 0, none, none, a1 (.aload_n 0), a2 (.bipush 40), none, a2 (.newarray .int), none, a0 (.putfield 9) 3 43 0 0 0 0, none, none, a1 (.aload_n 0), a1 (.iconst 0), a0 (.putfield 15) 3 45 0 0 1 0, none, none, a1 (.aload_n 0), a1 (.iconst 0), a0 (.putfield 19) 3 47 0 0 2 0, none, none, a1 (.return_)]]
/-- 5: EnvyRust.thing -/
noncomputable def mk_5 : List (List (Option mEnt)) := [[a1 (.iload_n 1), a1 (.iconst 0), a1 (.iconst 3), a0 (.invokestatic 50) 3 59 12 6 3 0, none, none, a3 (.ifCond .eq 13), none, none, a1 (.iload_n 2), a1 (.iconst 0), a2 (.bipush 15), none, a0 (.invokestatic 50) 3 59 12 6 3 0, none, none, a3 (.ifCond .ne 10), none, none, a1 (.aload_n 0), a0 (.ldc 54) 2 60 2 0 0 (-1000001), none, a0 (.invokevirtual 55) 3 61 10 7 2 0, none, none, a1 (.ireturn), a1 (.aload_n 0), a0 (.getfield 10) 3 49 0 3 0 0, none, none, a0 (.getfield 59) 3 16 1 2 3 0, none],
  [none, a2 (.bipush 8), none, a3 (.if_icmp .lt 10), none, none, a1 (.aload_n 0), a0 (.ldc 63) 2 62 2 0 0 (-1000002), none, a0 (.invokevirtual 55) 3 61 10 7 2 0, none, none, a1 (.ireturn), a1 (.aload_n 0), a0 (.getfield 10) 3 49 0 3 0 0, none, none, a1 (.iload_n 1), a1 (.iload_n 2), a0 (.invokevirtual 64) 3 63 11 8 3 0, none, none, a1 (.ireturn)]]
/-- 6: EnvyRust.between -/
noncomputable def mk_6 : List (List (Option mEnt)) := [[a1 (.iload_n 0), a1 (.iload_n 1), a3 (.if_icmp .lt 12), none, none, a1 (.iload_n 0), a1 (.iload_n 2), a3 (.if_icmp .gt 7), none, none, a1 (.iconst 1), a3 (.goto 4), none, none, a1 (.iconst 0), a1 (.ireturn)]]
/-- 7: EnvyRust.told -/
noncomputable def mk_7 : List (List (Option mEnt)) := [[a0 (.ldc 54) 2 60 2 0 0 (-1000001), none, a1 (.iload_n 1), a1 (.isub), a1 (.istore_n 2), a1 (.iload_n 2), a1 (.iconst 0), a2 (.bipush 6), none, a0 (.invokestatic 50) 3 59 12 6 3 0, none, none, a3 (.ifCond .eq 13), none, none, a1 (.aload_n 0), a0 (.getfield 35) 3 54 0 3 5 0, none, none, a1 (.iload_n 2), a1 (.dup2), a1 (.iaload), a1 (.iconst 1), a1 (.iadd), a1 (.iastore), a1 (.iload_n 1), a1 (.ireturn)]]
/-- 8: EnvyRust$Town.addThing -/
noncomputable def mk_8 : List (List (Option mEnt)) := [[a1 (.aload_n 0), a0 (.getfield 23) 3 15 0 2 3 0, none, none, a1 (.istore_n 3), a1 (.aload_n 0), a1 (.dup), a0 (.getfield 23) 3 15 0 2 3 0, none, none, a1 (.iconst 1), a1 (.iadd), a0 (.putfield 23) 3 15 0 2 3 0, none, none, a1 (.aload_n 0), a0 (.getfield 13) 3 7 0 2 0 0, none, none, a1 (.iconst 0), a1 (.aaload), a1 (.iload_n 3), a1 (.iload_n 1), a1 (.iastore), a1 (.aload_n 0), a0 (.getfield 13) 3 7 0 2 0 0, none, none, a1 (.iconst 1), a1 (.aaload), a1 (.iload_n 3), a1 (.iload_n 2)],
  [a1 (.iastore), a1 (.aload_n 0), a0 (.getfield 13) 3 7 0 2 0 0, none, none, a1 (.iconst 2), a1 (.aaload), a1 (.iload_n 3), a2 (.bipush 100), none, a1 (.iastore), a1 (.aload_n 0), a0 (.getfield 13) 3 7 0 2 0 0, none, none, a1 (.iconst 3), a1 (.aaload), a1 (.iload_n 3), a1 (.iconst 0), a1 (.iastore), a1 (.aload_n 0), a0 (.getfield 13) 3 7 0 2 0 0, none, none, a1 (.iconst 4), a1 (.aaload), a1 (.iload_n 3), a1 (.iconst (-1)), a1 (.iastore), a1 (.aload_n 0), a0 (.getfield 13) 3 7 0 2 0 0, none],
  [none, a1 (.iconst 5), a1 (.aaload), a1 (.iload_n 3), a1 (.iconst (-1)), a1 (.iastore), a1 (.iload_n 3), a1 (.ireturn)]]
/-- 9: EnvyRust.thingOf -/
noncomputable def mk_9 : List (List (Option mEnt)) := [[a1 (.aload_n 0), a0 (.getfield 10) 3 49 0 3 0 0, none, none, a1 (.iload_n 1), a0 (.invokevirtual 68) 3 65 11 10 2 0, none, none, a3 (.ifCond .eq 13), none, none, a1 (.iload_n 2), a1 (.iconst 0), a2 (.bipush 6), none, a0 (.invokestatic 50) 3 59 12 6 3 0, none, none, a3 (.ifCond .ne 10), none, none, a1 (.aload_n 0), a0 (.ldc 54) 2 60 2 0 0 (-1000001), none, a0 (.invokevirtual 55) 3 61 10 7 2 0, none, none, a1 (.ireturn), a1 (.iload_n 2), a2 (.bipush 6), none, a3 (.if_icmp .ne 14)],
  [none, none, a1 (.aload_n 0), a0 (.getfield 10) 3 49 0 3 0 0, none, none, a1 (.iload_n 1), a0 (.invokevirtual 72) 3 67 11 11 2 0, none, none, a3 (.goto 14), none, none, a1 (.aload_n 0), a0 (.getfield 10) 3 49 0 3 0 0, none, none, a0 (.getfield 75) 3 8 1 2 0 0, none, none, a1 (.iload_n 2), a1 (.aaload), a1 (.iload_n 1), a1 (.iaload), a1 (.ireturn)]]
/-- 10: EnvyRust$Town.isThing -/
noncomputable def mk_10 : List (List (Option mEnt)) := [[a1 (.iload_n 1), a1 (.iconst 0), a1 (.aload_n 0), a0 (.getfield 23) 3 15 0 2 3 0, none, none, a1 (.iconst 1), a1 (.isub), a0 (.invokestatic 45) 3 66 13 6 3 0, none, none, a1 (.ireturn)]]
/-- 11: EnvyRust$Town.wearOf -/
noncomputable def mk_11 : List (List (Option mEnt)) := [[a1 (.iconst 0), a1 (.istore_n 2), a1 (.aload_n 0), a0 (.getfield 13) 3 7 0 2 0 0, none, none, a1 (.iconst 1), a1 (.aaload), a1 (.iload_n 1), a1 (.iaload), a1 (.istore_n 3), a1 (.iconst 0), a2 (.istore 4), none, a2 (.iload 4), none, a1 (.aload_n 0), a0 (.getfield 27) 3 18 0 2 4 0, none, none, a3 (.if_icmp .ge 32), none, none, a1 (.aload_n 0), a0 (.getfield 16) 3 10 0 2 1 0, none, none, a1 (.iconst 1), a1 (.aaload), a2 (.iload 4), none, a1 (.iaload)],
  [a1 (.iload_n 3), a3 (.if_icmp .ne 13), none, none, a1 (.iload_n 2), a1 (.aload_n 0), a2 (.iload 4), none, a1 (.iload_n 1), a0 (.invokevirtual 70) 3 68 10 12 3 0, none, none, a1 (.iadd), a1 (.istore_n 2), a3 (.iinc 4 1), none, none, a3 (.goto (-35)), none, none, a1 (.iload_n 2), a1 (.aload_n 0), a0 (.getfield 13) 3 7 0 2 0 0, none, none, a1 (.iconst 2), a1 (.aaload), a1 (.iload_n 1), a1 (.iaload), a0 (.invokestatic 73) 3 73 25 0 0 0, none, none],
  [a1 (.ireturn)]]
/-- 12: EnvyRust$Town.envyOf -/
noncomputable def mk_12 : List (List (Option mEnt)) := [[a1 (.aload_n 0), a0 (.getfield 13) 3 7 0 2 0 0, none, none, a1 (.iconst 4), a1 (.aaload), a1 (.iload_n 2), a1 (.iaload), a1 (.istore_n 3), a1 (.iload_n 3), a1 (.iload_n 1), a3 (.if_icmp .eq 11), none, none, a1 (.iload_n 1), a1 (.aload_n 0), a0 (.getfield 36) 3 25 0 2 7 0, none, none, a3 (.if_icmp .ne 7), none, none, a1 (.iconst 0), a3 (.goto 10), none, none, a1 (.aload_n 0), a1 (.iload_n 3), a1 (.iload_n 1), a1 (.iload_n 2), a0 (.invokevirtual 53) 3 69 10 13 4 0, none],
  [none, a1 (.ireturn)]]
/-- 13: EnvyRust$Town.envyIfOwnedBy -/
noncomputable def mk_13 : List (List (Option mEnt)) := [[a1 (.aload_n 0), a0 (.getfield 13) 3 7 0 2 0 0, none, none, a1 (.iconst 2), a1 (.aaload), a1 (.iload_n 3), a1 (.iaload), a2 (.istore 4), none, a2 (.iload 4), none, a3 (.ifCond .ne 5), none, none, a1 (.iconst 0), a1 (.ireturn), a1 (.aload_n 0), a0 (.getfield 16) 3 10 0 2 1 0, none, none, a1 (.iconst 3), a1 (.aload_n 0), a0 (.getfield 13) 3 7 0 2 0 0, none, none, a1 (.iconst 0), a1 (.aaload), a1 (.iload_n 3), a1 (.iaload), a1 (.iadd), a1 (.aaload)],
  [a1 (.iload_n 2), a1 (.iaload), a1 (.aload_n 0), a0 (.getfield 13) 3 7 0 2 0 0, none, none, a1 (.iconst 3), a1 (.aaload), a1 (.iload_n 3), a1 (.iaload), a1 (.isub), a2 (.istore 5), none, a1 (.iload_n 1), a1 (.iconst (-1)), a3 (.if_icmp .eq 22), none, none, a1 (.aload_n 0), a0 (.getfield 16) 3 10 0 2 1 0, none, none, a1 (.iconst 0), a1 (.aaload), a1 (.iload_n 1), a1 (.iaload), a1 (.iconst 2), a0 (.invokestatic 57) 3 70 13 14 2 0, none, none, a3 (.ifCond .eq 7), none],
  [none, a1 (.iconst 1), a3 (.goto 4), none, none, a1 (.iconst 0), a2 (.istore 6), none, a2 (.iload 5), none, a2 (.iload 6), none, a3 (.ifCond .eq 7), none, none, a1 (.iconst 2), a3 (.goto 4), none, none, a1 (.iconst 0), a1 (.iadd), a2 (.istore 7), none, a1 (.aload_n 0), a0 (.getfield 16) 3 10 0 2 1 0, none, none, a1 (.iconst 0), a1 (.aaload), a1 (.iload_n 2), a1 (.iaload), a0 (.tableswitch 104 1 6 #[37, 46, 53, 62, 77, 86]) 37 0 0 0 0 0],
  [none, none, none, none, none, none, none, none, none, none, none, none, none, none, none, none, none, none, none, none, none, none, none, none, none, none, none, none, none, none, none, none],
  [none, none, none, none, a1 (.iconst 0), a2 (.iload 5), none, a1 (.iconst 2), a1 (.idiv), a0 (.invokestatic 61) 3 72 24 0 0 0, none, none, a1 (.ireturn), a1 (.iconst 0), a2 (.iload 7), none, a0 (.invokestatic 61) 3 72 24 0 0 0, none, none, a1 (.ireturn), a1 (.iconst 0), a2 (.iload 7), none, a1 (.iconst 3), a1 (.isub), a0 (.invokestatic 61) 3 72 24 0 0 0, none, none, a1 (.ireturn), a1 (.iconst 0), a2 (.iload 7), none],
  [a1 (.iconst 3), a1 (.isub), a2 (.iload 4), none, a2 (.bipush 100), none, a1 (.idiv), a1 (.iadd), a0 (.invokestatic 61) 3 72 24 0 0 0, none, none, a1 (.ireturn), a1 (.iconst 0), a2 (.iload 5), none, a1 (.iconst 2), a1 (.imul), a0 (.invokestatic 61) 3 72 24 0 0 0, none, none, a1 (.ireturn), a1 (.iload_n 1), a1 (.iconst (-1)), a3 (.if_icmp .ne 7), none, none, a1 (.iconst 0), a3 (.goto 11), none, none, a1 (.iconst 0), a2 (.iload 5)],
  [none, a1 (.iconst 2), a1 (.idiv), a0 (.invokestatic 61) 3 72 24 0 0 0, none, none, a1 (.ireturn), a1 (.iconst 0), a2 (.iload 5), none, a0 (.invokestatic 61) 3 72 24 0 0 0, none, none, a1 (.ireturn)]]
/-- 14: EnvyRust.isOrUnder -/
noncomputable def mk_14 : List (List (Option mEnt)) := [[a1 (.iload_n 0), a1 (.istore_n 2), a1 (.iconst 0), a1 (.istore_n 3), a1 (.iload_n 3), a2 (.bipush 7), none, a3 (.if_icmp .ge 32), none, none, a1 (.iload_n 2), a3 (.ifCond .lt 28), none, none, a1 (.iload_n 2), a2 (.bipush 7), none, a3 (.if_icmp .ge 22), none, none, a1 (.iload_n 2), a1 (.iload_n 1), a3 (.if_icmp .ne 5), none, none, a1 (.iconst 1), a1 (.ireturn), a0 (.getstatic 279) 3 71 7 0 0 0, none, none, a1 (.iload_n 2), a1 (.iaload)],
  [a1 (.istore_n 2), a3 (.iinc 3 1), none, none, a3 (.goto (-32)), none, none, a1 (.iconst 0), a1 (.ireturn)]]
/-- 15: java/lang/Math.max -/
noncomputable def mk_15 : List (List (Option mEnt)) := []
/-- 16: java/lang/Math.min -/
noncomputable def mk_16 : List (List (Option mEnt)) := []
/-- 17: EnvyRust.forge -/
noncomputable def mk_17 : List (List (Option mEnt)) := [[a1 (.aload_n 0), a0 (.getfield 10) 3 49 0 3 0 0, none, none, a1 (.iload_n 1), a0 (.invokevirtual 68) 3 65 11 10 2 0, none, none, a3 (.ifCond .eq 13), none, none, a1 (.aload_n 0), a1 (.iload_n 1), a1 (.iload_n 2), a1 (.iload_n 3), a0 (.invokevirtual 79) 3 75 10 18 4 0, none, none, a3 (.ifCond .ne 10), none, none, a1 (.aload_n 0), a0 (.ldc 54) 2 60 2 0 0 (-1000001), none, a0 (.invokevirtual 55) 3 61 10 7 2 0, none, none, a1 (.ireturn), a1 (.iload_n 2), a1 (.iconst 5), a3 (.if_icmp .ne 30), none],
  [none, a1 (.iload_n 3), a1 (.iconst (-1)), a3 (.if_icmp .eq 25), none, none, a1 (.aload_n 0), a0 (.getfield 10) 3 49 0 3 0 0, none, none, a1 (.iload_n 1), a0 (.invokevirtual 82) 3 77 11 20 2 0, none, none, a1 (.iload_n 3), a0 (.invokestatic 85) 3 79 12 21 2 0, none, none, a3 (.ifCond .eq 10), none, none, a1 (.aload_n 0), a0 (.ldc 89) 2 80 2 0 0 (-1000005), none, a0 (.invokevirtual 55) 3 61 10 7 2 0, none, none, a1 (.ireturn), a1 (.aload_n 0), a0 (.getfield 10) 3 49 0 3 0 0, none, none],
  [a0 (.getfield 75) 3 8 1 2 0 0, none, none, a1 (.iload_n 2), a1 (.aaload), a1 (.iload_n 1), a1 (.iaload), a2 (.istore 4), none, a1 (.aload_n 0), a0 (.getfield 10) 3 49 0 3 0 0, none, none, a0 (.getfield 75) 3 8 1 2 0 0, none, none, a1 (.iload_n 2), a1 (.aaload), a1 (.iload_n 1), a1 (.iload_n 3), a1 (.iastore), a2 (.iload 4), none, a1 (.ireturn)]]
/-- 18: EnvyRust.forgeable -/
noncomputable def mk_18 : List (List (Option mEnt)) := [[a1 (.iload_n 2), a0 (.tableswitch 120 0 5 #[39, 46, 54, 63, 71, 93]) 39 0 0 0 0 0, none, none, none, none, none, none, none, none, none, none, none, none, none, none, none, none, none, none, none, none, none, none, none, none, none, none, none, none, none, none],
  [none, none, none, none, none, none, none, none, a1 (.iload_n 3), a1 (.iconst 0), a1 (.iconst 3), a0 (.invokestatic 50) 3 59 12 6 3 0, none, none, a1 (.ireturn), a1 (.iload_n 3), a1 (.iconst 0), a2 (.bipush 15), none, a0 (.invokestatic 50) 3 59 12 6 3 0, none, none, a1 (.ireturn), a1 (.iload_n 3), a1 (.iconst 0), a3 (.sipush 999), none, none, a0 (.invokestatic 50) 3 59 12 6 3 0, none, none, a1 (.ireturn)],
  [a1 (.iload_n 3), a1 (.iconst 0), a2 (.bipush 9), none, a0 (.invokestatic 50) 3 59 12 6 3 0, none, none, a1 (.ireturn), a1 (.iload_n 3), a1 (.iconst (-1)), a3 (.if_icmp .eq 14), none, none, a1 (.aload_n 0), a0 (.getfield 10) 3 49 0 3 0 0, none, none, a1 (.iload_n 3), a0 (.invokevirtual 90) 3 76 11 19 2 0, none, none, a3 (.ifCond .eq 7), none, none, a1 (.iconst 1), a3 (.goto 4), none, none, a1 (.iconst 0), a1 (.ireturn), a1 (.iload_n 3), a1 (.iconst (-1))],
  [a3 (.if_icmp .eq 19), none, none, a1 (.aload_n 0), a0 (.getfield 10) 3 49 0 3 0 0, none, none, a1 (.iload_n 3), a0 (.invokevirtual 68) 3 65 11 10 2 0, none, none, a3 (.ifCond .eq 12), none, none, a1 (.iload_n 3), a1 (.iload_n 1), a3 (.if_icmp .eq 7), none, none, a1 (.iconst 1), a3 (.goto 4), none, none, a1 (.iconst 0), a1 (.ireturn), a1 (.iconst 0), a1 (.ireturn)]]
/-- 19: EnvyRust$Town.isPerson -/
noncomputable def mk_19 : List (List (Option mEnt)) := [[a1 (.iload_n 1), a1 (.iconst 0), a1 (.aload_n 0), a0 (.getfield 27) 3 18 0 2 4 0, none, none, a1 (.iconst 1), a1 (.isub), a0 (.invokestatic 45) 3 66 13 6 3 0, none, none, a1 (.ireturn)]]
/-- 20: EnvyRust$Town.falling -/
noncomputable def mk_20 : List (List (Option mEnt)) := [[a1 (.iconst 1), a1 (.iload_n 1), a1 (.ishl), a1 (.istore_n 2), a1 (.iconst 1), a1 (.istore_n 3), a1 (.iconst 0), a2 (.istore 4), none, a2 (.iload 4), none, a2 (.bipush 8), none, a3 (.if_icmp .ge 77), none, none, a1 (.iload_n 3), a3 (.ifCond .eq 73), none, none, a1 (.iconst 0), a1 (.istore_n 3), a1 (.iconst 0), a2 (.istore 5), none, a2 (.iload 5), none, a1 (.aload_n 0), a0 (.getfield 23) 3 15 0 2 3 0, none, none, a3 (.if_icmp .ge 53)],
  [none, none, a1 (.aload_n 0), a0 (.getfield 13) 3 7 0 2 0 0, none, none, a1 (.iconst 5), a1 (.aaload), a2 (.iload 5), none, a1 (.iaload), a2 (.istore 6), none, a2 (.iload 6), none, a1 (.iconst (-1)), a3 (.if_icmp .eq 30), none, none, a1 (.iload_n 2), a2 (.iload 6), none, a0 (.invokestatic 67) 3 78 13 21 2 0, none, none, a3 (.ifCond .eq 21), none, none, a1 (.iload_n 2), a2 (.iload 5), none, a0 (.invokestatic 67) 3 78 13 21 2 0],
  [none, none, a3 (.ifCond .ne 12), none, none, a1 (.iload_n 2), a1 (.iconst 1), a2 (.iload 5), none, a1 (.ishl), a1 (.ior), a1 (.istore_n 2), a1 (.iconst 1), a1 (.istore_n 3), a3 (.iinc 5 1), none, none, a3 (.goto (-56)), none, none, a3 (.iinc 4 1), none, none, a3 (.goto (-78)), none, none, a1 (.iload_n 2), a1 (.ireturn)]]
/-- 21: EnvyRust.contains -/
noncomputable def mk_21 : List (List (Option mEnt)) := [[a1 (.iload_n 0), a1 (.iload_n 1), a1 (.ishr), a1 (.iconst 1), a1 (.iand), a1 (.iconst 1), a3 (.if_icmp .ne 7), none, none, a1 (.iconst 1), a3 (.goto 4), none, none, a1 (.iconst 0), a1 (.ireturn)]]
/-- 22: EnvyRust.person -/
noncomputable def mk_22 : List (List (Option mEnt)) := [[a1 (.iload_n 1), a1 (.iconst 0), a2 (.bipush 6), none, a0 (.invokestatic 50) 3 59 12 6 3 0, none, none, a3 (.ifCond .eq 13), none, none, a1 (.iload_n 2), a1 (.iconst 0), a2 (.bipush 15), none, a0 (.invokestatic 50) 3 59 12 6 3 0, none, none, a3 (.ifCond .ne 10), none, none, a1 (.aload_n 0), a0 (.ldc 54) 2 60 2 0 0 (-1000001), none, a0 (.invokevirtual 55) 3 61 10 7 2 0, none, none, a1 (.ireturn), a1 (.aload_n 0), a0 (.getfield 10) 3 49 0 3 0 0, none, none, a0 (.getfield 93) 3 20 1 2 4 0],
  [none, none, a2 (.bipush 8), none, a3 (.if_icmp .lt 10), none, none, a1 (.aload_n 0), a0 (.ldc 63) 2 62 2 0 0 (-1000002), none, a0 (.invokevirtual 55) 3 61 10 7 2 0, none, none, a1 (.ireturn), a1 (.aload_n 0), a0 (.getfield 10) 3 49 0 3 0 0, none, none, a1 (.iload_n 1), a1 (.iload_n 2), a0 (.invokevirtual 96) 3 82 11 23 3 0, none, none, a1 (.ireturn)]]
/-- 23: EnvyRust$Town.addPerson -/
noncomputable def mk_23 : List (List (Option mEnt)) := [[a1 (.aload_n 0), a0 (.getfield 27) 3 18 0 2 4 0, none, none, a1 (.istore_n 3), a1 (.aload_n 0), a1 (.dup), a0 (.getfield 27) 3 18 0 2 4 0, none, none, a1 (.iconst 1), a1 (.iadd), a0 (.putfield 27) 3 18 0 2 4 0, none, none, a1 (.aload_n 0), a0 (.getfield 16) 3 10 0 2 1 0, none, none, a1 (.iconst 0), a1 (.aaload), a1 (.iload_n 3), a1 (.iload_n 1), a1 (.iastore), a1 (.aload_n 0), a0 (.getfield 16) 3 10 0 2 1 0, none, none, a1 (.iconst 1), a1 (.aaload), a1 (.iload_n 3), a1 (.iload_n 2)],
  [a1 (.iastore), a1 (.aload_n 0), a0 (.getfield 16) 3 10 0 2 1 0, none, none, a1 (.iconst 2), a1 (.aaload), a1 (.iload_n 3), a1 (.iconst 1), a1 (.iastore), a1 (.iconst 0), a2 (.istore 4), none, a2 (.iload 4), none, a1 (.iconst 4), a3 (.if_icmp .ge 21), none, none, a1 (.aload_n 0), a0 (.getfield 16) 3 10 0 2 1 0, none, none, a1 (.iconst 3), a2 (.iload 4), none, a1 (.iadd), a1 (.aaload), a1 (.iload_n 3), a1 (.iconst 1), a1 (.iastore), a3 (.iinc 4 1)],
  [none, none, a3 (.goto (-21)), none, none, a1 (.iload_n 3), a1 (.ireturn)]]
/-- 24: EnvyRust.of -/
noncomputable def mk_24 : List (List (Option mEnt)) := [[a1 (.aload_n 0), a0 (.getfield 10) 3 49 0 3 0 0, none, none, a1 (.iload_n 1), a0 (.invokevirtual 90) 3 76 11 19 2 0, none, none, a3 (.ifCond .eq 13), none, none, a1 (.iload_n 2), a1 (.iconst 0), a2 (.bipush 7), none, a0 (.invokestatic 50) 3 59 12 6 3 0, none, none, a3 (.ifCond .ne 10), none, none, a1 (.aload_n 0), a0 (.ldc 54) 2 60 2 0 0 (-1000001), none, a0 (.invokevirtual 55) 3 61 10 7 2 0, none, none, a1 (.ireturn), a1 (.iload_n 2), a2 (.bipush 7), none, a3 (.if_icmp .ne 14)],
  [none, none, a1 (.aload_n 0), a0 (.getfield 10) 3 49 0 3 0 0, none, none, a1 (.iload_n 1), a0 (.invokevirtual 99) 3 84 11 25 2 0, none, none, a3 (.goto 14), none, none, a1 (.aload_n 0), a0 (.getfield 10) 3 49 0 3 0 0, none, none, a0 (.getfield 102) 3 12 1 2 1 0, none, none, a1 (.iload_n 2), a1 (.aaload), a1 (.iload_n 1), a1 (.iaload), a1 (.ireturn)]]
/-- 25: EnvyRust$Town.ownedBy -/
noncomputable def mk_25 : List (List (Option mEnt)) := [[a1 (.iconst 0), a1 (.istore_n 2), a1 (.iconst 0), a1 (.istore_n 3), a1 (.iload_n 3), a1 (.aload_n 0), a0 (.getfield 23) 3 15 0 2 3 0, none, none, a3 (.if_icmp .ge 27), none, none, a1 (.aload_n 0), a0 (.getfield 13) 3 7 0 2 0 0, none, none, a1 (.iconst 4), a1 (.aaload), a1 (.iload_n 3), a1 (.iaload), a1 (.iload_n 1), a3 (.if_icmp .ne 9), none, none, a1 (.iload_n 2), a1 (.iconst 1), a1 (.iload_n 3), a1 (.ishl), a1 (.ior), a1 (.istore_n 2), a3 (.iinc 3 1), none],
  [none, a3 (.goto (-29)), none, none, a1 (.iload_n 2), a1 (.ireturn)]]
/-- 26: EnvyRust.change -/
noncomputable def mk_26 : List (List (Option mEnt)) := [[a1 (.aload_n 0), a0 (.getfield 10) 3 49 0 3 0 0, none, none, a1 (.iload_n 1), a0 (.invokevirtual 90) 3 76 11 19 2 0, none, none, a3 (.ifCond .eq 11), none, none, a1 (.iload_n 2), a1 (.iload_n 3), a0 (.invokestatic 105) 3 86 12 27 2 0, none, none, a3 (.ifCond .ne 10), none, none, a1 (.aload_n 0), a0 (.ldc 54) 2 60 2 0 0 (-1000001), none, a0 (.invokevirtual 55) 3 61 10 7 2 0, none, none, a1 (.ireturn), a1 (.aload_n 0), a0 (.getfield 10) 3 49 0 3 0 0, none, none, a0 (.getfield 102) 3 12 1 2 1 0, none],
  [none, a1 (.iload_n 2), a1 (.aaload), a1 (.iload_n 1), a1 (.iaload), a2 (.istore 4), none, a1 (.aload_n 0), a0 (.getfield 10) 3 49 0 3 0 0, none, none, a0 (.getfield 102) 3 12 1 2 1 0, none, none, a1 (.iload_n 2), a1 (.aaload), a1 (.iload_n 1), a1 (.iload_n 3), a1 (.iastore), a2 (.iload 4), none, a1 (.ireturn)]]
/-- 27: EnvyRust.changeable -/
noncomputable def mk_27 : List (List (Option mEnt)) := [[a1 (.iload_n 0), a0 (.tableswitch 43 0 2 #[27, 35, 35]) 27 0 0 0 0 0, none, none, none, none, none, none, none, none, none, none, none, none, none, none, none, none, none, none, none, none, none, none, none, none, none, none, a1 (.iload_n 1), a1 (.iconst 0), a2 (.bipush 6), none],
  [a0 (.invokestatic 50) 3 59 12 6 3 0, none, none, a1 (.ireturn), a1 (.iload_n 1), a1 (.iconst 0), a2 (.bipush 15), none, a0 (.invokestatic 50) 3 59 12 6 3 0, none, none, a1 (.ireturn), a1 (.iload_n 0), a1 (.iconst 3), a2 (.bipush 6), none, a0 (.invokestatic 50) 3 59 12 6 3 0, none, none, a3 (.ifCond .eq 17), none, none, a1 (.iload_n 1), a1 (.iconst 0), a2 (.bipush 9), none, a0 (.invokestatic 50) 3 59 12 6 3 0, none, none, a3 (.ifCond .eq 7), none, none],
  [a1 (.iconst 1), a3 (.goto 4), none, none, a1 (.iconst 0), a1 (.ireturn)]]
/-- 28: EnvyRust.envy -/
noncomputable def mk_28 : List (List (Option mEnt)) := [[a1 (.aload_n 0), a0 (.getfield 10) 3 49 0 3 0 0, none, none, a1 (.iload_n 1), a0 (.invokevirtual 90) 3 76 11 19 2 0, none, none, a3 (.ifCond .eq 14), none, none, a1 (.aload_n 0), a0 (.getfield 10) 3 49 0 3 0 0, none, none, a1 (.iload_n 2), a0 (.invokevirtual 68) 3 65 11 10 2 0, none, none, a3 (.ifCond .ne 10), none, none, a1 (.aload_n 0), a0 (.ldc 54) 2 60 2 0 0 (-1000001), none, a0 (.invokevirtual 55) 3 61 10 7 2 0, none, none, a1 (.ireturn), a1 (.aload_n 0), a0 (.getfield 10) 3 49 0 3 0 0, none],
  [none, a1 (.iload_n 1), a1 (.iload_n 2), a0 (.invokevirtual 108) 3 88 11 12 3 0, none, none, a1 (.ireturn)]]
/-- 29: EnvyRust.go -/
noncomputable def mk_29 : List (List (Option mEnt)) := [[a1 (.iload_n 1), a1 (.iconst 1), a2 (.bipush 60), none, a0 (.invokestatic 50) 3 59 12 6 3 0, none, none, a3 (.ifCond .ne 10), none, none, a1 (.aload_n 0), a0 (.ldc 54) 2 60 2 0 0 (-1000001), none, a0 (.invokevirtual 55) 3 61 10 7 2 0, none, none, a1 (.ireturn), a1 (.aload_n 0), a0 (.getfield 10) 3 49 0 3 0 0, none, none, a0 (.getfield 111) 3 22 1 2 5 0, none, none, a1 (.iload_n 1), a1 (.iadd), a0 (.ldc 114) 2 90 2 0 0 99999, none, a3 (.if_icmp .le 10), none, none, a1 (.aload_n 0)],
  [a0 (.ldc 89) 2 80 2 0 0 (-1000005), none, a0 (.invokevirtual 55) 3 61 10 7 2 0, none, none, a1 (.ireturn), a1 (.aload_n 0), a0 (.getfield 10) 3 49 0 3 0 0, none, none, a1 (.iload_n 1), a0 (.invokevirtual 115) 3 91 11 30 2 0, none, none, a1 (.aload_n 0), a0 (.getfield 10) 3 49 0 3 0 0, none, none, a0 (.invokevirtual 119) 3 97 11 35 1 0, none, none, a0 (.invokestatic 123) 3 98 12 36 1 0, none, none, a1 (.ireturn)]]
/-- 30: EnvyRust$Town.passDays -/
noncomputable def mk_30 : List (List (Option mEnt)) := [[a1 (.iconst 0), a1 (.istore_n 2), a1 (.iload_n 2), a1 (.iload_n 1), a3 (.if_icmp .ge 59), none, none, a1 (.iconst 0), a1 (.istore_n 3), a1 (.iload_n 3), a1 (.aload_n 0), a0 (.getfield 23) 3 15 0 2 3 0, none, none, a3 (.if_icmp .ge 25), none, none, a1 (.aload_n 0), a0 (.getfield 13) 3 7 0 2 0 0, none, none, a1 (.iconst 2), a1 (.aaload), a1 (.iload_n 3), a1 (.dup2), a1 (.iaload), a1 (.aload_n 0), a1 (.iload_n 3), a0 (.invokevirtual 76) 3 92 10 11 2 0, none, none, a1 (.isub)],
  [a1 (.iastore), a3 (.iinc 3 1), none, none, a3 (.goto (-27)), none, none, a1 (.aload_n 0), a0 (.invokevirtual 80) 3 93 10 31 1 0, none, none, a1 (.aload_n 0), a0 (.invokevirtual 83) 3 95 10 33 1 0, none, none, a1 (.aload_n 0), a1 (.dup), a0 (.getfield 30) 3 21 0 2 5 0, none, none, a1 (.iconst 1), a1 (.iadd), a0 (.putfield 30) 3 21 0 2 5 0, none, none, a3 (.iinc 2 1), none, none, a3 (.goto (-58)), none, none, a1 (.return_)]]
/-- 31: EnvyRust$Town.fallAll -/
noncomputable def mk_31 : List (List (Option mEnt)) := [[a1 (.iconst 1), a1 (.istore_n 1), a1 (.iconst 0), a1 (.istore_n 2), a1 (.iload_n 2), a2 (.bipush 8), none, a3 (.if_icmp .ge 75), none, none, a1 (.iload_n 1), a3 (.ifCond .eq 71), none, none, a1 (.iconst 0), a1 (.istore_n 1), a1 (.iconst 0), a1 (.istore_n 3), a1 (.iload_n 3), a1 (.aload_n 0), a0 (.getfield 23) 3 15 0 2 3 0, none, none, a3 (.if_icmp .ge 53), none, none, a1 (.aload_n 0), a0 (.getfield 13) 3 7 0 2 0 0, none, none, a1 (.iconst 5), a1 (.aaload)],
  [a1 (.iload_n 3), a1 (.iaload), a2 (.istore 4), none, a2 (.iload 4), none, a1 (.iconst (-1)), a3 (.if_icmp .eq 31), none, none, a1 (.aload_n 0), a2 (.iload 4), none, a0 (.invokevirtual 86) 3 94 10 32 2 0, none, none, a3 (.ifCond .eq 22), none, none, a1 (.aload_n 0), a1 (.iload_n 3), a0 (.invokevirtual 86) 3 94 10 32 2 0, none, none, a3 (.ifCond .ne 14), none, none, a1 (.aload_n 0), a0 (.getfield 13) 3 7 0 2 0 0, none, none, a1 (.iconst 2)],
  [a1 (.aaload), a1 (.iload_n 3), a1 (.iconst 0), a1 (.iastore), a1 (.iconst 1), a1 (.istore_n 1), a3 (.iinc 3 1), none, none, a3 (.goto (-55)), none, none, a3 (.iinc 2 1), none, none, a3 (.goto (-75)), none, none, a1 (.return_)]]
/-- 32: EnvyRust$Town.isGone -/
noncomputable def mk_32 : List (List (Option mEnt)) := [[a1 (.aload_n 0), a0 (.getfield 13) 3 7 0 2 0 0, none, none, a1 (.iconst 2), a1 (.aaload), a1 (.iload_n 1), a1 (.iaload), a3 (.ifCond .ne 7), none, none, a1 (.iconst 1), a3 (.goto 4), none, none, a1 (.iconst 0), a1 (.ireturn)]]
/-- 33: EnvyRust$Town.walkAll -/
noncomputable def mk_33 : List (List (Option mEnt)) := [[a1 (.iconst 0), a1 (.istore_n 1), a1 (.iload_n 1), a1 (.aload_n 0), a0 (.getfield 27) 3 18 0 2 4 0, none, none, a3 (.if_icmp .ge 36), none, none, a1 (.aload_n 0), a0 (.getfield 16) 3 10 0 2 1 0, none, none, a1 (.iconst 1), a1 (.aaload), a1 (.iload_n 1), a1 (.aload_n 0), a0 (.getfield 16) 3 10 0 2 1 0, none, none, a1 (.iconst 1), a1 (.aaload), a1 (.iload_n 1), a1 (.iaload), a1 (.aload_n 0), a0 (.getfield 16) 3 10 0 2 1 0, none, none, a1 (.iconst 2), a1 (.aaload), a1 (.iload_n 1)],
  [a1 (.iaload), a0 (.invokestatic 90) 3 96 13 34 2 0, none, none, a1 (.iastore), a3 (.iinc 1 1), none, none, a3 (.goto (-38)), none, none, a1 (.return_)]]
/-- 34: EnvyRust.onward -/
noncomputable def mk_34 : List (List (Option mEnt)) := [[a1 (.iload_n 0), a1 (.iload_n 1), a1 (.iadd), a2 (.bipush 16), none, a1 (.irem), a1 (.ireturn)]]
/-- 35: EnvyRust$Town.goneSet -/
noncomputable def mk_35 : List (List (Option mEnt)) := [[a1 (.iconst 0), a1 (.istore_n 1), a1 (.iconst 0), a1 (.istore_n 2), a1 (.iload_n 2), a1 (.aload_n 0), a0 (.getfield 23) 3 15 0 2 3 0, none, none, a3 (.if_icmp .ge 23), none, none, a1 (.aload_n 0), a1 (.iload_n 2), a0 (.invokevirtual 86) 3 94 10 32 2 0, none, none, a3 (.ifCond .eq 9), none, none, a1 (.iload_n 1), a1 (.iconst 1), a1 (.iload_n 2), a1 (.ishl), a1 (.ior), a1 (.istore_n 1), a3 (.iinc 2 1), none, none, a3 (.goto (-25)), none, none],
  [a1 (.iload_n 1), a1 (.ireturn)]]
/-- 36: java/lang/Integer.bitCount -/
noncomputable def mk_36 : List (List (Option mEnt)) := [[a1 (.iload_n 0), a1 (.iload_n 0), a1 (.iconst 1), a1 (.iushr), a0 (.ldc_w 265) 3 99 2 0 0 1431655765, none, none, a1 (.iand), a1 (.isub), a1 (.istore_n 0), a1 (.iload_n 0), a0 (.ldc_w 266) 3 100 2 0 0 858993459, none, none, a1 (.iand), a1 (.iload_n 0), a1 (.iconst 2), a1 (.iushr), a0 (.ldc_w 266) 3 100 2 0 0 858993459, none, none, a1 (.iand), a1 (.iadd), a1 (.istore_n 0), a1 (.iload_n 0), a1 (.iload_n 0), a1 (.iconst 4), a1 (.iushr), a1 (.iadd), a0 (.ldc_w 267) 3 101 2 0 0 252645135, none, none],
  [a1 (.iand), a1 (.istore_n 0), a1 (.iload_n 0), a1 (.iload_n 0), a2 (.bipush 8), none, a1 (.iushr), a1 (.iadd), a1 (.istore_n 0), a1 (.iload_n 0), a1 (.iload_n 0), a2 (.bipush 16), none, a1 (.iushr), a1 (.iadd), a1 (.istore_n 0), a1 (.iload_n 0), a2 (.bipush 63), none, a1 (.iand), a1 (.ireturn)]]
/-- 37: EnvyRust.now -/
noncomputable def mk_37 : List (List (Option mEnt)) := [[a1 (.iload_n 1), a0 (.tableswitch 75 0 4 #[35, 43, 51, 59, 67]) 35 0 0 0 0 0, none, none, none, none, none, none, none, none, none, none, none, none, none, none, none, none, none, none, none, none, none, none, none, none, none, none, none, none, none, none],
  [none, none, none, none, a1 (.aload_n 0), a0 (.getfield 10) 3 49 0 3 0 0, none, none, a0 (.getfield 111) 3 22 1 2 5 0, none, none, a1 (.ireturn), a1 (.aload_n 0), a0 (.getfield 10) 3 49 0 3 0 0, none, none, a0 (.invokevirtual 119) 3 97 11 35 1 0, none, none, a1 (.ireturn), a1 (.aload_n 0), a0 (.getfield 10) 3 49 0 3 0 0, none, none, a0 (.invokevirtual 128) 3 103 11 38 1 0, none, none, a1 (.ireturn), a1 (.aload_n 0), a0 (.getfield 10) 3 49 0 3 0 0, none, none],
  [a0 (.invokevirtual 131) 3 104 11 39 1 0, none, none, a1 (.ireturn), a1 (.aload_n 0), a0 (.getfield 10) 3 49 0 3 0 0, none, none, a0 (.invokevirtual 134) 3 105 11 40 1 0, none, none, a1 (.ireturn), a1 (.aload_n 0), a0 (.ldc 54) 2 60 2 0 0 (-1000001), none, a0 (.invokevirtual 55) 3 61 10 7 2 0, none, none, a1 (.ireturn)]]
/-- 38: EnvyRust$Town.allThick -/
noncomputable def mk_38 : List (List (Option mEnt)) := [[a1 (.iconst 0), a1 (.istore_n 1), a1 (.iconst 0), a1 (.istore_n 2), a1 (.iload_n 2), a1 (.aload_n 0), a0 (.getfield 23) 3 15 0 2 3 0, none, none, a3 (.if_icmp .ge 20), none, none, a1 (.iload_n 1), a1 (.aload_n 0), a0 (.getfield 13) 3 7 0 2 0 0, none, none, a1 (.iconst 2), a1 (.aaload), a1 (.iload_n 2), a1 (.iaload), a1 (.iadd), a1 (.istore_n 1), a3 (.iinc 2 1), none, none, a3 (.goto (-22)), none, none, a1 (.iload_n 1), a1 (.ireturn)]]
/-- 39: EnvyRust$Town.allWear -/
noncomputable def mk_39 : List (List (Option mEnt)) := [[a1 (.iconst 0), a1 (.istore_n 1), a1 (.iconst 0), a1 (.istore_n 2), a1 (.iload_n 2), a1 (.aload_n 0), a0 (.getfield 23) 3 15 0 2 3 0, none, none, a3 (.if_icmp .ge 17), none, none, a1 (.iload_n 1), a1 (.aload_n 0), a1 (.iload_n 2), a0 (.invokevirtual 76) 3 92 10 11 2 0, none, none, a1 (.iadd), a1 (.istore_n 1), a3 (.iinc 2 1), none, none, a3 (.goto (-19)), none, none, a1 (.iload_n 1), a1 (.ireturn)]]
/-- 40: EnvyRust$Town.visited -/
noncomputable def mk_40 : List (List (Option mEnt)) := [[a1 (.iconst 0), a1 (.istore_n 1), a1 (.iconst 0), a1 (.istore_n 2), a1 (.iload_n 2), a1 (.aload_n 0), a0 (.getfield 27) 3 18 0 2 4 0, none, none, a3 (.if_icmp .ge 22), none, none, a1 (.iload_n 1), a1 (.iconst 1), a1 (.aload_n 0), a0 (.getfield 16) 3 10 0 2 1 0, none, none, a1 (.iconst 1), a1 (.aaload), a1 (.iload_n 2), a1 (.iaload), a1 (.ishl), a1 (.ior), a1 (.istore_n 1), a3 (.iinc 2 1), none, none, a3 (.goto (-24)), none, none, a1 (.iconst 0)],
  [a1 (.istore_n 2), a1 (.iconst 0), a1 (.istore_n 3), a1 (.iload_n 3), a1 (.aload_n 0), a0 (.getfield 23) 3 15 0 2 3 0, none, none, a3 (.if_icmp .ge 30), none, none, a1 (.iload_n 1), a1 (.aload_n 0), a0 (.getfield 13) 3 7 0 2 0 0, none, none, a1 (.iconst 1), a1 (.aaload), a1 (.iload_n 3), a1 (.iaload), a0 (.invokestatic 67) 3 78 13 21 2 0, none, none, a3 (.ifCond .eq 9), none, none, a1 (.iload_n 2), a1 (.iconst 1), a1 (.iload_n 3), a1 (.ishl), a1 (.ior), a1 (.istore_n 2)],
  [a3 (.iinc 3 1), none, none, a3 (.goto (-32)), none, none, a1 (.iload_n 2), a1 (.ireturn)]]
/-- 41: EnvyRust.ahead -/
noncomputable def mk_41 : List (List (Option mEnt)) := [[a1 (.aload_n 0), a0 (.getfield 10) 3 49 0 3 0 0, none, none, a1 (.iload_n 1), a0 (.invokevirtual 68) 3 65 11 10 2 0, none, none, a3 (.ifCond .eq 13), none, none, a1 (.iload_n 2), a1 (.iconst 0), a2 (.bipush 100), none, a0 (.invokestatic 50) 3 59 12 6 3 0, none, none, a3 (.ifCond .ne 10), none, none, a1 (.aload_n 0), a0 (.ldc 54) 2 60 2 0 0 (-1000001), none, a0 (.invokevirtual 55) 3 61 10 7 2 0, none, none, a1 (.ireturn), a1 (.aload_n 0), a0 (.invokevirtual 137) 3 107 10 42 1 0, none, none],
  [a1 (.aload_n 0), a0 (.getfield 19) 3 51 0 3 2 0, none, none, a1 (.iload_n 2), a0 (.invokevirtual 115) 3 91 11 30 2 0, none, none, a1 (.aload_n 0), a0 (.getfield 19) 3 51 0 3 2 0, none, none, a0 (.getfield 75) 3 8 1 2 0 0, none, none, a1 (.iconst 2), a1 (.aaload), a1 (.iload_n 1), a1 (.iaload), a1 (.ireturn)]]
/-- 42: EnvyRust.startTrial -/
noncomputable def mk_42 : List (List (Option mEnt)) := [[a1 (.aload_n 0), a0 (.getfield 19) 3 51 0 3 2 0, none, none, a1 (.aload_n 0), a0 (.getfield 10) 3 49 0 3 0 0, none, none, a0 (.invokevirtual 181) 3 108 11 43 2 0, none, none, a1 (.return_)]]
/-- 43: EnvyRust$Town.become -/
noncomputable def mk_43 : List (List (Option mEnt)) := [[a1 (.iconst 0), a1 (.istore_n 2), a1 (.iload_n 2), a2 (.bipush 6), none, a3 (.if_icmp .ge 28), none, none, a1 (.aload_n 1), a0 (.getfield 13) 3 7 0 2 0 0, none, none, a1 (.iload_n 2), a1 (.aaload), a1 (.iconst 0), a1 (.aload_n 0), a0 (.getfield 13) 3 7 0 2 0 0, none, none, a1 (.iload_n 2), a1 (.aaload), a1 (.iconst 0), a2 (.bipush 8), none, a0 (.invokestatic 39) 3 109 21 0 0 0, none, none, a3 (.iinc 2 1), none, none, a3 (.goto (-28)), none],
  [none, a1 (.iconst 0), a1 (.istore_n 2), a1 (.iload_n 2), a2 (.bipush 7), none, a3 (.if_icmp .ge 28), none, none, a1 (.aload_n 1), a0 (.getfield 16) 3 10 0 2 1 0, none, none, a1 (.iload_n 2), a1 (.aaload), a1 (.iconst 0), a1 (.aload_n 0), a0 (.getfield 16) 3 10 0 2 1 0, none, none, a1 (.iload_n 2), a1 (.aaload), a1 (.iconst 0), a2 (.bipush 8), none, a0 (.invokestatic 39) 3 109 21 0 0 0, none, none, a3 (.iinc 2 1), none, none, a3 (.goto (-28))],
  [none, none, a1 (.aload_n 1), a0 (.getfield 19) 3 13 0 2 2 0, none, none, a1 (.iconst 0), a1 (.aload_n 0), a0 (.getfield 19) 3 13 0 2 2 0, none, none, a1 (.iconst 0), a2 (.bipush 10), none, a0 (.invokestatic 39) 3 109 21 0 0 0, none, none, a1 (.aload_n 0), a1 (.aload_n 1), a0 (.getfield 23) 3 15 0 2 3 0, none, none, a0 (.putfield 23) 3 15 0 2 3 0, none, none, a1 (.aload_n 0), a1 (.aload_n 1), a0 (.getfield 27) 3 18 0 2 4 0, none, none, a0 (.putfield 27) 3 18 0 2 4 0, none],
  [none, a1 (.aload_n 0), a1 (.aload_n 1), a0 (.getfield 30) 3 21 0 2 5 0, none, none, a0 (.putfield 30) 3 21 0 2 5 0, none, none, a1 (.aload_n 0), a1 (.aload_n 1), a0 (.getfield 33) 3 23 0 2 6 0, none, none, a0 (.putfield 33) 3 23 0 2 6 0, none, none, a1 (.aload_n 0), a1 (.aload_n 1), a0 (.getfield 36) 3 25 0 2 7 0, none, none, a0 (.putfield 36) 3 25 0 2 7 0, none, none, a1 (.return_)]]
/-- 44: EnvyRust.lasts -/
noncomputable def mk_44 : List (List (Option mEnt)) := [[a1 (.aload_n 0), a0 (.getfield 10) 3 49 0 3 0 0, none, none, a1 (.iload_n 1), a0 (.invokevirtual 68) 3 65 11 10 2 0, none, none, a3 (.ifCond .ne 10), none, none, a1 (.aload_n 0), a0 (.ldc 54) 2 60 2 0 0 (-1000001), none, a0 (.invokevirtual 55) 3 61 10 7 2 0, none, none, a1 (.ireturn), a1 (.aload_n 0), a0 (.invokevirtual 137) 3 107 10 42 1 0, none, none, a1 (.iconst 0), a1 (.istore_n 2), a1 (.iload_n 2), a2 (.bipush 100), none, a3 (.if_icmp .gt 30), none, none, a1 (.aload_n 0), a0 (.getfield 19) 3 51 0 3 2 0],
  [none, none, a1 (.iload_n 1), a0 (.invokevirtual 140) 3 111 11 32 2 0, none, none, a3 (.ifCond .eq 5), none, none, a1 (.iload_n 2), a1 (.ireturn), a1 (.aload_n 0), a0 (.getfield 19) 3 51 0 3 2 0, none, none, a1 (.iconst 1), a0 (.invokevirtual 115) 3 91 11 30 2 0, none, none, a3 (.iinc 2 1), none, none, a3 (.goto (-30)), none, none, a1 (.aload_n 0), a0 (.ldc 143) 2 112 2 0 0 (-1000004), none, a0 (.invokevirtual 55) 3 61 10 7 2 0, none, none, a1 (.ireturn)]]
/-- 45: EnvyRust.gone -/
noncomputable def mk_45 : List (List (Option mEnt)) := [[a1 (.iload_n 1), a1 (.iconst 0), a2 (.bipush 100), none, a0 (.invokestatic 50) 3 59 12 6 3 0, none, none, a3 (.ifCond .ne 10), none, none, a1 (.aload_n 0), a0 (.ldc 54) 2 60 2 0 0 (-1000001), none, a0 (.invokevirtual 55) 3 61 10 7 2 0, none, none, a1 (.ireturn), a1 (.aload_n 0), a0 (.invokevirtual 137) 3 107 10 42 1 0, none, none, a1 (.aload_n 0), a0 (.getfield 19) 3 51 0 3 2 0, none, none, a1 (.iload_n 1), a0 (.invokevirtual 115) 3 91 11 30 2 0, none, none, a1 (.aload_n 0), a0 (.getfield 19) 3 51 0 3 2 0, none],
  [none, a0 (.invokevirtual 119) 3 97 11 35 1 0, none, none, a1 (.ireturn)]]
/-- 46: EnvyRust.worn -/
noncomputable def mk_46 : List (List (Option mEnt)) := [[a1 (.iload_n 1), a1 (.iconst 0), a2 (.bipush 100), none, a0 (.invokestatic 50) 3 59 12 6 3 0, none, none, a3 (.ifCond .ne 10), none, none, a1 (.aload_n 0), a0 (.ldc 54) 2 60 2 0 0 (-1000001), none, a0 (.invokevirtual 55) 3 61 10 7 2 0, none, none, a1 (.ireturn), a1 (.aload_n 0), a0 (.invokevirtual 137) 3 107 10 42 1 0, none, none, a1 (.aload_n 0), a0 (.getfield 19) 3 51 0 3 2 0, none, none, a1 (.iload_n 1), a0 (.invokevirtual 115) 3 91 11 30 2 0, none, none, a1 (.aload_n 0), a0 (.getfield 10) 3 49 0 3 0 0, none],
  [none, a0 (.invokevirtual 128) 3 103 11 38 1 0, none, none, a1 (.aload_n 0), a0 (.getfield 19) 3 51 0 3 2 0, none, none, a0 (.invokevirtual 128) 3 103 11 38 1 0, none, none, a1 (.isub), a1 (.ireturn)]]
/-- 47: EnvyRust.sees -/
noncomputable def mk_47 : List (List (Option mEnt)) := [[a1 (.aload_n 0), a0 (.getfield 10) 3 49 0 3 0 0, none, none, a1 (.iload_n 1), a0 (.invokevirtual 90) 3 76 11 19 2 0, none, none, a3 (.ifCond .eq 14), none, none, a1 (.aload_n 0), a0 (.getfield 10) 3 49 0 3 0 0, none, none, a1 (.iload_n 2), a0 (.invokevirtual 68) 3 65 11 10 2 0, none, none, a3 (.ifCond .ne 10), none, none, a1 (.aload_n 0), a0 (.ldc 54) 2 60 2 0 0 (-1000001), none, a0 (.invokevirtual 55) 3 61 10 7 2 0, none, none, a1 (.ireturn), a1 (.aload_n 0), a0 (.getfield 10) 3 49 0 3 0 0, none],
  [none, a0 (.getfield 75) 3 8 1 2 0 0, none, none, a1 (.iconst 1), a1 (.aaload), a1 (.iload_n 2), a1 (.iaload), a1 (.istore_n 3), a1 (.aload_n 0), a0 (.getfield 10) 3 49 0 3 0 0, none, none, a0 (.getfield 102) 3 12 1 2 1 0, none, none, a1 (.iconst 2), a1 (.aaload), a1 (.iload_n 1), a1 (.iaload), a2 (.istore 4), none, a1 (.aload_n 0), a0 (.getfield 10) 3 49 0 3 0 0, none, none, a0 (.getfield 102) 3 12 1 2 1 0, none, none, a1 (.iconst 1), a1 (.aaload), a1 (.iload_n 1)],
  [a1 (.iaload), a2 (.istore 5), none, a1 (.iconst 0), a2 (.istore 6), none, a2 (.iload 6), none, a2 (.bipush 100), none, a3 (.if_icmp .gt 27), none, none, a2 (.iload 5), none, a1 (.iload_n 3), a3 (.if_icmp .ne 6), none, none, a2 (.iload 6), none, a1 (.ireturn), a2 (.iload 5), none, a2 (.iload 4), none, a0 (.invokestatic 144) 3 116 12 34 2 0, none, none, a2 (.istore 5), none, a3 (.iinc 6 1)],
  [none, none, a3 (.goto (-28)), none, none, a1 (.aload_n 0), a0 (.ldc 143) 2 112 2 0 0 (-1000004), none, a0 (.invokevirtual 55) 3 61 10 7 2 0, none, none, a1 (.ireturn)]]
/-- 48: EnvyRust.kindFor -/
noncomputable def mk_48 : List (List (Option mEnt)) := [[a1 (.aload_n 0), a0 (.getfield 10) 3 49 0 3 0 0, none, none, a1 (.iload_n 1), a0 (.invokevirtual 90) 3 76 11 19 2 0, none, none, a3 (.ifCond .eq 13), none, none, a1 (.iload_n 2), a1 (.iconst 0), a2 (.bipush 60), none, a0 (.invokestatic 50) 3 59 12 6 3 0, none, none, a3 (.ifCond .ne 10), none, none, a1 (.aload_n 0), a0 (.ldc 54) 2 60 2 0 0 (-1000001), none, a0 (.invokevirtual 55) 3 61 10 7 2 0, none, none, a1 (.ireturn), a1 (.aload_n 0), a1 (.iload_n 1), a1 (.iconst 0), a2 (.bipush 7)],
  [none, a1 (.iload_n 2), a0 (.invokevirtual 147) 3 118 10 49 5 0, none, none, a1 (.ireturn)]]
/-- 49: EnvyRust.sparingFor -/
noncomputable def mk_49 : List (List (Option mEnt)) := [[a1 (.iconst 0), a2 (.istore 5), none, a1 (.iconst (-1)), a2 (.istore 6), none, a1 (.iconst 0), a2 (.istore 7), none, a2 (.iload 7), none, a1 (.iload_n 3), a3 (.if_icmp .ge 59), none, none, a1 (.aload_n 0), a0 (.invokevirtual 137) 3 107 10 42 1 0, none, none, a1 (.aload_n 0), a0 (.getfield 19) 3 51 0 3 2 0, none, none, a0 (.getfield 102) 3 12 1 2 1 0, none, none, a1 (.iload_n 2), a1 (.aaload), a1 (.iload_n 1), a2 (.iload 7), none, a1 (.iastore)],
  [a1 (.aload_n 0), a0 (.getfield 19) 3 51 0 3 2 0, none, none, a2 (.iload 4), none, a0 (.invokevirtual 115) 3 91 11 30 2 0, none, none, a1 (.aload_n 0), a0 (.getfield 19) 3 51 0 3 2 0, none, none, a0 (.invokevirtual 128) 3 103 11 38 1 0, none, none, a2 (.istore 8), none, a2 (.iload 8), none, a2 (.iload 6), none, a3 (.if_icmp .le 11), none, none, a2 (.iload 8), none, a2 (.istore 6), none, a2 (.iload 7), none, a2 (.istore 5)],
  [none, a3 (.iinc 7 1), none, none, a3 (.goto (-59)), none, none, a2 (.iload 5), none, a1 (.ireturn)]]
/-- 50: EnvyRust.walkFor -/
noncomputable def mk_50 : List (List (Option mEnt)) := [[a1 (.aload_n 0), a0 (.getfield 10) 3 49 0 3 0 0, none, none, a1 (.iload_n 1), a0 (.invokevirtual 90) 3 76 11 19 2 0, none, none, a3 (.ifCond .eq 13), none, none, a1 (.iload_n 2), a1 (.iconst 0), a2 (.bipush 60), none, a0 (.invokestatic 50) 3 59 12 6 3 0, none, none, a3 (.ifCond .ne 10), none, none, a1 (.aload_n 0), a0 (.ldc 54) 2 60 2 0 0 (-1000001), none, a0 (.invokevirtual 55) 3 61 10 7 2 0, none, none, a1 (.ireturn), a1 (.aload_n 0), a1 (.iload_n 1), a1 (.iconst 2), a2 (.bipush 16)],
  [none, a1 (.iload_n 2), a0 (.invokevirtual 147) 3 118 10 49 5 0, none, none, a1 (.ireturn)]]
/-- 51: EnvyRust.placeFor -/
noncomputable def mk_51 : List (List (Option mEnt)) := [[a1 (.aload_n 0), a0 (.getfield 10) 3 49 0 3 0 0, none, none, a1 (.iload_n 1), a0 (.invokevirtual 68) 3 65 11 10 2 0, none, none, a3 (.ifCond .eq 13), none, none, a1 (.iload_n 2), a1 (.iconst 0), a2 (.bipush 60), none, a0 (.invokestatic 50) 3 59 12 6 3 0, none, none, a3 (.ifCond .ne 10), none, none, a1 (.aload_n 0), a0 (.ldc 54) 2 60 2 0 0 (-1000001), none, a0 (.invokevirtual 55) 3 61 10 7 2 0, none, none, a1 (.ireturn), a1 (.aload_n 0), a1 (.iload_n 1), a1 (.iconst 1), a2 (.bipush 16)],
  [none, a1 (.iload_n 2), a0 (.invokevirtual 151) 3 121 10 52 5 0, none, none, a1 (.ireturn)]]
/-- 52: EnvyRust.thickestFor -/
noncomputable def mk_52 : List (List (Option mEnt)) := [[a1 (.iconst 0), a2 (.istore 5), none, a1 (.iconst (-1)), a2 (.istore 6), none, a1 (.iconst 0), a2 (.istore 7), none, a2 (.iload 7), none, a1 (.iload_n 3), a3 (.if_icmp .ge 63), none, none, a1 (.aload_n 0), a0 (.invokevirtual 137) 3 107 10 42 1 0, none, none, a1 (.aload_n 0), a0 (.getfield 19) 3 51 0 3 2 0, none, none, a0 (.getfield 75) 3 8 1 2 0 0, none, none, a1 (.iload_n 2), a1 (.aaload), a1 (.iload_n 1), a2 (.iload 7), none, a1 (.iastore)],
  [a1 (.aload_n 0), a0 (.getfield 19) 3 51 0 3 2 0, none, none, a2 (.iload 4), none, a0 (.invokevirtual 115) 3 91 11 30 2 0, none, none, a1 (.aload_n 0), a0 (.getfield 19) 3 51 0 3 2 0, none, none, a0 (.getfield 75) 3 8 1 2 0 0, none, none, a1 (.iconst 2), a1 (.aaload), a1 (.iload_n 1), a1 (.iaload), a2 (.istore 8), none, a2 (.iload 8), none, a2 (.iload 6), none, a3 (.if_icmp .le 11), none, none, a2 (.iload 8), none, a2 (.istore 6)],
  [none, a2 (.iload 7), none, a2 (.istore 5), none, a3 (.iinc 7 1), none, none, a3 (.goto (-63)), none, none, a2 (.iload 5), none, a1 (.ireturn)]]
/-- 53: EnvyRust.ownerFor -/
noncomputable def mk_53 : List (List (Option mEnt)) := [[a1 (.aload_n 0), a0 (.getfield 10) 3 49 0 3 0 0, none, none, a1 (.iload_n 1), a0 (.invokevirtual 68) 3 65 11 10 2 0, none, none, a3 (.ifCond .eq 13), none, none, a1 (.iload_n 2), a1 (.iconst 0), a2 (.bipush 60), none, a0 (.invokestatic 50) 3 59 12 6 3 0, none, none, a3 (.ifCond .ne 10), none, none, a1 (.aload_n 0), a0 (.ldc 54) 2 60 2 0 0 (-1000001), none, a0 (.invokevirtual 55) 3 61 10 7 2 0, none, none, a1 (.ireturn), a1 (.aload_n 0), a0 (.getfield 10) 3 49 0 3 0 0, none, none],
  [a0 (.getfield 93) 3 20 1 2 4 0, none, none, a3 (.ifCond .ne 10), none, none, a1 (.aload_n 0), a0 (.ldc 143) 2 112 2 0 0 (-1000004), none, a0 (.invokevirtual 55) 3 61 10 7 2 0, none, none, a1 (.ireturn), a1 (.aload_n 0), a1 (.iload_n 1), a1 (.iconst 4), a1 (.aload_n 0), a0 (.getfield 10) 3 49 0 3 0 0, none, none, a0 (.getfield 93) 3 20 1 2 4 0, none, none, a1 (.iload_n 2), a0 (.invokevirtual 151) 3 121 10 52 5 0, none, none, a1 (.ireturn)]]
/-- 54: EnvyRust.worst -/
noncomputable def mk_54 : List (List (Option mEnt)) := [[a1 (.iload_n 1), a1 (.iconst 0), a2 (.bipush 60), none, a0 (.invokestatic 50) 3 59 12 6 3 0, none, none, a3 (.ifCond .ne 10), none, none, a1 (.aload_n 0), a0 (.ldc 54) 2 60 2 0 0 (-1000001), none, a0 (.invokevirtual 55) 3 61 10 7 2 0, none, none, a1 (.ireturn), a1 (.aload_n 0), a0 (.getfield 10) 3 49 0 3 0 0, none, none, a0 (.getfield 93) 3 20 1 2 4 0, none, none, a3 (.ifCond .ne 10), none, none, a1 (.aload_n 0), a0 (.ldc 143) 2 112 2 0 0 (-1000004), none, a0 (.invokevirtual 55) 3 61 10 7 2 0, none],
  [none, a1 (.ireturn), a1 (.iconst 0), a1 (.istore_n 2), a1 (.iconst (-1)), a1 (.istore_n 3), a1 (.iconst 0), a2 (.istore 4), none, a2 (.iload 4), none, a1 (.aload_n 0), a0 (.getfield 10) 3 49 0 3 0 0, none, none, a0 (.getfield 93) 3 20 1 2 4 0, none, none, a3 (.if_icmp .ge 51), none, none, a1 (.aload_n 0), a0 (.invokevirtual 137) 3 107 10 42 1 0, none, none, a1 (.aload_n 0), a0 (.getfield 19) 3 51 0 3 2 0, none, none, a2 (.iload 4), none, a0 (.putfield 154) 3 26 1 2 7 0],
  [none, none, a1 (.aload_n 0), a0 (.getfield 19) 3 51 0 3 2 0, none, none, a1 (.iload_n 1), a0 (.invokevirtual 115) 3 91 11 30 2 0, none, none, a1 (.aload_n 0), a0 (.getfield 19) 3 51 0 3 2 0, none, none, a0 (.invokevirtual 128) 3 103 11 38 1 0, none, none, a2 (.istore 5), none, a2 (.iload 5), none, a1 (.iload_n 3), a3 (.if_icmp .le 9), none, none, a2 (.iload 5), none, a1 (.istore_n 3), a2 (.iload 4), none, a1 (.istore_n 2), a3 (.iinc 4 1)],
  [none, none, a3 (.goto (-57)), none, none, a1 (.iload_n 2), a1 (.ireturn)]]
/-- 55: EnvyRust.paint -/
noncomputable def mk_55 : List (List (Option mEnt)) := [[a1 (.iload_n 1), a1 (.iconst 0), a2 (.bipush 8), none, a0 (.invokestatic 50) 3 59 12 6 3 0, none, none, a3 (.ifCond .eq 13), none, none, a1 (.iload_n 2), a1 (.iconst 0), a2 (.bipush 60), none, a0 (.invokestatic 50) 3 59 12 6 3 0, none, none, a3 (.ifCond .ne 10), none, none, a1 (.aload_n 0), a0 (.ldc 54) 2 60 2 0 0 (-1000001), none, a0 (.invokevirtual 55) 3 61 10 7 2 0, none, none, a1 (.ireturn), a1 (.iload_n 1), a1 (.aload_n 0), a0 (.getfield 10) 3 49 0 3 0 0, none, none],
  [a0 (.getfield 59) 3 16 1 2 3 0, none, none, a0 (.invokestatic 157) 3 125 25 0 0 0, none, none, a1 (.istore_n 3), a1 (.aload_n 0), a1 (.iconst 0), a1 (.iload_n 2), a1 (.aload_n 0), a0 (.getfield 43) 3 56 0 3 7 0, none, none, a0 (.invokevirtual 162) 3 126 10 56 4 0, none, none, a1 (.aload_n 0), a1 (.aload_n 0), a0 (.getfield 10) 3 49 0 3 0 0, none, none, a0 (.invokevirtual 166) 3 128 11 57 1 0, none, none, a1 (.iload_n 2), a1 (.aload_n 0), a0 (.getfield 46) 3 57 0 3 8 0, none, none, a0 (.invokevirtual 162) 3 126 10 56 4 0, none],
  [none, a1 (.aload_n 0), a0 (.invokevirtual 137) 3 107 10 42 1 0, none, none, a1 (.iconst 0), a2 (.istore 4), none, a1 (.iconst (-1)), a2 (.istore 5), none, a1 (.iconst 0), a2 (.istore 6), none, a2 (.iload 6), none, a1 (.aload_n 0), a0 (.getfield 10) 3 49 0 3 0 0, none, none, a0 (.invokevirtual 166) 3 128 11 57 1 0, none, none, a3 (.if_icmp .gt 41), none, none, a2 (.iload 6), none, a0 (.invokestatic 123) 3 98 12 36 1 0, none, none, a1 (.iload_n 3)],
  [a3 (.if_icmp .ne 26), none, none, a1 (.aload_n 0), a2 (.iload 6), none, a0 (.invokevirtual 169) 3 129 10 58 2 0, none, none, a2 (.istore 7), none, a2 (.iload 7), none, a2 (.iload 5), none, a3 (.if_icmp .le 11), none, none, a2 (.iload 7), none, a2 (.istore 5), none, a2 (.iload 6), none, a2 (.istore 4), none, a3 (.iinc 6 1), none, none, a3 (.goto (-47)), none, none],
  [a2 (.iload 4), none, a1 (.ireturn)]]
/-- 56: EnvyRust.wearAlone -/
noncomputable def mk_56 : List (List (Option mEnt)) := [[a1 (.aload_n 0), a0 (.invokevirtual 137) 3 107 10 42 1 0, none, none, a1 (.iconst 0), a2 (.istore 4), none, a2 (.iload 4), none, a1 (.aload_n 0), a0 (.getfield 19) 3 51 0 3 2 0, none, none, a0 (.getfield 59) 3 16 1 2 3 0, none, none, a3 (.if_icmp .ge 45), none, none, a1 (.aload_n 0), a0 (.getfield 19) 3 51 0 3 2 0, none, none, a0 (.getfield 75) 3 8 1 2 0 0, none, none, a1 (.iconst 5), a1 (.aaload), a2 (.iload 4), none, a1 (.iconst (-1)), a1 (.iastore)],
  [a1 (.iload_n 1), a2 (.iload 4), none, a0 (.invokestatic 85) 3 79 12 21 2 0, none, none, a3 (.ifCond .eq 17), none, none, a1 (.aload_n 0), a0 (.getfield 19) 3 51 0 3 2 0, none, none, a0 (.getfield 75) 3 8 1 2 0 0, none, none, a1 (.iconst 3), a1 (.aaload), a2 (.iload 4), none, a2 (.bipush 9), none, a1 (.iastore), a3 (.iinc 4 1), none, none, a3 (.goto (-51)), none, none, a1 (.aload_n 0), a0 (.getfield 19) 3 51 0 3 2 0, none],
  [none, a1 (.iload_n 2), a0 (.invokevirtual 115) 3 91 11 30 2 0, none, none, a1 (.aload_n 0), a0 (.getfield 19) 3 51 0 3 2 0, none, none, a0 (.getfield 75) 3 8 1 2 0 0, none, none, a1 (.iconst 2), a1 (.aaload), a1 (.iconst 0), a1 (.aload_n 3), a1 (.iconst 0), a2 (.bipush 8), none, a0 (.invokestatic 172) 3 127 21 0 0 0, none, none, a1 (.return_)]]
/-- 57: EnvyRust$Town.allThings -/
noncomputable def mk_57 : List (List (Option mEnt)) := [[a1 (.iconst 1), a1 (.aload_n 0), a0 (.getfield 23) 3 15 0 2 3 0, none, none, a1 (.ishl), a1 (.iconst 1), a1 (.isub), a1 (.ireturn)]]
/-- 58: EnvyRust.leftPainted -/
noncomputable def mk_58 : List (List (Option mEnt)) := [[a1 (.iconst 0), a1 (.istore_n 2), a1 (.iload_n 2), a1 (.aload_n 0), a0 (.getfield 19) 3 51 0 3 2 0, none, none, a0 (.getfield 59) 3 16 1 2 3 0, none, none, a3 (.if_icmp .ge 43), none, none, a1 (.aload_n 0), a0 (.getfield 19) 3 51 0 3 2 0, none, none, a0 (.getfield 75) 3 8 1 2 0 0, none, none, a1 (.iconst 2), a1 (.aaload), a1 (.iload_n 2), a1 (.iload_n 1), a1 (.iload_n 2), a0 (.invokestatic 85) 3 79 12 21 2 0, none, none, a3 (.ifCond .eq 12), none, none, a1 (.aload_n 0)],
  [a0 (.getfield 46) 3 57 0 3 8 0, none, none, a1 (.iload_n 2), a1 (.iaload), a3 (.goto 9), none, none, a1 (.aload_n 0), a0 (.getfield 43) 3 56 0 3 7 0, none, none, a1 (.iload_n 2), a1 (.iaload), a1 (.iastore), a3 (.iinc 2 1), none, none, a3 (.goto (-48)), none, none, a1 (.aload_n 0), a0 (.getfield 19) 3 51 0 3 2 0, none, none, a0 (.invokevirtual 178) 3 130 11 31 1 0, none, none, a1 (.aload_n 0), a0 (.getfield 19) 3 51 0 3 2 0, none, none],
  [a0 (.invokevirtual 128) 3 103 11 38 1 0, none, none, a1 (.ireturn)]]
/-- 59: EnvyRust.needs -/
noncomputable def mk_59 : List (List (Option mEnt)) := [[a1 (.aload_n 0), a0 (.getfield 10) 3 49 0 3 0 0, none, none, a1 (.iload_n 1), a0 (.invokevirtual 68) 3 65 11 10 2 0, none, none, a3 (.ifCond .eq 13), none, none, a1 (.iload_n 2), a1 (.iconst 0), a2 (.bipush 60), none, a0 (.invokestatic 50) 3 59 12 6 3 0, none, none, a3 (.ifCond .ne 10), none, none, a1 (.aload_n 0), a0 (.ldc 54) 2 60 2 0 0 (-1000001), none, a0 (.invokevirtual 55) 3 61 10 7 2 0, none, none, a1 (.ireturn), a1 (.iconst 0), a1 (.istore_n 3), a1 (.iload_n 3), a2 (.bipush 9)],
  [none, a3 (.if_icmp .gt 46), none, none, a1 (.aload_n 0), a0 (.invokevirtual 137) 3 107 10 42 1 0, none, none, a1 (.aload_n 0), a0 (.getfield 19) 3 51 0 3 2 0, none, none, a0 (.getfield 75) 3 8 1 2 0 0, none, none, a1 (.iconst 3), a1 (.aaload), a1 (.iload_n 1), a1 (.iload_n 3), a1 (.iastore), a1 (.aload_n 0), a0 (.getfield 19) 3 51 0 3 2 0, none, none, a1 (.iload_n 2), a0 (.invokevirtual 115) 3 91 11 30 2 0, none, none, a1 (.aload_n 0), a0 (.getfield 19) 3 51 0 3 2 0, none, none],
  [a1 (.iload_n 1), a0 (.invokevirtual 140) 3 111 11 32 2 0, none, none, a3 (.ifCond .ne 5), none, none, a1 (.iload_n 3), a1 (.ireturn), a3 (.iinc 3 1), none, none, a3 (.goto (-46)), none, none, a1 (.aload_n 0), a0 (.ldc 143) 2 112 2 0 0 (-1000004), none, a0 (.invokevirtual 55) 3 61 10 7 2 0, none, none, a1 (.ireturn)]]
/-- 60: EnvyRust.fallsWith -/
noncomputable def mk_60 : List (List (Option mEnt)) := [[a1 (.aload_n 0), a0 (.getfield 10) 3 49 0 3 0 0, none, none, a1 (.iload_n 1), a0 (.invokevirtual 68) 3 65 11 10 2 0, none, none, a3 (.ifCond .eq 14), none, none, a1 (.aload_n 0), a0 (.getfield 10) 3 49 0 3 0 0, none, none, a1 (.iload_n 1), a0 (.invokevirtual 82) 3 77 11 20 2 0, none, none, a3 (.goto 9), none, none, a1 (.aload_n 0), a0 (.ldc 54) 2 60 2 0 0 (-1000001), none, a0 (.invokevirtual 55) 3 61 10 7 2 0, none, none, a1 (.ireturn)]]
/-- 61: EnvyRust.depth -/
noncomputable def mk_61 : List (List (Option mEnt)) := [[a1 (.aload_n 0), a0 (.getfield 10) 3 49 0 3 0 0, none, none, a1 (.iload_n 1), a0 (.invokevirtual 68) 3 65 11 10 2 0, none, none, a3 (.ifCond .eq 14), none, none, a1 (.aload_n 0), a0 (.getfield 10) 3 49 0 3 0 0, none, none, a1 (.iload_n 1), a0 (.invokevirtual 185) 3 134 11 62 2 0, none, none, a3 (.goto 9), none, none, a1 (.aload_n 0), a0 (.ldc 54) 2 60 2 0 0 (-1000001), none, a0 (.invokevirtual 55) 3 61 10 7 2 0, none, none, a1 (.ireturn)]]
/-- 62: EnvyRust$Town.hangingDepth -/
noncomputable def mk_62 : List (List (Option mEnt)) := [[a1 (.iconst 0), a1 (.istore_n 2), a1 (.aload_n 0), a0 (.getfield 13) 3 7 0 2 0 0, none, none, a1 (.iconst 5), a1 (.aaload), a1 (.iload_n 1), a1 (.iaload), a1 (.istore_n 3), a1 (.iload_n 2), a2 (.bipush 8), none, a3 (.if_icmp .ge 23), none, none, a1 (.iload_n 3), a1 (.iconst (-1)), a3 (.if_icmp .eq 18), none, none, a3 (.iinc 2 1), none, none, a1 (.aload_n 0), a0 (.getfield 13) 3 7 0 2 0 0, none, none, a1 (.iconst 5), a1 (.aaload), a1 (.iload_n 3)],
  [a1 (.iaload), a1 (.istore_n 3), a3 (.goto (-23)), none, none, a1 (.iload_n 2), a1 (.ireturn)]]
/-- 63: EnvyRust.keystone -/
noncomputable def mk_63 : List (List (Option mEnt)) := [[a1 (.aload_n 0), a0 (.getfield 10) 3 49 0 3 0 0, none, none, a0 (.getfield 59) 3 16 1 2 3 0, none, none, a3 (.ifCond .ne 10), none, none, a1 (.aload_n 0), a0 (.ldc 143) 2 112 2 0 0 (-1000004), none, a0 (.invokevirtual 55) 3 61 10 7 2 0, none, none, a1 (.ireturn), a1 (.iconst 0), a1 (.istore_n 1), a1 (.iconst 0), a1 (.istore_n 2), a1 (.iconst 0), a1 (.istore_n 3), a1 (.iload_n 3), a1 (.aload_n 0), a0 (.getfield 10) 3 49 0 3 0 0, none, none, a0 (.getfield 59) 3 16 1 2 3 0, none, none, a3 (.if_icmp .ge 33)],
  [none, none, a1 (.aload_n 0), a0 (.getfield 10) 3 49 0 3 0 0, none, none, a1 (.iload_n 3), a0 (.invokevirtual 82) 3 77 11 20 2 0, none, none, a0 (.invokestatic 123) 3 98 12 36 1 0, none, none, a2 (.istore 4), none, a2 (.iload 4), none, a1 (.iload_n 2), a3 (.if_icmp .le 8), none, none, a2 (.iload 4), none, a1 (.istore_n 2), a1 (.iload_n 3), a1 (.istore_n 1), a3 (.iinc 3 1), none, none, a3 (.goto (-38)), none, none],
  [a1 (.iload_n 1), a1 (.ireturn)]]
/-- 64: EnvyRust.fells -/
noncomputable def mk_64 : List (List (Option mEnt)) := [[a1 (.iconst 0), a1 (.istore_n 1), a1 (.iconst 0), a1 (.istore_n 2), a1 (.iload_n 2), a1 (.aload_n 0), a0 (.getfield 10) 3 49 0 3 0 0, none, none, a0 (.getfield 59) 3 16 1 2 3 0, none, none, a3 (.if_icmp .ge 30), none, none, a1 (.aload_n 0), a0 (.getfield 10) 3 49 0 3 0 0, none, none, a0 (.getfield 75) 3 8 1 2 0 0, none, none, a1 (.iconst 5), a1 (.aaload), a1 (.iload_n 2), a1 (.iaload), a1 (.iconst (-1)), a3 (.if_icmp .ne 9), none, none, a1 (.iload_n 1), a1 (.iconst 1)],
  [a1 (.iload_n 2), a1 (.ishl), a1 (.ior), a1 (.istore_n 1), a3 (.iinc 2 1), none, none, a3 (.goto (-35)), none, none, a1 (.iload_n 1), a1 (.ireturn)]]
/-- 65: EnvyRust.worth -/
noncomputable def mk_65 : List (List (Option mEnt)) := [[a1 (.aload_n 0), a0 (.getfield 10) 3 49 0 3 0 0, none, none, a1 (.iload_n 1), a0 (.invokevirtual 90) 3 76 11 19 2 0, none, none, a3 (.ifCond .eq 14), none, none, a1 (.aload_n 0), a0 (.getfield 10) 3 49 0 3 0 0, none, none, a1 (.iload_n 2), a0 (.invokevirtual 188) 3 138 11 66 2 0, none, none, a3 (.ifCond .ne 10), none, none, a1 (.aload_n 0), a0 (.ldc 54) 2 60 2 0 0 (-1000001), none, a0 (.invokevirtual 55) 3 61 10 7 2 0, none, none, a1 (.ireturn), a1 (.aload_n 0), a0 (.getfield 10) 3 49 0 3 0 0, none],
  [none, a1 (.iload_n 1), a1 (.iload_n 2), a0 (.invokevirtual 191) 3 140 11 67 3 0, none, none, a1 (.ireturn)]]
/-- 66: EnvyRust$Town.isSet -/
noncomputable def mk_66 : List (List (Option mEnt)) := [[a1 (.iload_n 1), a1 (.iconst 0), a1 (.aload_n 0), a0 (.invokevirtual 49) 3 139 10 57 1 0, none, none, a0 (.invokestatic 45) 3 66 13 6 3 0, none, none, a1 (.ireturn)]]
/-- 67: EnvyRust$Town.worthOf -/
noncomputable def mk_67 : List (List (Option mEnt)) := [[a1 (.iconst 0), a1 (.istore_n 3), a1 (.iconst 0), a2 (.istore 4), none, a2 (.iload 4), none, a1 (.aload_n 0), a0 (.getfield 23) 3 15 0 2 3 0, none, none, a3 (.if_icmp .ge 29), none, none, a1 (.iload_n 2), a2 (.iload 4), none, a0 (.invokestatic 67) 3 78 13 21 2 0, none, none, a3 (.ifCond .eq 14), none, none, a1 (.iload_n 3), a1 (.aload_n 0), a1 (.iconst (-1)), a1 (.iload_n 1), a2 (.iload 4), none, a0 (.invokevirtual 53) 3 69 10 13 4 0, none, none],
  [a1 (.iadd), a1 (.istore_n 3), a3 (.iinc 4 1), none, none, a3 (.goto (-32)), none, none, a1 (.iload_n 3), a1 (.ireturn)]]
/-- 68: EnvyRust.deal -/
noncomputable def mk_68 : List (List (Option mEnt)) := [[a1 (.aload_n 0), a1 (.iload_n 1), a1 (.iload_n 2), a1 (.iload_n 3), a0 (.invokevirtual 194) 3 142 10 69 4 0, none, none, a3 (.ifCond .ne 10), none, none, a1 (.aload_n 0), a0 (.ldc 54) 2 60 2 0 0 (-1000001), none, a0 (.invokevirtual 55) 3 61 10 7 2 0, none, none, a1 (.ireturn), a1 (.iconst 0), a2 (.istore 4), none, a2 (.iload 4), none, a1 (.iload_n 3), a3 (.if_icmp .gt 36), none, none, a2 (.iload 4), none, a1 (.iload_n 3), a0 (.invokestatic 197) 3 143 12 70 2 0, none, none],
  [a3 (.ifCond .eq 21), none, none, a1 (.aload_n 0), a1 (.iload_n 1), a1 (.iload_n 2), a2 (.iload 4), none, a1 (.iload_n 3), a2 (.iload 4), none, a1 (.isub), a0 (.invokevirtual 200) 3 144 10 71 5 0, none, none, a3 (.ifCond .eq 6), none, none, a2 (.iload 4), none, a1 (.ireturn), a3 (.iinc 4 1), none, none, a3 (.goto (-36)), none, none, a1 (.aload_n 0), a0 (.ldc 143) 2 112 2 0 0 (-1000004), none, a0 (.invokevirtual 55) 3 61 10 7 2 0, none],
  [none, a1 (.ireturn)]]
/-- 69: EnvyRust.canDeal -/
noncomputable def mk_69 : List (List (Option mEnt)) := [[a1 (.aload_n 0), a0 (.getfield 10) 3 49 0 3 0 0, none, none, a1 (.iload_n 1), a0 (.invokevirtual 90) 3 76 11 19 2 0, none, none, a3 (.ifCond .eq 34), none, none, a1 (.aload_n 0), a0 (.getfield 10) 3 49 0 3 0 0, none, none, a1 (.iload_n 2), a0 (.invokevirtual 90) 3 76 11 19 2 0, none, none, a3 (.ifCond .eq 23), none, none, a1 (.iload_n 1), a1 (.iload_n 2), a3 (.if_icmp .eq 18), none, none, a1 (.aload_n 0), a0 (.getfield 10) 3 49 0 3 0 0, none, none, a1 (.iload_n 3)],
  [a0 (.invokevirtual 188) 3 138 11 66 2 0, none, none, a3 (.ifCond .eq 7), none, none, a1 (.iconst 1), a3 (.goto 4), none, none, a1 (.iconst 0), a1 (.ireturn)]]
/-- 70: EnvyRust.isPart -/
noncomputable def mk_70 : List (List (Option mEnt)) := [[a1 (.iload_n 0), a1 (.iload_n 1), a1 (.iconst (-1)), a1 (.ixor), a1 (.iand), a3 (.ifCond .ne 7), none, none, a1 (.iconst 1), a3 (.goto 4), none, none, a1 (.iconst 0), a1 (.ireturn)]]
/-- 71: EnvyRust.leavesNoEnvy -/
noncomputable def mk_71 : List (List (Option mEnt)) := [[a1 (.aload_n 0), a0 (.getfield 10) 3 49 0 3 0 0, none, none, a1 (.iload_n 1), a1 (.iload_n 3), a0 (.invokevirtual 191) 3 140 11 67 3 0, none, none, a1 (.aload_n 0), a0 (.getfield 10) 3 49 0 3 0 0, none, none, a1 (.iload_n 1), a2 (.iload 4), none, a0 (.invokevirtual 191) 3 140 11 67 3 0, none, none, a3 (.if_icmp .lt 29), none, none, a1 (.aload_n 0), a0 (.getfield 10) 3 49 0 3 0 0, none, none, a1 (.iload_n 2), a2 (.iload 4), none, a0 (.invokevirtual 191) 3 140 11 67 3 0, none, none],
  [a1 (.aload_n 0), a0 (.getfield 10) 3 49 0 3 0 0, none, none, a1 (.iload_n 2), a1 (.iload_n 3), a0 (.invokevirtual 191) 3 140 11 67 3 0, none, none, a3 (.if_icmp .lt 7), none, none, a1 (.iconst 1), a3 (.goto 4), none, none, a1 (.iconst 0), a1 (.ireturn)]]
/-- 72: EnvyRust.deals -/
noncomputable def mk_72 : List (List (Option mEnt)) := [[a1 (.aload_n 0), a1 (.iload_n 1), a1 (.iload_n 2), a1 (.iload_n 3), a0 (.invokevirtual 194) 3 142 10 69 4 0, none, none, a3 (.ifCond .ne 10), none, none, a1 (.aload_n 0), a0 (.ldc 54) 2 60 2 0 0 (-1000001), none, a0 (.invokevirtual 55) 3 61 10 7 2 0, none, none, a1 (.ireturn), a1 (.iconst 0), a2 (.istore 4), none, a1 (.iconst 0), a2 (.istore 5), none, a2 (.iload 5), none, a1 (.iload_n 3), a3 (.if_icmp .gt 36), none, none, a2 (.iload 5), none, a1 (.iload_n 3)],
  [a0 (.invokestatic 197) 3 143 12 70 2 0, none, none, a3 (.ifCond .eq 21), none, none, a1 (.aload_n 0), a1 (.iload_n 1), a1 (.iload_n 2), a2 (.iload 5), none, a1 (.iload_n 3), a2 (.iload 5), none, a1 (.isub), a0 (.invokevirtual 200) 3 144 10 71 5 0, none, none, a3 (.ifCond .eq 6), none, none, a3 (.iinc 4 1), none, none, a3 (.iinc 5 1), none, none, a3 (.goto (-36)), none, none, a2 (.iload 4), none],
  [a1 (.ireturn)]]
/-- 73: EnvyRust.lesser -/
noncomputable def mk_73 : List (List (Option mEnt)) := [[a1 (.aload_n 0), a1 (.iload_n 1), a1 (.iload_n 2), a1 (.iload_n 3), a0 (.invokevirtual 194) 3 142 10 69 4 0, none, none, a3 (.ifCond .ne 10), none, none, a1 (.aload_n 0), a0 (.ldc 54) 2 60 2 0 0 (-1000001), none, a0 (.invokevirtual 55) 3 61 10 7 2 0, none, none, a1 (.ireturn), a1 (.iconst 0), a2 (.istore 4), none, a1 (.iconst (-1)), a2 (.istore 5), none, a1 (.iconst 0), a2 (.istore 6), none, a2 (.iload 6), none, a1 (.iload_n 3), a3 (.if_icmp .gt 60), none, none],
  [a2 (.iload 6), none, a1 (.iload_n 3), a0 (.invokestatic 197) 3 143 12 70 2 0, none, none, a3 (.ifCond .eq 45), none, none, a1 (.aload_n 0), a0 (.getfield 10) 3 49 0 3 0 0, none, none, a1 (.iload_n 1), a2 (.iload 6), none, a0 (.invokevirtual 191) 3 140 11 67 3 0, none, none, a1 (.aload_n 0), a0 (.getfield 10) 3 49 0 3 0 0, none, none, a1 (.iload_n 2), a1 (.iload_n 3), a2 (.iload 6), none, a1 (.isub), a0 (.invokevirtual 191) 3 140 11 67 3 0, none, none, a0 (.invokestatic 157) 3 125 25 0 0 0],
  [none, none, a2 (.istore 7), none, a2 (.iload 7), none, a2 (.iload 5), none, a3 (.if_icmp .le 11), none, none, a2 (.iload 7), none, a2 (.istore 5), none, a2 (.iload 6), none, a2 (.istore 4), none, a3 (.iinc 6 1), none, none, a3 (.goto (-60)), none, none, a2 (.iload 4), none, a1 (.ireturn)]]
/-- 74: EnvyRust.envious -/
noncomputable def mk_74 : List (List (Option mEnt)) := [[a1 (.iconst 0), a1 (.istore_n 1), a1 (.iconst 0), a1 (.istore_n 2), a1 (.iload_n 2), a1 (.aload_n 0), a0 (.getfield 10) 3 49 0 3 0 0, none, none, a0 (.getfield 93) 3 20 1 2 4 0, none, none, a3 (.if_icmp .ge 77), none, none, a1 (.aload_n 0), a0 (.getfield 10) 3 49 0 3 0 0, none, none, a1 (.iload_n 2), a1 (.aload_n 0), a0 (.getfield 10) 3 49 0 3 0 0, none, none, a1 (.iload_n 2), a0 (.invokevirtual 99) 3 84 11 25 2 0, none, none, a0 (.invokevirtual 191) 3 140 11 67 3 0, none, none, a1 (.istore_n 3)],
  [a1 (.iconst 0), a2 (.istore 4), none, a2 (.iload 4), none, a1 (.aload_n 0), a0 (.getfield 10) 3 49 0 3 0 0, none, none, a0 (.getfield 93) 3 20 1 2 4 0, none, none, a3 (.if_icmp .ge 39), none, none, a2 (.iload 4), none, a1 (.iload_n 2), a3 (.if_icmp .eq 27), none, none, a1 (.aload_n 0), a0 (.getfield 10) 3 49 0 3 0 0, none, none, a1 (.iload_n 2), a1 (.aload_n 0), a0 (.getfield 10) 3 49 0 3 0 0, none, none, a2 (.iload 4), none],
  [a0 (.invokevirtual 99) 3 84 11 25 2 0, none, none, a0 (.invokevirtual 191) 3 140 11 67 3 0, none, none, a1 (.iload_n 3), a3 (.if_icmp .le 6), none, none, a3 (.iinc 1 1), none, none, a3 (.iinc 4 1), none, none, a3 (.goto (-45)), none, none, a3 (.iinc 2 1), none, none, a3 (.goto (-82)), none, none, a1 (.iload_n 1), a1 (.ireturn)]]
/-- 75: EnvyRust.fits -/
noncomputable def mk_75 : List (List (Option mEnt)) := [[a1 (.aload_n 0), a1 (.iload_n 1), a1 (.iload_n 2), a1 (.iload_n 3), a0 (.invokevirtual 204) 3 149 10 76 4 0, none, none, a2 (.istore 4), none, a2 (.iload 4), none, a3 (.ifCond .eq 10), none, none, a1 (.aload_n 0), a2 (.iload 4), none, a0 (.invokevirtual 55) 3 61 10 7 2 0, none, none, a1 (.ireturn), a1 (.iconst 0), a2 (.istore 5), none, a1 (.iconst 0), a2 (.istore 6), none, a2 (.iload 6), none, a2 (.bipush 9), none, a3 (.if_icmp .gt 29)],
  [none, none, a1 (.aload_n 0), a1 (.aload_n 0), a0 (.getfield 31) 3 53 0 3 4 0, none, none, a1 (.iload_n 1), a1 (.aaload), a1 (.iload_n 2), a1 (.iload_n 3), a2 (.iload 6), none, a0 (.invokevirtual 208) 3 154 10 80 5 0, none, none, a3 (.ifCond .eq 6), none, none, a3 (.iinc 5 1), none, none, a3 (.iinc 6 1), none, none, a3 (.goto (-30)), none, none, a2 (.iload 5), none, a1 (.ireturn)]]
/-- 76: EnvyRust.findingOfFit -/
noncomputable def mk_76 : List (List (Option mEnt)) := [[a1 (.aload_n 0), a1 (.iload_n 1), a0 (.invokevirtual 212) 3 150 10 77 2 0, none, none, a2 (.istore 4), none, a2 (.iload 4), none, a3 (.ifCond .eq 6), none, none, a2 (.iload 4), none, a1 (.ireturn), a1 (.aload_n 0), a0 (.getfield 10) 3 49 0 3 0 0, none, none, a1 (.iload_n 2), a0 (.invokevirtual 90) 3 76 11 19 2 0, none, none, a3 (.ifCond .eq 18), none, none, a1 (.aload_n 0), a0 (.getfield 10) 3 49 0 3 0 0, none, none, a1 (.iload_n 3), a0 (.invokevirtual 68) 3 65 11 10 2 0],
  [none, none, a3 (.ifCond .eq 7), none, none, a1 (.iconst 0), a3 (.goto 5), none, none, a0 (.ldc 54) 2 60 2 0 0 (-1000001), none, a1 (.ireturn)]]
/-- 77: EnvyRust.findingOfSheet -/
noncomputable def mk_77 : List (List (Option mEnt)) := [[a1 (.iload_n 1), a0 (.invokestatic 252) 3 151 12 78 1 0, none, none, a3 (.ifCond .ne 6), none, none, a0 (.ldc 54) 2 60 2 0 0 (-1000001), none, a1 (.ireturn), a1 (.aload_n 0), a0 (.getfield 31) 3 53 0 3 4 0, none, none, a1 (.iload_n 1), a1 (.aaload), a0 (.invokevirtual 262) 3 152 11 79 1 0, none, none, a3 (.ifCond .eq 8), none, none, a0 (.ldc 247) 2 153 2 0 0 (-1000006), none, a3 (.goto 4), none, none, a1 (.iconst 0), a1 (.ireturn)]]
/-- 78: EnvyRust.isSheet -/
noncomputable def mk_78 : List (List (Option mEnt)) := [[a1 (.iload_n 0), a1 (.iconst 0), a1 (.iconst 3), a0 (.invokestatic 50) 3 59 12 6 3 0, none, none, a1 (.ireturn)]]
/-- 79: EnvyRust$Sheet.isMissing -/
noncomputable def mk_79 : List (List (Option mEnt)) := [[a1 (.aload_n 0), a0 (.getfield 15) 3 45 0 0 1 0, none, none, a3 (.ifCond .ne 7), none, none, a1 (.iconst 1), a3 (.goto 4), none, none, a1 (.iconst 0), a1 (.ireturn)]]
/-- 80: EnvyRust.fitsWith -/
noncomputable def mk_80 : List (List (Option mEnt)) := [[a1 (.aload_n 0), a0 (.invokevirtual 137) 3 107 10 42 1 0, none, none, a1 (.aload_n 0), a0 (.getfield 19) 3 51 0 3 2 0, none, none, a0 (.getfield 102) 3 12 1 2 1 0, none, none, a1 (.iconst 3), a1 (.aload_n 0), a0 (.getfield 19) 3 51 0 3 2 0, none, none, a0 (.getfield 75) 3 8 1 2 0 0, none, none, a1 (.iconst 0), a1 (.aaload), a1 (.iload_n 3), a1 (.iaload), a1 (.iadd), a1 (.aaload), a1 (.iload_n 2), a2 (.iload 4), none, a1 (.iastore), a1 (.iconst 0), a2 (.istore 5), none],
  [a2 (.iload 5), none, a1 (.aload_n 1), a0 (.getfield 215) 3 48 1 0 2 0, none, none, a3 (.if_icmp .ge 51), none, none, a1 (.aload_n 1), a0 (.getfield 218) 3 44 1 0 0 0, none, none, a2 (.iload 5), none, a1 (.iaload), a1 (.iconst (-1)), a3 (.if_icmp .eq 26), none, none, a1 (.aload_n 1), a0 (.getfield 218) 3 44 1 0 0 0, none, none, a2 (.iload 5), none, a1 (.iaload), a1 (.aload_n 0), a0 (.getfield 19) 3 51 0 3 2 0, none, none, a0 (.getfield 75) 3 8 1 2 0 0],
  [none, none, a1 (.iconst 2), a1 (.aaload), a1 (.iload_n 3), a1 (.iaload), a3 (.if_icmp .eq 5), none, none, a1 (.iconst 0), a1 (.ireturn), a1 (.aload_n 0), a0 (.getfield 19) 3 51 0 3 2 0, none, none, a1 (.iconst 1), a0 (.invokevirtual 115) 3 91 11 30 2 0, none, none, a3 (.iinc 5 1), none, none, a3 (.goto (-54)), none, none, a1 (.iconst 1), a1 (.ireturn)]]
/-- 81: EnvyRust.likes -/
noncomputable def mk_81 : List (List (Option mEnt)) := [[a1 (.aload_n 0), a1 (.iload_n 1), a1 (.iload_n 2), a1 (.iload_n 3), a0 (.invokevirtual 204) 3 149 10 76 4 0, none, none, a2 (.istore 4), none, a2 (.iload 4), none, a3 (.ifCond .eq 10), none, none, a1 (.aload_n 0), a2 (.iload 4), none, a0 (.invokevirtual 55) 3 61 10 7 2 0, none, none, a1 (.ireturn), a1 (.iconst 0), a2 (.istore 5), none, a2 (.iload 5), none, a2 (.bipush 9), none, a3 (.if_icmp .gt 29), none, none, a1 (.aload_n 0)],
  [a1 (.aload_n 0), a0 (.getfield 31) 3 53 0 3 4 0, none, none, a1 (.iload_n 1), a1 (.aaload), a1 (.iload_n 2), a1 (.iload_n 3), a2 (.iload 5), none, a0 (.invokevirtual 208) 3 154 10 80 5 0, none, none, a3 (.ifCond .eq 6), none, none, a2 (.iload 5), none, a1 (.ireturn), a3 (.iinc 5 1), none, none, a3 (.goto (-30)), none, none, a1 (.aload_n 0), a0 (.ldc 143) 2 112 2 0 0 (-1000004), none, a0 (.invokevirtual 55) 3 61 10 7 2 0, none, none, a1 (.ireturn)]]
/-- 82: EnvyRust.strolls -/
noncomputable def mk_82 : List (List (Option mEnt)) := [[a1 (.iload_n 1), a1 (.iconst 1), a2 (.bipush 20), none, a0 (.invokestatic 50) 3 59 12 6 3 0, none, none, a3 (.ifCond .ne 10), none, none, a1 (.aload_n 0), a0 (.ldc 54) 2 60 2 0 0 (-1000001), none, a0 (.invokevirtual 55) 3 61 10 7 2 0, none, none, a1 (.ireturn), a1 (.aload_n 0), a0 (.getfield 10) 3 49 0 3 0 0, none, none, a0 (.getfield 111) 3 22 1 2 5 0, none, none, a1 (.iload_n 1), a1 (.iadd), a0 (.ldc 114) 2 90 2 0 0 99999, none, a3 (.if_icmp .le 10), none, none, a1 (.aload_n 0)],
  [a0 (.ldc 89) 2 80 2 0 0 (-1000005), none, a0 (.invokevirtual 55) 3 61 10 7 2 0, none, none, a1 (.ireturn), a1 (.aload_n 0), a0 (.getfield 10) 3 49 0 3 0 0, none, none, a0 (.invokevirtual 128) 3 103 11 38 1 0, none, none, a1 (.istore_n 2), a1 (.iconst 0), a1 (.istore_n 3), a1 (.iload_n 3), a1 (.iload_n 1), a3 (.if_icmp .ge 24), none, none, a1 (.aload_n 0), a0 (.getfield 10) 3 49 0 3 0 0, none, none, a0 (.invokevirtual 221) 3 157 11 83 1 0, none, none, a1 (.aload_n 0), a0 (.getfield 10) 3 49 0 3 0 0, none, none],
  [a1 (.iconst 1), a0 (.invokevirtual 115) 3 91 11 30 2 0, none, none, a3 (.iinc 3 1), none, none, a3 (.goto (-23)), none, none, a1 (.iload_n 2), a1 (.aload_n 0), a0 (.getfield 10) 3 49 0 3 0 0, none, none, a0 (.invokevirtual 128) 3 103 11 38 1 0, none, none, a1 (.isub), a1 (.ireturn)]]
/-- 83: EnvyRust$Town.scatter -/
noncomputable def mk_83 : List (List (Option mEnt)) := [[a1 (.iconst 0), a1 (.istore_n 1), a1 (.iload_n 1), a1 (.aload_n 0), a0 (.getfield 27) 3 18 0 2 4 0, none, none, a3 (.if_icmp .ge 42), none, none, a1 (.aload_n 0), a1 (.aload_n 0), a0 (.getfield 33) 3 23 0 2 6 0, none, none, a0 (.ldc 93) 2 158 2 0 0 1103515245, none, a1 (.imul), a3 (.sipush 12345), none, none, a1 (.iadd), a0 (.putfield 33) 3 23 0 2 6 0, none, none, a1 (.aload_n 0), a0 (.getfield 16) 3 10 0 2 1 0, none, none, a1 (.iconst 1), a1 (.aaload), a1 (.iload_n 1)],
  [a1 (.aload_n 0), a0 (.getfield 33) 3 23 0 2 6 0, none, none, a2 (.bipush 8), none, a1 (.iushr), a2 (.bipush 16), none, a1 (.irem), a1 (.iastore), a3 (.iinc 1 1), none, none, a3 (.goto (-44)), none, none, a1 (.return_)]]
/-- 84: EnvyRust.odds -/
noncomputable def mk_84 : List (List (Option mEnt)) := [[a1 (.iload_n 1), a1 (.iconst 0), a2 (.bipush 14), none, a0 (.invokestatic 50) 3 59 12 6 3 0, none, none, a3 (.ifCond .eq 12), none, none, a1 (.iload_n 2), a1 (.iconst 0), a1 (.iconst 1), a0 (.invokestatic 50) 3 59 12 6 3 0, none, none, a3 (.ifCond .ne 11), none, none, a1 (.aload_n 0), a0 (.ldc 54) 2 60 2 0 0 (-1000001), none, a0 (.invokevirtual 55) 3 61 10 7 2 0, none, none, a1 (.i2l), a1 (.lreturn), a2 (.bipush 16), none, a1 (.aload_n 0), a0 (.getfield 10) 3 49 0 3 0 0, none],
  [none, a0 (.invokevirtual 224) 3 160 11 85 1 0, none, none, a0 (.invokestatic 123) 3 98 12 36 1 0, none, none, a1 (.isub), a1 (.istore_n 3), a2 (.bipush 16), none, a2 (.istore 4), none, a2 (.iload 4), none, a1 (.iconst 1), a3 (.if_icmp .le 22), none, none, a1 (.iload_n 3), a1 (.iconst 2), a1 (.irem), a3 (.ifCond .ne 16), none, none, a1 (.iload_n 3), a1 (.iconst 2), a1 (.idiv), a1 (.istore_n 3), a2 (.iload 4), none, a1 (.iconst 2)],
  [a1 (.idiv), a2 (.istore 4), none, a3 (.goto (-22)), none, none, a1 (.lconst 1), a2 (.lstore 5), none, a1 (.iconst 0), a2 (.istore 7), none, a2 (.iload 7), none, a1 (.iload_n 1), a3 (.if_icmp .ge 26), none, none, a2 (.lload 5), none, a1 (.iload_n 2), a3 (.ifCond .ne 8), none, none, a1 (.iload_n 3), a1 (.i2l), a3 (.goto 6), none, none, a2 (.iload 4), none, a1 (.i2l)],
  [a1 (.lmul), a2 (.lstore 5), none, a3 (.iinc 7 1), none, none, a3 (.goto (-26)), none, none, a2 (.lload 5), none, a1 (.lreturn)]]
/-- 85: EnvyRust$Town.placesOfThings -/
noncomputable def mk_85 : List (List (Option mEnt)) := [[a1 (.iconst 0), a1 (.istore_n 1), a1 (.iconst 0), a1 (.istore_n 2), a1 (.iload_n 2), a1 (.aload_n 0), a0 (.getfield 23) 3 15 0 2 3 0, none, none, a3 (.if_icmp .ge 22), none, none, a1 (.iload_n 1), a1 (.iconst 1), a1 (.aload_n 0), a0 (.getfield 13) 3 7 0 2 0 0, none, none, a1 (.iconst 1), a1 (.aaload), a1 (.iload_n 2), a1 (.iaload), a1 (.ishl), a1 (.ior), a1 (.istore_n 1), a3 (.iinc 2 1), none, none, a3 (.goto (-24)), none, none, a1 (.iload_n 1)],
  [a1 (.ireturn)]]
/-- 86: EnvyRust.seed -/
noncomputable def mk_86 : List (List (Option mEnt)) := [[a1 (.aload_n 0), a0 (.getfield 10) 3 49 0 3 0 0, none, none, a0 (.getfield 227) 3 24 1 2 6 0, none, none, a1 (.istore_n 2), a1 (.aload_n 0), a0 (.getfield 10) 3 49 0 3 0 0, none, none, a1 (.iload_n 1), a0 (.putfield 227) 3 24 1 2 6 0, none, none, a1 (.iload_n 2), a1 (.ireturn)]]
/-- 87: EnvyRust.feed -/
noncomputable def mk_87 : List (List (Option mEnt)) := [[a1 (.iload_n 2), a1 (.iconst 1), a1 (.iconst 4), a0 (.invokestatic 50) 3 59 12 6 3 0, none, none, a3 (.ifCond .ne 10), none, none, a1 (.aload_n 0), a0 (.ldc 54) 2 60 2 0 0 (-1000001), none, a0 (.invokevirtual 55) 3 61 10 7 2 0, none, none, a1 (.ireturn), a1 (.aload_n 0), a0 (.getfield 25) 3 52 0 3 3 0, none, none, a0 (.getfield 230) 3 32 1 1 1 0, none, none, a1 (.iload_n 2), a1 (.iadd), a2 (.bipush 120), none, a3 (.if_icmp .le 10), none, none, a1 (.aload_n 0), a0 (.ldc 63) 2 62 2 0 0 (-1000002)],
  [none, a0 (.invokevirtual 55) 3 61 10 7 2 0, none, none, a1 (.ireturn), a1 (.iload_n 2), a1 (.iconst 1), a1 (.isub), a1 (.istore_n 3), a1 (.iload_n 3), a3 (.ifCond .lt 23), none, none, a1 (.aload_n 0), a0 (.getfield 25) 3 52 0 3 3 0, none, none, a1 (.iload_n 1), a2 (.bipush 8), none, a1 (.iload_n 3), a1 (.imul), a1 (.ishr), a1 (.i2b), a0 (.invokevirtual 233) 3 163 11 88 2 0, none, none, a3 (.iinc 3 (-1)), none, none, a3 (.goto (-21)), none],
  [none, a1 (.aload_n 0), a0 (.getfield 25) 3 52 0 3 3 0, none, none, a0 (.getfield 230) 3 32 1 1 1 0, none, none, a1 (.ireturn)]]
/-- 88: EnvyRust$TextReader.put -/
noncomputable def mk_88 : List (List (Option mEnt)) := [[a1 (.aload_n 0), a0 (.getfield 9) 3 30 0 1 0 0, none, none, a1 (.aload_n 0), a0 (.getfield 15) 3 31 0 1 1 0, none, none, a1 (.iload_n 1), a1 (.bastore), a1 (.aload_n 0), a1 (.dup), a0 (.getfield 15) 3 31 0 1 1 0, none, none, a1 (.iconst 1), a1 (.iadd), a0 (.putfield 15) 3 31 0 1 1 0, none, none, a1 (.return_)]]
/-- 89: EnvyRust.wipe -/
noncomputable def mk_89 : List (List (Option mEnt)) := [[a1 (.aload_n 0), a0 (.getfield 25) 3 52 0 3 3 0, none, none, a0 (.getfield 230) 3 32 1 1 1 0, none, none, a1 (.istore_n 1), a1 (.aload_n 0), a0 (.getfield 25) 3 52 0 3 3 0, none, none, a1 (.iconst 0), a0 (.putfield 230) 3 32 1 1 1 0, none, none, a1 (.iload_n 1), a1 (.ireturn)]]
/-- 90: EnvyRust.text -/
noncomputable def mk_90 : List (List (Option mEnt)) := [[a1 (.aload_n 0), a0 (.getfield 10) 3 49 0 3 0 0, none, none, a0 (.getfield 59) 3 16 1 2 3 0, none, none, a1 (.istore_n 1), a1 (.aload_n 0), a0 (.getfield 10) 3 49 0 3 0 0, none, none, a0 (.getfield 93) 3 20 1 2 4 0, none, none, a1 (.istore_n 2), a1 (.aload_n 0), a0 (.getfield 25) 3 52 0 3 3 0, none, none, a1 (.aload_n 0), a0 (.getfield 10) 3 49 0 3 0 0, none, none, a0 (.invokevirtual 237) 3 166 11 91 2 0, none, none, a1 (.istore_n 3), a1 (.aload_n 0), a0 (.getfield 25) 3 52 0 3 3 0, none, none],
  [a0 (.getfield 241) 3 38 1 1 6 0, none, none, a1 (.iconst (-1)), a3 (.if_icmp .eq 19), none, none, a1 (.aload_n 0), a0 (.getfield 10) 3 49 0 3 0 0, none, none, a1 (.iload_n 1), a0 (.putfield 59) 3 16 1 2 3 0, none, none, a1 (.aload_n 0), a0 (.getfield 10) 3 49 0 3 0 0, none, none, a1 (.iload_n 2), a0 (.putfield 93) 3 20 1 2 4 0, none, none, a1 (.aload_n 0), a0 (.getfield 25) 3 52 0 3 3 0, none, none, a1 (.iconst 0), a0 (.putfield 230) 3 32 1 1 1 0, none, none, a1 (.aload_n 0)],
  [a0 (.getfield 25) 3 52 0 3 3 0, none, none, a0 (.getfield 241) 3 38 1 1 6 0, none, none, a1 (.iconst (-1)), a3 (.if_icmp .ne 7), none, none, a1 (.iload_n 3), a3 (.goto 12), none, none, a1 (.iconst (-1)), a1 (.aload_n 0), a0 (.getfield 25) 3 52 0 3 3 0, none, none, a0 (.getfield 241) 3 38 1 1 6 0, none, none, a1 (.isub), a1 (.ireturn)]]
/-- 91: EnvyRust$TextReader.readInto -/
noncomputable def mk_91 : List (List (Option mEnt)) := [[a1 (.aload_n 0), a1 (.iconst (-1)), a0 (.putfield 31) 3 37 0 1 6 0, none, none, a1 (.aload_n 0), a1 (.iconst 0), a0 (.putfield 25) 3 35 0 1 4 0, none, none, a1 (.aload_n 0), a0 (.invokevirtual 34) 3 167 10 92 1 0, none, none, a1 (.iconst 0), a1 (.istore_n 2), a1 (.iconst 1), a1 (.istore_n 3), a1 (.iload_n 3), a3 (.ifCond .eq 106), none, none, a1 (.iload_n 2), a2 (.bipush 120), none, a3 (.if_icmp .gt 100), none, none, a1 (.aload_n 0), a0 (.invokevirtual 37) 3 171 10 95 1 0, none, none],
  [a2 (.istore 4), none, a2 (.iload 4), none, a1 (.iconst (-1)), a3 (.if_icmp .eq 22), none, none, a1 (.aload_n 1), a0 (.getfield 41) 3 19 1 2 4 0, none, none, a2 (.bipush 8), none, a3 (.if_icmp .ge 13), none, none, a1 (.aload_n 0), a1 (.aload_n 1), a2 (.iload 4), none, a0 (.invokevirtual 46) 3 183 10 109 3 0, none, none, a3 (.goto 33), none, none, a1 (.aload_n 0), a0 (.ldc 50) 2 191 3 0 0 0, none, a0 (.invokevirtual 52) 3 180 10 97 2 0, none],
  [none, a3 (.ifCond .eq 20), none, none, a1 (.aload_n 1), a0 (.getfield 56) 3 17 1 2 3 0, none, none, a2 (.bipush 8), none, a3 (.if_icmp .ge 11), none, none, a1 (.aload_n 0), a1 (.aload_n 1), a0 (.invokevirtual 59) 3 192 10 113 2 0, none, none, a3 (.goto 7), none, none, a1 (.aload_n 0), a0 (.invokevirtual 63) 3 187 10 112 1 0, none, none, a3 (.iinc 2 1), none, none, a1 (.aload_n 0), a0 (.getfield 31) 3 37 0 1 6 0, none, none],
  [a1 (.iconst (-1)), a3 (.if_icmp .ne 15), none, none, a1 (.aload_n 0), a0 (.getfield 19) 3 33 0 1 2 0, none, none, a1 (.iconst 3), a3 (.if_icmp .ne 7), none, none, a1 (.iconst 1), a3 (.goto 4), none, none, a1 (.iconst 0), a1 (.istore_n 3), a1 (.iload_n 3), a3 (.ifCond .eq 7), none, none, a1 (.aload_n 0), a0 (.invokevirtual 34) 3 167 10 92 1 0, none, none, a3 (.goto (-104)), none, none, a1 (.aload_n 0), a0 (.getfield 19) 3 33 0 1 2 0, none],
  [none, a3 (.ifCond .eq 7), none, none, a1 (.aload_n 0), a0 (.invokevirtual 63) 3 187 10 112 1 0, none, none, a1 (.iload_n 2), a1 (.ireturn)]]
/-- 92: EnvyRust$TextReader.advance -/
noncomputable def mk_92_0 : List (List (Option mEnt)) := [[a1 (.aload_n 0), a1 (.aload_n 0), a0 (.getfield 25) 3 35 0 1 4 0, none, none, a0 (.putfield 22) 3 34 0 1 3 0, none, none, a1 (.aload_n 0), a0 (.getfield 22) 3 34 0 1 3 0, none, none, a1 (.aload_n 0), a0 (.getfield 15) 3 31 0 1 1 0, none, none, a3 (.if_icmp .ge 30), none, none, a1 (.aload_n 0), a0 (.getfield 9) 3 30 0 1 0 0, none, none, a1 (.aload_n 0), a0 (.getfield 22) 3 34 0 1 3 0, none, none, a1 (.baload), a2 (.bipush 32), none, a3 (.if_icmp .ne 16), none],
  [none, a1 (.aload_n 0), a1 (.dup), a0 (.getfield 22) 3 34 0 1 3 0, none, none, a1 (.iconst 1), a1 (.iadd), a0 (.putfield 22) 3 34 0 1 3 0, none, none, a3 (.goto (-35)), none, none, a1 (.aload_n 0), a1 (.aload_n 0), a0 (.getfield 22) 3 34 0 1 3 0, none, none, a0 (.putfield 25) 3 35 0 1 4 0, none, none, a1 (.aload_n 0), a0 (.getfield 22) 3 34 0 1 3 0, none, none, a1 (.aload_n 0), a0 (.getfield 15) 3 31 0 1 1 0, none, none, a3 (.if_icmp .lt 11), none],
  [none, a1 (.aload_n 0), a1 (.iconst 0), a0 (.putfield 19) 3 33 0 1 2 0, none, none, a3 (.goto 189), none, none, a1 (.aload_n 0), a0 (.getfield 9) 3 30 0 1 0 0, none, none, a1 (.aload_n 0), a0 (.getfield 25) 3 35 0 1 4 0, none, none, a1 (.baload), a0 (.invokestatic 129) 3 168 12 93 1 0, none, none, a3 (.ifCond .eq 47), none, none, a1 (.aload_n 0), a1 (.iconst 1), a0 (.putfield 19) 3 33 0 1 2 0, none, none, a1 (.aload_n 0), a0 (.getfield 25) 3 35 0 1 4 0, none],
  [none, a1 (.aload_n 0), a0 (.getfield 15) 3 31 0 1 1 0, none, none, a3 (.if_icmp .ge 158), none, none, a1 (.aload_n 0), a0 (.getfield 9) 3 30 0 1 0 0, none, none, a1 (.aload_n 0), a0 (.getfield 25) 3 35 0 1 4 0, none, none, a1 (.baload), a0 (.invokestatic 129) 3 168 12 93 1 0, none, none, a3 (.ifCond .eq 143), none, none, a1 (.aload_n 0), a1 (.dup), a0 (.getfield 25) 3 35 0 1 4 0, none, none, a1 (.iconst 1), a1 (.iadd), a0 (.putfield 25) 3 35 0 1 4 0, none],
  [none, a3 (.goto (-36)), none, none, a1 (.aload_n 0), a0 (.getfield 9) 3 30 0 1 0 0, none, none, a1 (.aload_n 0), a0 (.getfield 25) 3 35 0 1 4 0, none, none, a1 (.baload), a0 (.invokestatic 133) 3 169 12 94 1 0, none, none, a3 (.ifCond .eq 82), none, none, a1 (.aload_n 0), a1 (.iconst 2), a0 (.putfield 19) 3 33 0 1 2 0, none, none, a1 (.aload_n 0), a1 (.iconst 0), a0 (.putfield 28) 3 36 0 1 5 0, none, none, a1 (.aload_n 0), a0 (.getfield 25) 3 35 0 1 4 0, none],
  [none, a1 (.aload_n 0), a0 (.getfield 15) 3 31 0 1 1 0, none, none, a3 (.if_icmp .ge 94), none, none, a1 (.aload_n 0), a0 (.getfield 9) 3 30 0 1 0 0, none, none, a1 (.aload_n 0), a0 (.getfield 25) 3 35 0 1 4 0, none, none, a1 (.baload), a0 (.invokestatic 133) 3 169 12 94 1 0, none, none, a3 (.ifCond .eq 79), none, none, a1 (.aload_n 0), a3 (.sipush 1000), none, none, a1 (.aload_n 0), a0 (.getfield 28) 3 36 0 1 5 0, none, none, a2 (.bipush 10)],
  [none, a1 (.imul), a1 (.aload_n 0), a0 (.getfield 9) 3 30 0 1 0 0, none, none, a1 (.aload_n 0), a0 (.getfield 25) 3 35 0 1 4 0, none, none, a1 (.baload), a1 (.iadd), a2 (.bipush 48), none, a1 (.isub), a0 (.invokestatic 136) 3 170 25 0 0 0, none, none, a0 (.putfield 28) 3 36 0 1 5 0, none, none, a1 (.aload_n 0), a1 (.dup), a0 (.getfield 25) 3 35 0 1 4 0, none, none, a1 (.iconst 1), a1 (.iadd), a0 (.putfield 25) 3 35 0 1 4 0, none, none, a3 (.goto (-66))],
  [none, none, a1 (.aload_n 0), a1 (.aload_n 0), a0 (.getfield 9) 3 30 0 1 0 0, none, none, a1 (.aload_n 0), a0 (.getfield 22) 3 34 0 1 3 0, none, none, a1 (.baload), a2 (.bipush 59), none, a3 (.if_icmp .ne 7), none, none, a1 (.iconst 3), a3 (.goto 4), none, none, a1 (.iconst 4), a0 (.putfield 19) 3 33 0 1 2 0, none, none, a1 (.aload_n 0), a1 (.dup), a0 (.getfield 25) 3 35 0 1 4 0, none, none, a1 (.iconst 1), a1 (.iadd)]]
noncomputable def mk_92_1 : List (List (Option mEnt)) := [[a0 (.putfield 25) 3 35 0 1 4 0, none, none, a1 (.return_)]]
noncomputable def mk_92 : List (List (Option mEnt)) := mk_92_0 ++ (mk_92_1)
/-- 93: EnvyRust$TextReader.isLetter -/
noncomputable def mk_93 : List (List (Option mEnt)) := [[a1 (.iload_n 0), a2 (.bipush 97), none, a3 (.if_icmp .lt 13), none, none, a1 (.iload_n 0), a2 (.bipush 122), none, a3 (.if_icmp .gt 7), none, none, a1 (.iconst 1), a3 (.goto 4), none, none, a1 (.iconst 0), a1 (.ireturn)]]
/-- 94: EnvyRust$TextReader.isDigit -/
noncomputable def mk_94 : List (List (Option mEnt)) := [[a1 (.iload_n 0), a2 (.bipush 48), none, a3 (.if_icmp .lt 13), none, none, a1 (.iload_n 0), a2 (.bipush 57), none, a3 (.if_icmp .gt 7), none, none, a1 (.iconst 1), a3 (.goto 4), none, none, a1 (.iconst 0), a1 (.ireturn)]]
/-- 95: EnvyRust$TextReader.kindTold -/
noncomputable def mk_95 : List (List (Option mEnt)) := [[a1 (.iconst 0), a1 (.istore_n 1), a1 (.iload_n 1), a2 (.bipush 7), none, a3 (.if_icmp .ge 22), none, none, a1 (.aload_n 0), a1 (.iload_n 1), a0 (.invokestatic 102) 3 172 12 96 1 0, none, none, a0 (.invokevirtual 52) 3 180 10 97 2 0, none, none, a3 (.ifCond .eq 5), none, none, a1 (.iload_n 1), a1 (.ireturn), a3 (.iinc 1 1), none, none, a3 (.goto (-22)), none, none, a1 (.iconst (-1)), a1 (.ireturn)]]
/-- 96: EnvyRust$TextReader.wordOfKind -/
noncomputable def mk_96 : List (List (Option mEnt)) := [[a1 (.iload_n 0), a0 (.tableswitch 57 1 6 #[39, 42, 45, 48, 51, 54]) 39 0 0 0 0 0, none, none, none, none, none, none, none, none, none, none, none, none, none, none, none, none, none, none, none, none, none, none, none, none, none, none, none, none, none, none],
  [none, none, none, none, none, none, none, none, a0 (.ldc 106) 2 173 3 0 1 0, none, a1 (.areturn), a0 (.ldc 108) 2 174 3 0 2 0, none, a1 (.areturn), a0 (.ldc 110) 2 175 3 0 3 0, none, a1 (.areturn), a0 (.ldc 112) 2 176 3 0 4 0, none, a1 (.areturn), a0 (.ldc 114) 2 177 3 0 5 0, none, a1 (.areturn), a0 (.ldc 116) 2 178 3 0 6 0, none, a1 (.areturn), a0 (.ldc 118) 2 179 3 0 7 0, none, a1 (.areturn)]]
/-- 97: EnvyRust$TextReader.isWord -/
noncomputable def mk_97 : List (List (Option mEnt)) := [[a1 (.aload_n 0), a0 (.getfield 19) 3 33 0 1 2 0, none, none, a1 (.iconst 1), a3 (.if_icmp .ne 19), none, none, a1 (.aload_n 0), a0 (.getfield 25) 3 35 0 1 4 0, none, none, a1 (.aload_n 0), a0 (.getfield 22) 3 34 0 1 3 0, none, none, a1 (.isub), a1 (.aload_n 1), a0 (.invokevirtual 120) 3 181 22 0 0 0, none, none, a3 (.if_icmp .eq 5), none, none, a1 (.iconst 0), a1 (.ireturn), a1 (.iconst 0), a1 (.istore_n 2), a1 (.iload_n 2), a1 (.aload_n 1), a0 (.invokevirtual 120) 3 181 22 0 0 0, none],
  [none, a3 (.if_icmp .ge 30), none, none, a1 (.aload_n 0), a0 (.getfield 9) 3 30 0 1 0 0, none, none, a1 (.aload_n 0), a0 (.getfield 22) 3 34 0 1 3 0, none, none, a1 (.iload_n 2), a1 (.iadd), a1 (.baload), a1 (.aload_n 1), a1 (.iload_n 2), a0 (.invokevirtual 125) 3 182 23 0 0 0, none, none, a3 (.if_icmp .eq 5), none, none, a1 (.iconst 0), a1 (.ireturn), a3 (.iinc 2 1), none, none, a3 (.goto (-32)), none, none, a1 (.iconst 1)],
  [a1 (.ireturn)]]
/-- 98: java/lang/String.length -/
noncomputable def mk_98 : List (List (Option mEnt)) := []
/-- 99: java/lang/String.coder -/
noncomputable def mk_99 : List (List (Option mEnt)) := []
/-- 100: java/lang/String.charAt -/
noncomputable def mk_100 : List (List (Option mEnt)) := []
/-- 101: java/lang/String.isLatin1 -/
noncomputable def mk_101 : List (List (Option mEnt)) := []
/-- 102: java/lang/StringLatin1.charAt -/
noncomputable def mk_102 : List (List (Option mEnt)) := []
/-- 103: java/lang/String.checkIndex -/
noncomputable def mk_103 : List (List (Option mEnt)) := []
/-- 104: jdk/internal/util/Preconditions.checkIndex -/
noncomputable def mk_104 : List (List (Option mEnt)) := []
/-- 105: java/lang/StringUTF16.charAt -/
noncomputable def mk_105 : List (List (Option mEnt)) := []
/-- 106: java/lang/StringUTF16.checkIndex -/
noncomputable def mk_106 : List (List (Option mEnt)) := []
/-- 107: java/lang/StringUTF16.length -/
noncomputable def mk_107 : List (List (Option mEnt)) := []
/-- 108: java/lang/StringUTF16.getChar -/
noncomputable def mk_108 : List (List (Option mEnt)) := []
/-- 109: EnvyRust$TextReader.readPerson -/
noncomputable def mk_109 : List (List (Option mEnt)) := [[a1 (.aload_n 0), a0 (.invokevirtual 34) 3 167 10 92 1 0, none, none, a1 (.aload_n 0), a0 (.ldc 66) 2 184 3 0 8 0, none, a2 (.bipush 15), none, a1 (.iconst 0), a0 (.invokevirtual 68) 3 185 10 110 4 0, none, none, a1 (.istore_n 3), a1 (.aload_n 0), a0 (.ldc 72) 2 188 3 0 9 0, none, a2 (.bipush 15), none, a1 (.iconst 1), a0 (.invokevirtual 68) 3 185 10 110 4 0, none, none, a2 (.istore 4), none, a1 (.aload_n 1), a1 (.iload_n 2), a1 (.iload_n 3), a0 (.invokevirtual 74) 3 189 11 23 3 0, none, none, a2 (.istore 5)],
  [none, a1 (.aload_n 1), a0 (.getfield 78) 3 11 1 2 1 0, none, none, a1 (.iconst 2), a1 (.aaload), a2 (.iload 5), none, a2 (.iload 4), none, a1 (.iastore), a1 (.aload_n 0), a0 (.getfield 31) 3 37 0 1 6 0, none, none, a1 (.iconst (-1)), a3 (.if_icmp .ne 49), none, none, a1 (.aload_n 0), a0 (.ldc 82) 2 190 3 0 10 0, none, a0 (.invokevirtual 52) 3 180 10 97 2 0, none, none, a3 (.ifCond .eq 40), none, none, a1 (.aload_n 0), a0 (.invokevirtual 34) 3 167 10 92 1 0, none],
  [none, a1 (.iconst 0), a2 (.istore 6), none, a2 (.iload 6), none, a1 (.iconst 4), a3 (.if_icmp .ge 27), none, none, a1 (.aload_n 1), a0 (.getfield 78) 3 11 1 2 1 0, none, none, a1 (.iconst 3), a2 (.iload 6), none, a1 (.iadd), a1 (.aaload), a2 (.iload 5), none, a1 (.aload_n 0), a2 (.bipush 9), none, a0 (.invokevirtual 84) 3 186 10 111 2 0, none, none, a1 (.iastore), a3 (.iinc 6 1), none, none, a3 (.goto (-27))],
  [none, none, a1 (.return_)]]
/-- 110: EnvyRust$TextReader.readPerhaps -/
noncomputable def mk_110 : List (List (Option mEnt)) := [[a1 (.aload_n 0), a0 (.getfield 31) 3 37 0 1 6 0, none, none, a1 (.iconst (-1)), a3 (.if_icmp .ne 11), none, none, a1 (.aload_n 0), a1 (.aload_n 1), a0 (.invokevirtual 52) 3 180 10 97 2 0, none, none, a3 (.ifCond .ne 5), none, none, a1 (.iload_n 3), a1 (.ireturn), a1 (.aload_n 0), a0 (.invokevirtual 34) 3 167 10 92 1 0, none, none, a1 (.aload_n 0), a1 (.iload_n 2), a0 (.invokevirtual 84) 3 186 10 111 2 0, none, none, a1 (.ireturn)]]
/-- 111: EnvyRust$TextReader.readNumber -/
noncomputable def mk_111 : List (List (Option mEnt)) := [[a1 (.aload_n 0), a0 (.getfield 19) 3 33 0 1 2 0, none, none, a1 (.iconst 2), a3 (.if_icmp .ne 11), none, none, a1 (.aload_n 0), a0 (.getfield 28) 3 36 0 1 5 0, none, none, a1 (.iload_n 1), a3 (.if_icmp .le 7), none, none, a1 (.aload_n 0), a0 (.invokevirtual 63) 3 187 10 112 1 0, none, none, a1 (.aload_n 0), a0 (.getfield 31) 3 37 0 1 6 0, none, none, a1 (.iconst (-1)), a3 (.if_icmp .eq 5), none, none, a1 (.iconst 0), a1 (.ireturn), a1 (.aload_n 0), a0 (.getfield 28) 3 36 0 1 5 0],
  [none, none, a1 (.istore_n 2), a1 (.aload_n 0), a0 (.invokevirtual 34) 3 167 10 92 1 0, none, none, a1 (.iload_n 2), a1 (.ireturn)]]
/-- 112: EnvyRust$TextReader.fail -/
noncomputable def mk_112 : List (List (Option mEnt)) := [[a1 (.aload_n 0), a0 (.getfield 31) 3 37 0 1 6 0, none, none, a1 (.iconst (-1)), a3 (.if_icmp .ne 11), none, none, a1 (.aload_n 0), a1 (.aload_n 0), a0 (.getfield 22) 3 34 0 1 3 0, none, none, a0 (.putfield 31) 3 37 0 1 6 0, none, none, a1 (.return_)]]
/-- 113: EnvyRust$TextReader.readThing -/
noncomputable def mk_113 : List (List (Option mEnt)) := [[a1 (.aload_n 0), a0 (.invokevirtual 34) 3 167 10 92 1 0, none, none, a1 (.aload_n 0), a1 (.iconst 3), a0 (.invokevirtual 84) 3 186 10 111 2 0, none, none, a1 (.istore_n 2), a1 (.aload_n 0), a0 (.ldc 66) 2 184 3 0 8 0, none, a2 (.bipush 15), none, a1 (.iconst 0), a0 (.invokevirtual 68) 3 185 10 110 4 0, none, none, a1 (.istore_n 3), a1 (.aload_n 0), a0 (.ldc 88) 2 193 3 0 11 0, none, a3 (.sipush 999), none, none, a2 (.bipush 100), none, a0 (.invokevirtual 68) 3 185 10 110 4 0, none, none, a2 (.istore 4)],
  [none, a1 (.aload_n 0), a0 (.ldc 90) 2 194 3 0 12 0, none, a2 (.bipush 9), none, a1 (.iconst 0), a0 (.invokevirtual 68) 3 185 10 110 4 0, none, none, a2 (.istore 5), none, a1 (.aload_n 0), a0 (.ldc 92) 2 195 3 0 13 0, none, a1 (.aload_n 1), a0 (.getfield 41) 3 19 1 2 4 0, none, none, a1 (.iconst 1), a1 (.isub), a1 (.iconst (-1)), a0 (.invokevirtual 68) 3 185 10 110 4 0, none, none, a2 (.istore 6), none, a1 (.aload_n 0), a0 (.ldc 94) 2 196 3 0 14 0, none, a1 (.aload_n 1), a0 (.getfield 56) 3 17 1 2 3 0],
  [none, none, a1 (.iconst 1), a1 (.isub), a1 (.iconst (-1)), a0 (.invokevirtual 68) 3 185 10 110 4 0, none, none, a2 (.istore 7), none, a1 (.aload_n 1), a1 (.iload_n 2), a1 (.iload_n 3), a0 (.invokevirtual 96) 3 197 11 8 3 0, none, none, a2 (.istore 8), none, a1 (.aload_n 1), a0 (.getfield 99) 3 9 1 2 0 0, none, none, a1 (.iconst 2), a1 (.aaload), a2 (.iload 8), none, a2 (.iload 4), none, a1 (.iastore), a1 (.aload_n 1), a0 (.getfield 99) 3 9 1 2 0 0, none],
  [none, a1 (.iconst 3), a1 (.aaload), a2 (.iload 8), none, a2 (.iload 5), none, a1 (.iastore), a1 (.aload_n 1), a0 (.getfield 99) 3 9 1 2 0 0, none, none, a1 (.iconst 4), a1 (.aaload), a2 (.iload 8), none, a2 (.iload 6), none, a1 (.iastore), a1 (.aload_n 1), a0 (.getfield 99) 3 9 1 2 0 0, none, none, a1 (.iconst 5), a1 (.aaload), a2 (.iload 8), none, a2 (.iload 7), none, a1 (.iastore), a1 (.return_)]]
/-- 114: EnvyRust.hold -/
noncomputable def mk_114 : List (List (Option mEnt)) := [[a1 (.iload_n 1), a1 (.iconst 0), a2 (.bipush 9), none, a0 (.invokestatic 50) 3 59 12 6 3 0, none, none, a3 (.ifCond .eq 19), none, none, a1 (.iload_n 2), a1 (.iconst (-1)), a3 (.if_icmp .eq 21), none, none, a1 (.aload_n 0), a0 (.getfield 10) 3 49 0 3 0 0, none, none, a1 (.iload_n 2), a0 (.invokevirtual 90) 3 76 11 19 2 0, none, none, a3 (.ifCond .ne 10), none, none, a1 (.aload_n 0), a0 (.ldc 54) 2 60 2 0 0 (-1000001), none, a0 (.invokevirtual 55) 3 61 10 7 2 0, none, none],
  [a1 (.ireturn), a1 (.aload_n 0), a0 (.getfield 10) 3 49 0 3 0 0, none, none, a0 (.getfield 244) 3 14 1 2 2 0, none, none, a1 (.iload_n 1), a1 (.iload_n 2), a1 (.iastore), a1 (.iconst 1), a1 (.ireturn)]]
/-- 115: EnvyRust.as -/
noncomputable def mk_115 : List (List (Option mEnt)) := [[a1 (.iload_n 1), a1 (.iconst 0), a2 (.bipush 9), none, a0 (.invokestatic 50) 3 59 12 6 3 0, none, none, a3 (.ifCond .eq 13), none, none, a1 (.iload_n 2), a1 (.iconst 0), a2 (.bipush 6), none, a0 (.invokestatic 50) 3 59 12 6 3 0, none, none, a3 (.ifCond .ne 10), none, none, a1 (.aload_n 0), a0 (.ldc 54) 2 60 2 0 0 (-1000001), none, a0 (.invokevirtual 55) 3 61 10 7 2 0, none, none, a1 (.ireturn), a1 (.aload_n 0), a0 (.getfield 10) 3 49 0 3 0 0, none, none, a0 (.getfield 244) 3 14 1 2 2 0],
  [none, none, a1 (.iload_n 1), a1 (.iaload), a1 (.istore_n 3), a1 (.iload_n 3), a1 (.iconst (-1)), a3 (.if_icmp .ne 10), none, none, a1 (.aload_n 0), a0 (.ldc 247) 2 153 2 0 0 (-1000006), none, a0 (.invokevirtual 55) 3 61 10 7 2 0, none, none, a1 (.ireturn), a1 (.aload_n 0), a0 (.getfield 10) 3 49 0 3 0 0, none, none, a0 (.getfield 102) 3 12 1 2 1 0, none, none, a1 (.iconst 0), a1 (.aaload), a1 (.iload_n 3), a1 (.iaload), a1 (.iload_n 2), a0 (.invokestatic 248) 3 200 12 14 2 0, none, none],
  [a3 (.ifCond .eq 7), none, none, a1 (.iload_n 3), a3 (.goto 9), none, none, a1 (.aload_n 0), a0 (.ldc 251) 2 201 2 0 0 (-1000003), none, a0 (.invokevirtual 55) 3 61 10 7 2 0, none, none, a1 (.ireturn)]]
/-- 116: EnvyRust.sheet -/
noncomputable def mk_116 : List (List (Option mEnt)) := [[a1 (.iload_n 1), a0 (.invokestatic 252) 3 151 12 78 1 0, none, none, a3 (.ifCond .eq 25), none, none, a1 (.iload_n 2), a3 (.ifCond .eq 28), none, none, a1 (.iload_n 2), a2 (.bipush 8), none, a3 (.if_icmp .eq 22), none, none, a1 (.iload_n 2), a2 (.bipush 16), none, a3 (.if_icmp .eq 16), none, none, a1 (.iload_n 2), a2 (.bipush 32), none, a3 (.if_icmp .eq 10), none, none, a1 (.aload_n 0), a0 (.ldc 54) 2 60 2 0 0 (-1000001), none],
  [a0 (.invokevirtual 55) 3 61 10 7 2 0, none, none, a1 (.ireturn), a1 (.iload_n 3), a3 (.ifCond .ge 10), none, none, a1 (.aload_n 0), a0 (.ldc 255) 2 203 2 0 0 (-1000007), none, a0 (.invokevirtual 55) 3 61 10 7 2 0, none, none, a1 (.ireturn), a1 (.iload_n 3), a2 (.bipush 40), none, a3 (.if_icmp .le 10), none, none, a1 (.aload_n 0), a0 (.ldc 54) 2 60 2 0 0 (-1000001), none, a0 (.invokevirtual 55) 3 61 10 7 2 0, none, none, a1 (.ireturn), a1 (.aload_n 0), a0 (.getfield 31) 3 53 0 3 4 0, none, none],
  [a1 (.iload_n 1), a1 (.aaload), a1 (.iload_n 2), a1 (.iload_n 3), a0 (.invokevirtual 256) 3 204 11 117 3 0, none, none, a1 (.aload_n 0), a0 (.getfield 31) 3 53 0 3 4 0, none, none, a1 (.iload_n 1), a1 (.aaload), a0 (.getfield 215) 3 48 1 0 2 0, none, none, a1 (.ireturn)]]
/-- 117: EnvyRust$Sheet.lay -/
noncomputable def mk_117 : List (List (Option mEnt)) := [[a1 (.aload_n 0), a1 (.iload_n 1), a0 (.putfield 15) 3 45 0 0 1 0, none, none, a1 (.aload_n 0), a1 (.iload_n 1), a3 (.ifCond .ne 7), none, none, a1 (.iconst 0), a3 (.goto 4), none, none, a1 (.iload_n 2), a0 (.putfield 19) 3 47 0 0 2 0, none, none, a1 (.iconst 0), a1 (.istore_n 3), a1 (.iload_n 3), a2 (.bipush 40), none, a3 (.if_icmp .ge 16), none, none, a1 (.aload_n 0), a0 (.getfield 9) 3 43 0 0 0 0, none, none, a1 (.iload_n 3), a1 (.iconst 0)],
  [a1 (.iastore), a3 (.iinc 3 1), none, none, a3 (.goto (-16)), none, none, a1 (.return_)]]
/-- 118: EnvyRust.write -/
noncomputable def mk_118 : List (List (Option mEnt)) := [[a1 (.aload_n 0), a1 (.iload_n 1), a0 (.invokevirtual 212) 3 150 10 77 2 0, none, none, a2 (.istore 4), none, a2 (.iload 4), none, a3 (.ifCond .eq 10), none, none, a1 (.aload_n 0), a2 (.iload 4), none, a0 (.invokevirtual 55) 3 61 10 7 2 0, none, none, a1 (.ireturn), a1 (.iload_n 2), a1 (.iconst 0), a1 (.aload_n 0), a0 (.getfield 31) 3 53 0 3 4 0, none, none, a1 (.iload_n 1), a1 (.aaload), a0 (.getfield 215) 3 48 1 0 2 0, none, none, a1 (.iconst 1), a1 (.isub)],
  [a0 (.invokestatic 50) 3 59 12 6 3 0, none, none, a3 (.ifCond .ne 10), none, none, a1 (.aload_n 0), a0 (.ldc 54) 2 60 2 0 0 (-1000001), none, a0 (.invokevirtual 55) 3 61 10 7 2 0, none, none, a1 (.ireturn), a1 (.aload_n 0), a0 (.getfield 31) 3 53 0 3 4 0, none, none, a1 (.iload_n 1), a1 (.aaload), a1 (.iload_n 2), a1 (.iload_n 3), a0 (.invokevirtual 260) 3 206 11 119 3 0, none, none, a1 (.iconst 1), a1 (.ireturn)]]
/-- 119: EnvyRust$Sheet.put -/
noncomputable def mk_119 : List (List (Option mEnt)) := [[a1 (.aload_n 0), a0 (.getfield 15) 3 45 0 0 1 0, none, none, a2 (.bipush 8), none, a3 (.if_icmp .ne 14), none, none, a1 (.aload_n 0), a0 (.getfield 9) 3 43 0 0 0 0, none, none, a1 (.iload_n 1), a1 (.iload_n 2), a1 (.i2b), a1 (.iastore), a3 (.goto 30), none, none, a1 (.aload_n 0), a0 (.getfield 15) 3 45 0 0 1 0, none, none, a2 (.bipush 16), none, a3 (.if_icmp .ne 14), none, none, a1 (.aload_n 0), a0 (.getfield 9) 3 43 0 0 0 0, none],
  [none, a1 (.iload_n 1), a1 (.iload_n 2), a1 (.i2s), a1 (.iastore), a3 (.goto 10), none, none, a1 (.aload_n 0), a0 (.getfield 9) 3 43 0 0 0 0, none, none, a1 (.iload_n 1), a1 (.iload_n 2), a1 (.iastore), a1 (.return_)]]
/-- 120: EnvyRust.copy -/
noncomputable def mk_120 : List (List (Option mEnt)) := [[a1 (.iload_n 1), a0 (.invokestatic 252) 3 151 12 78 1 0, none, none, a3 (.ifCond .eq 10), none, none, a1 (.iload_n 3), a0 (.invokestatic 252) 3 151 12 78 1 0, none, none, a3 (.ifCond .ne 10), none, none, a1 (.aload_n 0), a0 (.ldc 54) 2 60 2 0 0 (-1000001), none, a0 (.invokevirtual 55) 3 61 10 7 2 0, none, none, a1 (.ireturn), a1 (.aload_n 0), a0 (.getfield 31) 3 53 0 3 4 0, none, none, a1 (.iload_n 1), a1 (.aaload), a0 (.invokevirtual 262) 3 152 11 79 1 0, none, none, a3 (.ifCond .ne 15), none],
  [none, a1 (.aload_n 0), a0 (.getfield 31) 3 53 0 3 4 0, none, none, a1 (.iload_n 3), a1 (.aaload), a0 (.invokevirtual 262) 3 152 11 79 1 0, none, none, a3 (.ifCond .eq 10), none, none, a1 (.aload_n 0), a0 (.ldc 247) 2 153 2 0 0 (-1000006), none, a0 (.invokevirtual 55) 3 61 10 7 2 0, none, none, a1 (.ireturn), a1 (.aload_n 0), a0 (.getfield 31) 3 53 0 3 4 0, none, none, a1 (.iload_n 1), a1 (.aaload), a0 (.getfield 266) 3 46 1 0 1 0, none, none, a1 (.aload_n 0), a0 (.getfield 31) 3 53 0 3 4 0, none],
  [none, a1 (.iload_n 3), a1 (.aaload), a0 (.getfield 266) 3 46 1 0 1 0, none, none, a3 (.if_icmp .eq 10), none, none, a1 (.aload_n 0), a0 (.ldc 251) 2 201 2 0 0 (-1000003), none, a0 (.invokevirtual 55) 3 61 10 7 2 0, none, none, a1 (.ireturn), a1 (.aload_n 0), a0 (.getfield 31) 3 53 0 3 4 0, none, none, a1 (.iload_n 1), a1 (.aaload), a1 (.iload_n 2), a2 (.iload 5), none, a0 (.invokevirtual 269) 3 208 11 121 3 0, none, none, a3 (.ifCond .eq 19), none, none, a1 (.aload_n 0)],
  [a0 (.getfield 31) 3 53 0 3 4 0, none, none, a1 (.iload_n 3), a1 (.aaload), a2 (.iload 4), none, a2 (.iload 5), none, a0 (.invokevirtual 269) 3 208 11 121 3 0, none, none, a3 (.ifCond .ne 10), none, none, a1 (.aload_n 0), a0 (.ldc 54) 2 60 2 0 0 (-1000001), none, a0 (.invokevirtual 55) 3 61 10 7 2 0, none, none, a1 (.ireturn), a1 (.aload_n 0), a0 (.getfield 31) 3 53 0 3 4 0, none, none, a1 (.iload_n 1), a1 (.aaload), a0 (.getfield 218) 3 44 1 0 0 0, none, none, a1 (.iload_n 2)],
  [a1 (.aload_n 0), a0 (.getfield 31) 3 53 0 3 4 0, none, none, a1 (.iload_n 3), a1 (.aaload), a0 (.getfield 218) 3 44 1 0 0 0, none, none, a2 (.iload 4), none, a2 (.iload 5), none, a0 (.invokestatic 172) 3 127 21 0 0 0, none, none, a2 (.iload 5), none, a1 (.ireturn)]]
/-- 121: EnvyRust$Sheet.has -/
noncomputable def mk_121 : List (List (Option mEnt)) := [[a1 (.iload_n 1), a3 (.ifCond .lt 29), none, none, a1 (.iload_n 2), a3 (.ifCond .lt 25), none, none, a1 (.iload_n 1), a1 (.aload_n 0), a0 (.getfield 19) 3 47 0 0 2 0, none, none, a3 (.if_icmp .gt 17), none, none, a1 (.iload_n 2), a1 (.aload_n 0), a0 (.getfield 19) 3 47 0 0 2 0, none, none, a1 (.iload_n 1), a1 (.isub), a3 (.if_icmp .gt 7), none, none, a1 (.iconst 1), a3 (.goto 4), none, none, a1 (.iconst 0), a1 (.ireturn)]]
/-- 122: EnvyRust.load -/
noncomputable def mk_122 : List (List (Option mEnt)) := [[a1 (.aload_n 0), a1 (.iload_n 1), a0 (.invokevirtual 212) 3 150 10 77 2 0, none, none, a1 (.istore_n 2), a1 (.iload_n 2), a3 (.ifCond .eq 9), none, none, a1 (.aload_n 0), a1 (.iload_n 2), a0 (.invokevirtual 55) 3 61 10 7 2 0, none, none, a1 (.ireturn), a1 (.aload_n 0), a0 (.getfield 31) 3 53 0 3 4 0, none, none, a1 (.iload_n 1), a1 (.aaload), a0 (.getfield 215) 3 48 1 0 2 0, none, none, a1 (.aload_n 0), a0 (.getfield 10) 3 49 0 3 0 0, none, none, a0 (.getfield 59) 3 16 1 2 3 0, none, none],
  [a0 (.invokestatic 157) 3 125 25 0 0 0, none, none, a1 (.istore_n 3), a1 (.iconst 0), a2 (.istore 4), none, a2 (.iload 4), none, a1 (.iload_n 3), a3 (.if_icmp .ge 52), none, none, a1 (.aload_n 0), a0 (.getfield 31) 3 53 0 3 4 0, none, none, a1 (.iload_n 1), a1 (.aaload), a0 (.getfield 218) 3 44 1 0 0 0, none, none, a2 (.iload 4), none, a1 (.iaload), a2 (.istore 5), none, a2 (.iload 5), none, a1 (.iconst 0), a3 (.sipush 999), none],
  [none, a0 (.invokestatic 50) 3 59 12 6 3 0, none, none, a3 (.ifCond .ne 6), none, none, a2 (.iload 4), none, a1 (.ireturn), a1 (.aload_n 0), a0 (.getfield 10) 3 49 0 3 0 0, none, none, a0 (.getfield 75) 3 8 1 2 0 0, none, none, a1 (.iconst 2), a1 (.aaload), a2 (.iload 4), none, a2 (.iload 5), none, a1 (.iastore), a3 (.iinc 4 1), none, none, a3 (.goto (-52)), none, none, a1 (.iload_n 3), a1 (.ireturn)]]
/-- 123: EnvyRust.judge -/
noncomputable def mk_123 : List (List (Option mEnt)) := [[a1 (.aload_n 0), a1 (.iload_n 1), a0 (.invokevirtual 212) 3 150 10 77 2 0, none, none, a1 (.istore_n 2), a1 (.iload_n 2), a3 (.ifCond .eq 9), none, none, a1 (.aload_n 0), a1 (.iload_n 2), a0 (.invokevirtual 55) 3 61 10 7 2 0, none, none, a1 (.ireturn), a1 (.iconst 0), a1 (.istore_n 3), a1 (.iload_n 3), a1 (.aload_n 0), a0 (.getfield 31) 3 53 0 3 4 0, none, none, a1 (.iload_n 1), a1 (.aaload), a0 (.getfield 215) 3 48 1 0 2 0, none, none, a3 (.if_icmp .ge 27), none, none, a1 (.aload_n 0)],
  [a1 (.aload_n 0), a0 (.getfield 31) 3 53 0 3 4 0, none, none, a1 (.iload_n 1), a1 (.aaload), a1 (.iload_n 3), a0 (.invokevirtual 272) 3 211 10 124 3 0, none, none, a3 (.ifCond .ne 7), none, none, a1 (.iconst 1), a1 (.iload_n 3), a1 (.iadd), a1 (.ireturn), a3 (.iinc 3 1), none, none, a3 (.goto (-34)), none, none, a1 (.iconst 0), a1 (.ireturn)]]
/-- 124: EnvyRust.isLink -/
noncomputable def mk_124 : List (List (Option mEnt)) := [[a1 (.aload_n 1), a0 (.getfield 218) 3 44 1 0 0 0, none, none, a1 (.iload_n 2), a1 (.iaload), a1 (.istore_n 3), a1 (.aload_n 0), a0 (.getfield 10) 3 49 0 3 0 0, none, none, a1 (.iload_n 3), a0 (.invokevirtual 68) 3 65 11 10 2 0, none, none, a3 (.ifCond .ne 5), none, none, a1 (.iconst 0), a1 (.ireturn), a1 (.iload_n 2), a1 (.iconst 1), a1 (.iadd), a1 (.aload_n 1), a0 (.getfield 215) 3 48 1 0 2 0, none, none, a3 (.if_icmp .lt 5), none, none, a1 (.iconst 1), a1 (.ireturn)],
  [a1 (.aload_n 0), a0 (.getfield 10) 3 49 0 3 0 0, none, none, a0 (.getfield 75) 3 8 1 2 0 0, none, none, a1 (.iconst 5), a1 (.aaload), a1 (.iload_n 3), a1 (.iaload), a2 (.istore 4), none, a2 (.iload 4), none, a1 (.iconst (-1)), a3 (.if_icmp .eq 20), none, none, a2 (.iload 4), none, a1 (.aload_n 1), a0 (.getfield 218) 3 44 1 0 0 0, none, none, a1 (.iload_n 2), a1 (.iconst 1), a1 (.iadd), a1 (.iaload), a3 (.if_icmp .ne 7), none, none],
  [a1 (.iconst 1), a3 (.goto 4), none, none, a1 (.iconst 0), a1 (.ireturn)]]
/-- 125: EnvyRust.image -/
noncomputable def mk_125 : List (List (Option mEnt)) := [[a1 (.aload_n 0), a0 (.getfield 16) 3 50 0 3 1 0, none, none, a1 (.aload_n 0), a0 (.getfield 10) 3 49 0 3 0 0, none, none, a0 (.invokevirtual 181) 3 108 11 43 2 0, none, none, a1 (.aload_n 0), a1 (.iconst 1), a0 (.putfield 39) 3 55 0 3 6 0, none, none, a1 (.iconst 1), a1 (.ireturn)]]
/-- 126: EnvyRust.undo -/
noncomputable def mk_126 : List (List (Option mEnt)) := [[a1 (.aload_n 0), a0 (.getfield 39) 3 55 0 3 6 0, none, none, a3 (.ifCond .ne 10), none, none, a1 (.aload_n 0), a0 (.ldc 143) 2 112 2 0 0 (-1000004), none, a0 (.invokevirtual 55) 3 61 10 7 2 0, none, none, a1 (.ireturn), a1 (.aload_n 0), a0 (.getfield 10) 3 49 0 3 0 0, none, none, a1 (.aload_n 0), a0 (.getfield 16) 3 50 0 3 1 0, none, none, a0 (.invokevirtual 181) 3 108 11 43 2 0, none, none, a1 (.aload_n 0), a0 (.getfield 10) 3 49 0 3 0 0, none, none, a0 (.getfield 111) 3 22 1 2 5 0, none, none],
  [a1 (.ireturn)]]
/-- 127: EnvyRust.tear -/
noncomputable def mk_127 : List (List (Option mEnt)) := [[a1 (.aload_n 0), a0 (.getfield 39) 3 55 0 3 6 0, none, none, a3 (.ifCond .eq 7), none, none, a1 (.iconst 1), a3 (.goto 4), none, none, a1 (.iconst 0), a1 (.istore_n 1), a1 (.aload_n 0), a1 (.iconst 0), a0 (.putfield 39) 3 55 0 3 6 0, none, none, a1 (.iload_n 1), a1 (.ireturn)]]
/-- 128: EnvyRust.count -/
noncomputable def mk_128 : List (List (Option mEnt)) := [[a1 (.iload_n 1), a0 (.tableswitch 114 0 7 #[47, 55, 63, 71, 82, 90, 98, 106]) 47 0 0 0 0 0, none, none, none, none, none, none, none, none, none, none, none, none, none, none, none, none, none, none, none, none, none, none, none, none, none, none, none, none, none, none],
  [none, none, none, none, none, none, none, none, none, none, none, none, none, none, none, none, a1 (.aload_n 0), a0 (.getfield 10) 3 49 0 3 0 0, none, none, a0 (.getfield 111) 3 22 1 2 5 0, none, none, a1 (.ireturn), a1 (.aload_n 0), a0 (.getfield 10) 3 49 0 3 0 0, none, none, a0 (.getfield 59) 3 16 1 2 3 0, none, none, a1 (.ireturn)],
  [a1 (.aload_n 0), a0 (.getfield 10) 3 49 0 3 0 0, none, none, a0 (.getfield 93) 3 20 1 2 4 0, none, none, a1 (.ireturn), a1 (.aload_n 0), a0 (.getfield 10) 3 49 0 3 0 0, none, none, a0 (.invokevirtual 119) 3 97 11 35 1 0, none, none, a0 (.invokestatic 123) 3 98 12 36 1 0, none, none, a1 (.ireturn), a1 (.aload_n 0), a0 (.getfield 10) 3 49 0 3 0 0, none, none, a0 (.invokevirtual 128) 3 103 11 38 1 0, none, none, a1 (.ireturn), a1 (.aload_n 0), a0 (.getfield 25) 3 52 0 3 3 0, none, none, a0 (.getfield 230) 3 32 1 1 1 0],
  [none, none, a1 (.ireturn), a1 (.aload_n 0), a0 (.getfield 10) 3 49 0 3 0 0, none, none, a0 (.getfield 227) 3 24 1 2 6 0, none, none, a1 (.ireturn), a1 (.aload_n 0), a0 (.getfield 10) 3 49 0 3 0 0, none, none, a0 (.invokevirtual 276) 3 216 11 129 1 0, none, none, a1 (.ireturn), a1 (.aload_n 0), a0 (.ldc 54) 2 60 2 0 0 (-1000001), none, a0 (.invokevirtual 55) 3 61 10 7 2 0, none, none, a1 (.ireturn)]]
/-- 129: EnvyRust$Town.heldSpots -/
noncomputable def mk_129 : List (List (Option mEnt)) := [[a1 (.iconst 0), a1 (.istore_n 1), a1 (.iconst 0), a1 (.istore_n 2), a1 (.iload_n 2), a2 (.bipush 10), none, a3 (.if_icmp .ge 22), none, none, a1 (.aload_n 0), a0 (.getfield 19) 3 13 0 2 2 0, none, none, a1 (.iload_n 2), a1 (.iaload), a1 (.iconst (-1)), a3 (.if_icmp .eq 6), none, none, a3 (.iinc 1 1), none, none, a3 (.iinc 2 1), none, none, a3 (.goto (-22)), none, none, a1 (.iload_n 1), a1 (.ireturn)]]
/-- 130: EnvyRust.status -/
noncomputable def mk_130 : List (List (Option mEnt)) := [[a1 (.iload_n 1), a1 (.iconst (-1)), a2 (.bipush 6), none, a0 (.invokestatic 50) 3 59 12 6 3 0, none, none, a3 (.ifCond .ne 10), none, none, a1 (.aload_n 0), a0 (.ldc 54) 2 60 2 0 0 (-1000001), none, a0 (.invokevirtual 55) 3 61 10 7 2 0, none, none, a1 (.ireturn), a1 (.iload_n 1), a3 (.ifCond .lt 10), none, none, a1 (.aload_n 0), a0 (.getfield 35) 3 54 0 3 5 0, none, none, a1 (.iload_n 1), a1 (.iaload), a1 (.ireturn), a1 (.iconst 0), a1 (.istore_n 2), a1 (.iconst 0), a1 (.istore_n 3)],
  [a1 (.iload_n 3), a2 (.bipush 7), none, a3 (.if_icmp .ge 18), none, none, a1 (.iload_n 2), a1 (.aload_n 0), a0 (.getfield 35) 3 54 0 3 5 0, none, none, a1 (.iload_n 3), a1 (.iaload), a1 (.iadd), a1 (.istore_n 2), a3 (.iinc 3 1), none, none, a3 (.goto (-18)), none, none, a1 (.iload_n 2), a1 (.ireturn)]]
/-- 131: EnvyRustModel.new -/
noncomputable def mk_131 : List (List (Option mEnt)) := [[a1 (.aload_n 0), a0 (.invokespecial 1) 3 220 20 0 0 0, none, none, a1 (.aload_n 0), a2 (.bipush 118), none, a2 (.newarray .int), none, a0 (.putfield 9) 3 229 0 4 0 0, none, none, a1 (.aload_n 0), a2 (.bipush 118), none, a2 (.newarray .int), none, a0 (.putfield 13) 3 230 0 4 1 0, none, none, a1 (.aload_n 0), a2 (.bipush 118), none, a2 (.newarray .int), none, a0 (.putfield 16) 3 231 0 4 2 0, none, none, a1 (.aload_n 0), a2 (.bipush 8), none, a2 (.newarray .int)],
  [none, a0 (.putfield 19) 3 233 0 4 4 0, none, none, a1 (.aload_n 0), a2 (.bipush 8), none, a2 (.newarray .int), none, a0 (.putfield 22) 3 234 0 4 5 0, none, none, a1 (.aload_n 0), a1 (.iconst (-1)), a0 (.putfield 25) 3 235 0 4 6 0, none, none, a1 (.aload_n 0), a2 (.bipush 8), none, a2 (.newarray .int), none, a0 (.putfield 29) 3 236 0 4 7 0, none, none, a1 (.aload_n 0), a2 (.bipush 120), none, a2 (.newarray .int), none, a0 (.putfield 32) 3 237 0 4 8 0, none],
  [none, a1 (.aload_n 0), a2 (.bipush 7), none, a0 (.anewarray 35) 3 221 5 4 0 0, none, none, a1 (.dup), a1 (.iconst 0), a0 (.ldc 37) 2 222 3 0 7 0, none, a1 (.aastore), a1 (.dup), a1 (.iconst 1), a0 (.ldc 39) 2 223 3 0 1 0, none, a1 (.aastore), a1 (.dup), a1 (.iconst 2), a0 (.ldc 41) 2 224 3 0 2 0, none, a1 (.aastore), a1 (.dup), a1 (.iconst 3), a0 (.ldc 43) 2 225 3 0 3 0, none, a1 (.aastore), a1 (.dup), a1 (.iconst 4), a0 (.ldc 45) 2 226 3 0 4 0, none, a1 (.aastore)],
  [a1 (.dup), a1 (.iconst 5), a0 (.ldc 47) 2 227 3 0 5 0, none, a1 (.aastore), a1 (.dup), a2 (.bipush 6), none, a0 (.ldc 49) 2 228 3 0 6 0, none, a1 (.aastore), a0 (.putfield 51) 3 244 0 4 15 0, none, none, a1 (.aload_n 0), a3 (.sipush 840), none, none, a2 (.newarray .int), none, a0 (.putfield 55) 3 245 0 4 16 0, none, none, a1 (.aload_n 0), a1 (.iconst 4), a2 (.newarray .int), none, a0 (.putfield 58) 3 249 0 4 20 0, none, none, a1 (.aload_n 0), a1 (.iconst 4)],
  [a2 (.newarray .int), none, a0 (.putfield 61) 3 250 0 4 21 0, none, none, a1 (.aload_n 0), a3 (.sipush 160), none, none, a2 (.newarray .int), none, a0 (.putfield 64) 3 251 0 4 22 0, none, none, a1 (.aload_n 0), a2 (.bipush 40), none, a2 (.newarray .int), none, a0 (.putfield 67) 3 252 0 4 23 0, none, none, a1 (.aload_n 0), a0 (.getfield 9) 3 229 0 4 0 0, none, none, a1 (.iconst 3), a1 (.iconst 1), a1 (.iastore), a1 (.iconst 0), a1 (.istore_n 1), a1 (.iload_n 1)],
  [a2 (.bipush 10), none, a3 (.if_icmp .ge 18), none, none, a1 (.aload_n 0), a0 (.getfield 9) 3 229 0 4 0 0, none, none, a1 (.iconst 4), a1 (.iload_n 1), a1 (.iadd), a1 (.iconst (-1)), a1 (.iastore), a3 (.iinc 1 1), none, none, a3 (.goto (-18)), none, none, a1 (.return_)]]
/-- 132: EnvyRustModel.thing -/
noncomputable def mk_132 : List (List (Option mEnt)) := [[a1 (.iload_n 1), a1 (.iconst 0), a1 (.iconst 3), a0 (.invokestatic 80) 3 254 12 133 3 0, none, none, a3 (.ifCond .eq 10), none, none, a1 (.iload_n 2), a0 (.invokestatic 91) 3 255 12 134 1 0, none, none, a3 (.ifCond .ne 10), none, none, a1 (.aload_n 0), a0 (.ldc 70) 2 256 2 0 0 (-1000001), none, a0 (.invokevirtual 76) 3 257 10 135 2 0, none, none, a1 (.ireturn), a1 (.aload_n 0), a0 (.getfield 9) 3 229 0 4 0 0, none, none, a1 (.iconst 1), a1 (.iaload), a2 (.bipush 8), none, a3 (.if_icmp .ne 12)],
  [none, none, a1 (.aload_n 0), a0 (.ldc 95) 2 258 2 0 0 (-1000002), none, a0 (.invokevirtual 76) 3 257 10 135 2 0, none, none, a3 (.goto 14), none, none, a1 (.aload_n 0), a1 (.iload_n 1), a1 (.iload_n 2), a2 (.bipush 100), none, a1 (.iconst 0), a1 (.iconst (-1)), a1 (.iconst (-1)), a0 (.invokevirtual 96) 3 259 10 136 7 0, none, none, a1 (.ireturn)]]
/-- 133: EnvyRustModel.within -/
noncomputable def mk_133 : List (List (Option mEnt)) := [[a1 (.iload_n 0), a1 (.iload_n 1), a3 (.if_icmp .lt 12), none, none, a1 (.iload_n 0), a1 (.iload_n 2), a3 (.if_icmp .gt 7), none, none, a1 (.iconst 1), a3 (.goto 4), none, none, a1 (.iconst 0), a1 (.ireturn)]]
/-- 134: EnvyRustModel.isPlace -/
noncomputable def mk_134 : List (List (Option mEnt)) := [[a1 (.iload_n 0), a1 (.iconst 0), a2 (.bipush 15), none, a0 (.invokestatic 80) 3 254 12 133 3 0, none, none, a1 (.ireturn)]]
/-- 135: EnvyRustModel.finding -/
noncomputable def mk_135 : List (List (Option mEnt)) := [[a1 (.aload_n 0), a0 (.getfield 19) 3 233 0 4 4 0, none, none, a0 (.ldc 70) 2 256 2 0 0 (-1000001), none, a1 (.iload_n 1), a1 (.isub), a1 (.iconst 1), a1 (.iadd), a1 (.dup2), a1 (.iaload), a1 (.iconst 1), a1 (.iadd), a1 (.iastore), a1 (.aload_n 0), a0 (.getfield 19) 3 233 0 4 4 0, none, none, a1 (.iconst 0), a1 (.dup2), a1 (.iaload), a1 (.iconst 1), a1 (.iadd), a1 (.iastore), a1 (.iload_n 1), a1 (.ireturn)]]
/-- 136: EnvyRustModel.comes -/
noncomputable def mk_136 : List (List (Option mEnt)) := [[a1 (.aload_n 0), a0 (.getfield 9) 3 229 0 4 0 0, none, none, a1 (.iconst 1), a1 (.iaload), a2 (.istore 7), none, a1 (.aload_n 0), a0 (.getfield 9) 3 229 0 4 0 0, none, none, a2 (.iload 7), none, a1 (.iconst 0), a0 (.invokestatic 84) 3 260 12 137 2 0, none, none, a1 (.iload_n 1), a1 (.iastore), a1 (.aload_n 0), a0 (.getfield 9) 3 229 0 4 0 0, none, none, a2 (.iload 7), none, a1 (.iconst 1), a0 (.invokestatic 84) 3 260 12 137 2 0, none, none, a1 (.iload_n 2), a1 (.iastore)],
  [a1 (.aload_n 0), a0 (.getfield 9) 3 229 0 4 0 0, none, none, a2 (.iload 7), none, a1 (.iconst 2), a0 (.invokestatic 84) 3 260 12 137 2 0, none, none, a1 (.iload_n 3), a1 (.iastore), a1 (.aload_n 0), a0 (.getfield 9) 3 229 0 4 0 0, none, none, a2 (.iload 7), none, a1 (.iconst 3), a0 (.invokestatic 84) 3 260 12 137 2 0, none, none, a2 (.iload 4), none, a1 (.iastore), a1 (.aload_n 0), a0 (.getfield 9) 3 229 0 4 0 0, none, none, a2 (.iload 7), none, a1 (.iconst 4)],
  [a0 (.invokestatic 84) 3 260 12 137 2 0, none, none, a2 (.iload 5), none, a1 (.iastore), a1 (.aload_n 0), a0 (.getfield 9) 3 229 0 4 0 0, none, none, a2 (.iload 7), none, a1 (.iconst 5), a0 (.invokestatic 84) 3 260 12 137 2 0, none, none, a2 (.iload 6), none, a1 (.iastore), a1 (.aload_n 0), a0 (.getfield 9) 3 229 0 4 0 0, none, none, a1 (.iconst 1), a1 (.dup2), a1 (.iaload), a1 (.iconst 1), a1 (.iadd), a1 (.iastore), a2 (.iload 7), none, a1 (.ireturn)]]
/-- 137: EnvyRustModel.at -/
noncomputable def mk_137 : List (List (Option mEnt)) := [[a2 (.bipush 14), none, a2 (.bipush 6), none, a1 (.iload_n 0), a1 (.imul), a1 (.iadd), a1 (.iload_n 1), a1 (.iadd), a1 (.ireturn)]]
/-- 138: EnvyRustModel.thingOf -/
noncomputable def mk_138 : List (List (Option mEnt)) := [[a1 (.aload_n 0), a1 (.iload_n 1), a0 (.invokevirtual 131) 3 262 10 139 2 0, none, none, a3 (.ifCond .eq 13), none, none, a1 (.iload_n 2), a1 (.iconst 0), a2 (.bipush 6), none, a0 (.invokestatic 80) 3 254 12 133 3 0, none, none, a3 (.ifCond .ne 10), none, none, a1 (.aload_n 0), a0 (.ldc 70) 2 256 2 0 0 (-1000001), none, a0 (.invokevirtual 76) 3 257 10 135 2 0, none, none, a1 (.ireturn), a1 (.iload_n 2), a2 (.bipush 6), none, a3 (.if_icmp .ne 11), none, none, a1 (.aload_n 0)],
  [a1 (.iload_n 1), a0 (.invokevirtual 134) 3 263 10 140 2 0, none, none, a3 (.goto 9), none, none, a1 (.aload_n 0), a1 (.iload_n 1), a1 (.iload_n 2), a0 (.invokevirtual 103) 3 266 10 143 3 0, none, none, a1 (.ireturn)]]
/-- 139: EnvyRustModel.isThing -/
noncomputable def mk_139 : List (List (Option mEnt)) := [[a1 (.iload_n 1), a1 (.iconst 0), a1 (.aload_n 0), a0 (.getfield 9) 3 229 0 4 0 0, none, none, a1 (.iconst 1), a1 (.iaload), a1 (.iconst 1), a1 (.isub), a0 (.invokestatic 80) 3 254 12 133 3 0, none, none, a1 (.ireturn)]]
/-- 140: EnvyRustModel.wornNow -/
noncomputable def mk_140 : List (List (Option mEnt)) := [[a1 (.iconst 0), a1 (.istore_n 2), a1 (.iconst 0), a1 (.istore_n 3), a1 (.iload_n 3), a1 (.aload_n 0), a0 (.getfield 9) 3 229 0 4 0 0, none, none, a1 (.iconst 2), a1 (.iaload), a3 (.if_icmp .ge 37), none, none, a1 (.iload_n 2), a1 (.aload_n 0), a1 (.iload_n 3), a1 (.iconst 1), a0 (.invokevirtual 109) 3 264 10 141 3 0, none, none, a1 (.aload_n 0), a1 (.iload_n 1), a1 (.iconst 1), a0 (.invokevirtual 103) 3 266 10 143 3 0, none, none, a3 (.if_icmp .ne 12), none, none, a1 (.aload_n 0), a1 (.iload_n 3)],
  [a1 (.iload_n 1), a0 (.invokevirtual 125) 3 267 10 144 3 0, none, none, a3 (.goto 4), none, none, a1 (.iconst 0), a1 (.iadd), a1 (.istore_n 2), a3 (.iinc 3 1), none, none, a3 (.goto (-41)), none, none, a1 (.iload_n 2), a1 (.aload_n 0), a1 (.iload_n 1), a1 (.iconst 2), a0 (.invokevirtual 103) 3 266 10 143 3 0, none, none, a0 (.invokestatic 128) 3 273 25 0 0 0, none, none, a1 (.ireturn)]]
/-- 141: EnvyRustModel.personIs -/
noncomputable def mk_141 : List (List (Option mEnt)) := [[a1 (.aload_n 0), a0 (.getfield 9) 3 229 0 4 0 0, none, none, a1 (.iload_n 1), a1 (.iload_n 2), a0 (.invokestatic 88) 3 265 12 142 2 0, none, none, a1 (.iaload), a1 (.ireturn)]]
/-- 142: EnvyRustModel.by -/
noncomputable def mk_142 : List (List (Option mEnt)) := [[a2 (.bipush 62), none, a2 (.bipush 7), none, a1 (.iload_n 0), a1 (.imul), a1 (.iadd), a1 (.iload_n 1), a1 (.iadd), a1 (.ireturn)]]
/-- 143: EnvyRustModel.thingIs -/
noncomputable def mk_143 : List (List (Option mEnt)) := [[a1 (.aload_n 0), a0 (.getfield 9) 3 229 0 4 0 0, none, none, a1 (.iload_n 1), a1 (.iload_n 2), a0 (.invokestatic 84) 3 260 12 137 2 0, none, none, a1 (.iaload), a1 (.ireturn)]]
/-- 144: EnvyRustModel.envyOf -/
noncomputable def mk_144 : List (List (Option mEnt)) := [[a1 (.aload_n 0), a1 (.iload_n 1), a1 (.iload_n 2), a1 (.aload_n 0), a1 (.iload_n 2), a1 (.iconst 4), a0 (.invokevirtual 103) 3 266 10 143 3 0, none, none, a0 (.invokevirtual 121) 3 268 10 145 4 0, none, none, a1 (.ireturn)]]
/-- 145: EnvyRustModel.envyIf -/
noncomputable def mk_145 : List (List (Option mEnt)) := [[a1 (.iload_n 3), a1 (.iload_n 1), a3 (.if_icmp .eq 19), none, none, a1 (.aload_n 0), a1 (.iload_n 2), a0 (.invokevirtual 106) 3 269 10 146 2 0, none, none, a3 (.ifCond .ne 11), none, none, a1 (.iload_n 1), a1 (.aload_n 0), a0 (.getfield 25) 3 235 0 4 6 0, none, none, a3 (.if_icmp .ne 5), none, none, a1 (.iconst 0), a1 (.ireturn), a1 (.aload_n 0), a1 (.iload_n 1), a1 (.iconst 3), a1 (.aload_n 0), a1 (.iload_n 2), a1 (.iconst 0), a0 (.invokevirtual 103) 3 266 10 143 3 0, none, none],
  [a1 (.iadd), a0 (.invokevirtual 109) 3 264 10 141 3 0, none, none, a1 (.aload_n 0), a1 (.iload_n 2), a1 (.iconst 3), a0 (.invokevirtual 103) 3 266 10 143 3 0, none, none, a1 (.isub), a2 (.istore 4), none, a1 (.iload_n 3), a3 (.ifCond .lt 23), none, none, a1 (.aload_n 0), a1 (.iload_n 3), a1 (.iconst 0), a0 (.invokevirtual 109) 3 264 10 141 3 0, none, none, a1 (.iconst 2), a0 (.invokestatic 112) 3 270 12 147 2 0, none, none, a3 (.ifCond .eq 10), none, none, a2 (.iload 4), none],
  [a1 (.iconst 2), a1 (.iadd), a3 (.goto 5), none, none, a2 (.iload 4), none, a2 (.istore 5), none, a1 (.aload_n 0), a1 (.iload_n 1), a1 (.iconst 0), a0 (.invokevirtual 109) 3 264 10 141 3 0, none, none, a0 (.tableswitch 107 1 6 #[37, 63, 70, 79, 98, 46]) 37 0 0 0 0 0, none, none, none, none, none, none, none, none, none, none, none, none, none, none, none, none],
  [none, none, none, none, none, none, none, none, none, none, none, none, none, none, none, none, none, none, none, none, a2 (.iload 4), none, a1 (.iconst 2), a1 (.idiv), a2 (.istore 6), none, a3 (.goto 68), none, none, a1 (.iload_n 3), a3 (.ifCond .ge 7), none],
  [none, a1 (.iconst 0), a3 (.goto 7), none, none, a2 (.iload 4), none, a1 (.iconst 2), a1 (.idiv), a2 (.istore 6), none, a3 (.goto 51), none, none, a2 (.iload 5), none, a2 (.istore 6), none, a3 (.goto 44), none, none, a2 (.iload 5), none, a1 (.iconst 3), a1 (.isub), a2 (.istore 6), none, a3 (.goto 35), none, none, a2 (.iload 5), none],
  [a1 (.iconst 3), a1 (.isub), a1 (.aload_n 0), a1 (.iload_n 2), a1 (.iconst 2), a0 (.invokevirtual 103) 3 266 10 143 3 0, none, none, a2 (.bipush 100), none, a1 (.idiv), a1 (.iadd), a2 (.istore 6), none, a3 (.goto 16), none, none, a1 (.iconst 2), a2 (.iload 4), none, a1 (.imul), a2 (.istore 6), none, a3 (.goto 7), none, none, a2 (.iload 4), none, a2 (.istore 6), none, a1 (.iconst 0), a2 (.iload 6)],
  [none, a0 (.invokestatic 116) 3 272 24 0 0 0, none, none, a1 (.ireturn)]]
/-- 146: EnvyRustModel.isGone -/
noncomputable def mk_146 : List (List (Option mEnt)) := [[a1 (.aload_n 0), a1 (.iload_n 1), a1 (.iconst 2), a0 (.invokevirtual 103) 3 266 10 143 3 0, none, none, a3 (.ifCond .ne 7), none, none, a1 (.iconst 1), a3 (.goto 4), none, none, a1 (.iconst 0), a1 (.ireturn)]]
/-- 147: EnvyRustModel.isUnder -/
noncomputable def mk_147 : List (List (Option mEnt)) := [[a1 (.iload_n 0), a1 (.istore_n 2), a1 (.iload_n 2), a3 (.ifCond .lt 16), none, none, a1 (.iload_n 2), a1 (.iload_n 1), a3 (.if_icmp .eq 11), none, none, a1 (.iload_n 2), a0 (.invokestatic 100) 3 271 12 148 1 0, none, none, a1 (.istore_n 2), a3 (.goto (-14)), none, none, a1 (.iload_n 2), a3 (.ifCond .lt 7), none, none, a1 (.iconst 1), a3 (.goto 4), none, none, a1 (.iconst 0), a1 (.ireturn)]]
/-- 148: EnvyRustModel.above -/
noncomputable def mk_148 : List (List (Option mEnt)) := [[a1 (.iload_n 0), a3 (.ifCond .ne 7), none, none, a1 (.iconst (-1)), a3 (.goto 32), none, none, a1 (.iload_n 0), a1 (.iconst 3), a3 (.if_icmp .ne 7), none, none, a1 (.iconst 2), a3 (.goto 23), none, none, a1 (.iload_n 0), a1 (.iconst 4), a3 (.if_icmp .ne 7), none, none, a1 (.iconst 3), a3 (.goto 14), none, none, a1 (.iload_n 0), a2 (.bipush 6), none, a3 (.if_icmp .ne 7), none, none],
  [a1 (.iconst 1), a3 (.goto 4), none, none, a1 (.iconst 0), a1 (.ireturn)]]
/-- 149: EnvyRustModel.forge -/
noncomputable def mk_149 : List (List (Option mEnt)) := [[a1 (.aload_n 0), a1 (.iload_n 1), a0 (.invokevirtual 131) 3 262 10 139 2 0, none, none, a3 (.ifCond .eq 13), none, none, a1 (.aload_n 0), a1 (.iload_n 1), a1 (.iload_n 2), a1 (.iload_n 3), a0 (.invokevirtual 146) 3 275 10 150 4 0, none, none, a3 (.ifCond .ne 10), none, none, a1 (.aload_n 0), a0 (.ldc 70) 2 256 2 0 0 (-1000001), none, a0 (.invokevirtual 76) 3 257 10 135 2 0, none, none, a1 (.ireturn), a1 (.iload_n 2), a1 (.iconst 5), a3 (.if_icmp .ne 23), none, none, a1 (.iload_n 3), a3 (.ifCond .lt 19)],
  [none, none, a1 (.aload_n 0), a1 (.iload_n 3), a1 (.iload_n 1), a0 (.invokevirtual 149) 3 279 10 154 3 0, none, none, a3 (.ifCond .eq 10), none, none, a1 (.aload_n 0), a0 (.ldc 152) 2 280 2 0 0 (-1000005), none, a0 (.invokevirtual 76) 3 257 10 135 2 0, none, none, a1 (.ireturn), a1 (.aload_n 0), a1 (.iload_n 1), a1 (.iload_n 2), a0 (.invokestatic 84) 3 260 12 137 2 0, none, none, a1 (.iload_n 3), a0 (.invokevirtual 153) 3 281 10 155 3 0, none, none, a1 (.ireturn)]]
/-- 150: EnvyRustModel.mayForge -/
noncomputable def mk_150 : List (List (Option mEnt)) := [[a1 (.iload_n 2), a0 (.tableswitch 104 0 5 #[39, 46, 51, 56, 61, 80]) 39 0 0 0 0 0, none, none, none, none, none, none, none, none, none, none, none, none, none, none, none, none, none, none, none, none, none, none, none, none, none, none, none, none, none, none],
  [none, none, none, none, none, none, none, none, a1 (.iload_n 3), a1 (.iconst 0), a1 (.iconst 3), a0 (.invokestatic 80) 3 254 12 133 3 0, none, none, a1 (.ireturn), a1 (.iload_n 3), a0 (.invokestatic 91) 3 255 12 134 1 0, none, none, a1 (.ireturn), a1 (.iload_n 3), a0 (.invokestatic 137) 3 276 12 151 1 0, none, none, a1 (.ireturn), a1 (.iload_n 3), a0 (.invokestatic 140) 3 277 12 152 1 0, none, none, a1 (.ireturn), a1 (.iload_n 3), a1 (.iconst (-1))],
  [a3 (.if_icmp .eq 11), none, none, a1 (.aload_n 0), a1 (.iload_n 3), a0 (.invokevirtual 143) 3 278 10 153 2 0, none, none, a3 (.ifCond .eq 7), none, none, a1 (.iconst 1), a3 (.goto 4), none, none, a1 (.iconst 0), a1 (.ireturn), a1 (.iload_n 3), a1 (.iconst (-1)), a3 (.if_icmp .eq 16), none, none, a1 (.aload_n 0), a1 (.iload_n 3), a0 (.invokevirtual 131) 3 262 10 139 2 0, none, none, a3 (.ifCond .eq 12), none, none, a1 (.iload_n 3), a1 (.iload_n 1)],
  [a3 (.if_icmp .eq 7), none, none, a1 (.iconst 1), a3 (.goto 4), none, none, a1 (.iconst 0), a1 (.ireturn), a1 (.iconst 0), a1 (.ireturn)]]
/-- 151: EnvyRustModel.isThick -/
noncomputable def mk_151 : List (List (Option mEnt)) := [[a1 (.iload_n 0), a1 (.iconst 0), a3 (.sipush 999), none, none, a0 (.invokestatic 80) 3 254 12 133 3 0, none, none, a1 (.ireturn)]]
/-- 152: EnvyRustModel.isDigit -/
noncomputable def mk_152 : List (List (Option mEnt)) := [[a1 (.iload_n 0), a1 (.iconst 0), a2 (.bipush 9), none, a0 (.invokestatic 80) 3 254 12 133 3 0, none, none, a1 (.ireturn)]]
/-- 153: EnvyRustModel.isPerson -/
noncomputable def mk_153 : List (List (Option mEnt)) := [[a1 (.iload_n 1), a1 (.iconst 0), a1 (.aload_n 0), a0 (.getfield 9) 3 229 0 4 0 0, none, none, a1 (.iconst 2), a1 (.iaload), a1 (.iconst 1), a1 (.isub), a0 (.invokestatic 80) 3 254 12 133 3 0, none, none, a1 (.ireturn)]]
/-- 154: EnvyRustModel.hangsOn -/
noncomputable def mk_154 : List (List (Option mEnt)) := [[a1 (.iload_n 1), a1 (.istore_n 3), a1 (.iload_n 3), a3 (.ifCond .lt 18), none, none, a1 (.iload_n 3), a1 (.iload_n 2), a3 (.if_icmp .eq 13), none, none, a1 (.aload_n 0), a1 (.iload_n 3), a1 (.iconst 5), a0 (.invokevirtual 103) 3 266 10 143 3 0, none, none, a1 (.istore_n 3), a3 (.goto (-16)), none, none, a1 (.iload_n 3), a3 (.ifCond .lt 7), none, none, a1 (.iconst 1), a3 (.goto 4), none, none, a1 (.iconst 0), a1 (.ireturn)]]
/-- 155: EnvyRustModel.become -/
noncomputable def mk_155 : List (List (Option mEnt)) := [[a1 (.aload_n 0), a0 (.getfield 9) 3 229 0 4 0 0, none, none, a1 (.iload_n 1), a1 (.iaload), a1 (.istore_n 3), a1 (.aload_n 0), a0 (.getfield 9) 3 229 0 4 0 0, none, none, a1 (.iload_n 1), a1 (.iload_n 2), a1 (.iastore), a1 (.iload_n 3), a1 (.ireturn)]]
/-- 156: EnvyRustModel.person -/
noncomputable def mk_156 : List (List (Option mEnt)) := [[a1 (.iload_n 1), a0 (.invokestatic 156) 3 283 12 157 1 0, none, none, a3 (.ifCond .eq 10), none, none, a1 (.iload_n 2), a0 (.invokestatic 91) 3 255 12 134 1 0, none, none, a3 (.ifCond .ne 10), none, none, a1 (.aload_n 0), a0 (.ldc 70) 2 256 2 0 0 (-1000001), none, a0 (.invokevirtual 76) 3 257 10 135 2 0, none, none, a1 (.ireturn), a1 (.aload_n 0), a0 (.getfield 9) 3 229 0 4 0 0, none, none, a1 (.iconst 2), a1 (.iaload), a2 (.bipush 8), none, a3 (.if_icmp .ne 12), none, none],
  [a1 (.aload_n 0), a0 (.ldc 95) 2 258 2 0 0 (-1000002), none, a0 (.invokevirtual 76) 3 257 10 135 2 0, none, none, a3 (.goto 10), none, none, a1 (.aload_n 0), a1 (.iload_n 1), a1 (.iload_n 2), a1 (.iconst 1), a0 (.invokevirtual 159) 3 284 10 158 4 0, none, none, a1 (.ireturn)]]
/-- 157: EnvyRustModel.isKind -/
noncomputable def mk_157 : List (List (Option mEnt)) := [[a1 (.iload_n 0), a1 (.iconst 0), a2 (.bipush 6), none, a0 (.invokestatic 80) 3 254 12 133 3 0, none, none, a1 (.ireturn)]]
/-- 158: EnvyRustModel.joins -/
noncomputable def mk_158 : List (List (Option mEnt)) := [[a1 (.aload_n 0), a0 (.getfield 9) 3 229 0 4 0 0, none, none, a1 (.iconst 2), a1 (.iaload), a2 (.istore 4), none, a1 (.aload_n 0), a0 (.getfield 9) 3 229 0 4 0 0, none, none, a2 (.iload 4), none, a1 (.iconst 0), a0 (.invokestatic 88) 3 265 12 142 2 0, none, none, a1 (.iload_n 1), a1 (.iastore), a1 (.aload_n 0), a0 (.getfield 9) 3 229 0 4 0 0, none, none, a2 (.iload 4), none, a1 (.iconst 1), a0 (.invokestatic 88) 3 265 12 142 2 0, none, none, a1 (.iload_n 2), a1 (.iastore)],
  [a1 (.aload_n 0), a0 (.getfield 9) 3 229 0 4 0 0, none, none, a2 (.iload 4), none, a1 (.iconst 2), a0 (.invokestatic 88) 3 265 12 142 2 0, none, none, a1 (.iload_n 3), a1 (.iastore), a1 (.iconst 0), a2 (.istore 5), none, a2 (.iload 5), none, a1 (.iconst 4), a3 (.if_icmp .ge 24), none, none, a1 (.aload_n 0), a0 (.getfield 9) 3 229 0 4 0 0, none, none, a2 (.iload 4), none, a1 (.iconst 3), a2 (.iload 5), none, a1 (.iadd), a0 (.invokestatic 88) 3 265 12 142 2 0],
  [none, none, a1 (.iconst 1), a1 (.iastore), a3 (.iinc 5 1), none, none, a3 (.goto (-24)), none, none, a1 (.aload_n 0), a0 (.getfield 9) 3 229 0 4 0 0, none, none, a1 (.iconst 2), a1 (.dup2), a1 (.iaload), a1 (.iconst 1), a1 (.iadd), a1 (.iastore), a2 (.iload 4), none, a1 (.ireturn)]]
/-- 159: EnvyRustModel.of -/
noncomputable def mk_159 : List (List (Option mEnt)) := [[a1 (.aload_n 0), a1 (.iload_n 1), a0 (.invokevirtual 143) 3 278 10 153 2 0, none, none, a3 (.ifCond .eq 13), none, none, a1 (.iload_n 2), a1 (.iconst 0), a2 (.bipush 7), none, a0 (.invokestatic 80) 3 254 12 133 3 0, none, none, a3 (.ifCond .ne 10), none, none, a1 (.aload_n 0), a0 (.ldc 70) 2 256 2 0 0 (-1000001), none, a0 (.invokevirtual 76) 3 257 10 135 2 0, none, none, a1 (.ireturn), a1 (.iload_n 2), a2 (.bipush 7), none, a3 (.if_icmp .ne 11), none, none, a1 (.aload_n 0)],
  [a1 (.iload_n 1), a0 (.invokevirtual 162) 3 286 10 160 2 0, none, none, a3 (.goto 9), none, none, a1 (.aload_n 0), a1 (.iload_n 1), a1 (.iload_n 2), a0 (.invokevirtual 109) 3 264 10 141 3 0, none, none, a1 (.ireturn)]]
/-- 160: EnvyRustModel.ownedBy -/
noncomputable def mk_160 : List (List (Option mEnt)) := [[a1 (.iconst 0), a1 (.istore_n 2), a1 (.iconst 0), a1 (.istore_n 3), a1 (.iload_n 3), a1 (.aload_n 0), a0 (.getfield 9) 3 229 0 4 0 0, none, none, a1 (.iconst 1), a1 (.iaload), a3 (.if_icmp .ge 29), none, none, a1 (.iload_n 2), a1 (.aload_n 0), a1 (.iload_n 3), a1 (.iconst 4), a0 (.invokevirtual 103) 3 266 10 143 3 0, none, none, a1 (.iload_n 1), a3 (.if_icmp .ne 9), none, none, a1 (.iconst 1), a1 (.iload_n 3), a1 (.ishl), a3 (.goto 4), none, none, a1 (.iconst 0)],
  [a1 (.ior), a1 (.istore_n 2), a3 (.iinc 3 1), none, none, a3 (.goto (-33)), none, none, a1 (.iload_n 2), a1 (.ireturn)]]
/-- 161: EnvyRustModel.change -/
noncomputable def mk_161 : List (List (Option mEnt)) := [[a1 (.iload_n 2), a3 (.ifCond .ne 10), none, none, a1 (.iload_n 3), a0 (.invokestatic 156) 3 283 12 157 1 0, none, none, a3 (.goto 42), none, none, a1 (.iload_n 2), a1 (.iconst 1), a3 (.if_icmp .eq 8), none, none, a1 (.iload_n 2), a1 (.iconst 2), a3 (.if_icmp .ne 10), none, none, a1 (.iload_n 3), a0 (.invokestatic 91) 3 255 12 134 1 0, none, none, a3 (.goto 25), none, none, a1 (.iload_n 2), a1 (.iconst 3), a2 (.bipush 6), none],
  [a0 (.invokestatic 80) 3 254 12 133 3 0, none, none, a3 (.ifCond .eq 14), none, none, a1 (.iload_n 3), a0 (.invokestatic 140) 3 277 12 152 1 0, none, none, a3 (.ifCond .eq 7), none, none, a1 (.iconst 1), a3 (.goto 4), none, none, a1 (.iconst 0), a2 (.istore 4), none, a1 (.aload_n 0), a1 (.iload_n 1), a0 (.invokevirtual 143) 3 278 10 153 2 0, none, none, a3 (.ifCond .eq 21), none, none, a2 (.iload 4), none, a3 (.ifCond .eq 16), none],
  [none, a1 (.aload_n 0), a1 (.iload_n 1), a1 (.iload_n 2), a0 (.invokestatic 88) 3 265 12 142 2 0, none, none, a1 (.iload_n 3), a0 (.invokevirtual 153) 3 281 10 155 3 0, none, none, a3 (.goto 9), none, none, a1 (.aload_n 0), a0 (.ldc 70) 2 256 2 0 0 (-1000001), none, a0 (.invokevirtual 76) 3 257 10 135 2 0, none, none, a1 (.ireturn)]]
/-- 162: EnvyRustModel.envy -/
noncomputable def mk_162 : List (List (Option mEnt)) := [[a1 (.aload_n 0), a1 (.iload_n 1), a0 (.invokevirtual 143) 3 278 10 153 2 0, none, none, a3 (.ifCond .eq 20), none, none, a1 (.aload_n 0), a1 (.iload_n 2), a0 (.invokevirtual 131) 3 262 10 139 2 0, none, none, a3 (.ifCond .eq 12), none, none, a1 (.aload_n 0), a1 (.iload_n 1), a1 (.iload_n 2), a0 (.invokevirtual 125) 3 267 10 144 3 0, none, none, a3 (.goto 9), none, none, a1 (.aload_n 0), a0 (.ldc 70) 2 256 2 0 0 (-1000001), none, a0 (.invokevirtual 76) 3 257 10 135 2 0, none, none, a1 (.ireturn)]]
/-- 163: EnvyRustModel.go -/
noncomputable def mk_163 : List (List (Option mEnt)) := [[a1 (.iload_n 1), a1 (.iconst 1), a2 (.bipush 60), none, a0 (.invokestatic 80) 3 254 12 133 3 0, none, none, a3 (.ifCond .ne 10), none, none, a1 (.aload_n 0), a0 (.ldc 70) 2 256 2 0 0 (-1000001), none, a0 (.invokevirtual 76) 3 257 10 135 2 0, none, none, a1 (.ireturn), a1 (.aload_n 0), a0 (.getfield 9) 3 229 0 4 0 0, none, none, a1 (.iconst 0), a1 (.iaload), a1 (.iload_n 1), a1 (.iadd), a0 (.ldc 172) 2 290 2 0 0 99999, none, a3 (.if_icmp .le 10), none, none, a1 (.aload_n 0), a0 (.ldc 152) 2 280 2 0 0 (-1000005)],
  [none, a0 (.invokevirtual 76) 3 257 10 135 2 0, none, none, a1 (.ireturn), a1 (.aload_n 0), a1 (.iload_n 1), a0 (.invokevirtual 173) 3 291 10 164 2 0, none, none, a1 (.aload_n 0), a0 (.invokevirtual 177) 3 294 10 167 1 0, none, none, a0 (.invokestatic 181) 3 295 12 168 1 0, none, none, a1 (.ireturn)]]
/-- 164: EnvyRustModel.days -/
noncomputable def mk_164 : List (List (Option mEnt)) := [[a1 (.iconst 0), a1 (.istore_n 2), a1 (.iload_n 2), a1 (.iload_n 1), a3 (.if_icmp .ge 13), none, none, a1 (.aload_n 0), a0 (.invokevirtual 169) 3 292 10 165 1 0, none, none, a3 (.iinc 2 1), none, none, a3 (.goto (-12)), none, none, a1 (.return_)]]
/-- 165: EnvyRustModel.day -/
noncomputable def mk_165 : List (List (Option mEnt)) := [[a1 (.iconst 0), a1 (.istore_n 1), a1 (.iload_n 1), a1 (.aload_n 0), a0 (.getfield 9) 3 229 0 4 0 0, none, none, a1 (.iconst 1), a1 (.iaload), a3 (.if_icmp .ge 20), none, none, a1 (.aload_n 0), a0 (.getfield 22) 3 234 0 4 5 0, none, none, a1 (.iload_n 1), a1 (.aload_n 0), a1 (.iload_n 1), a0 (.invokevirtual 134) 3 263 10 140 2 0, none, none, a1 (.iastore), a3 (.iinc 1 1), none, none, a3 (.goto (-24)), none, none, a1 (.iconst 0), a1 (.istore_n 1), a1 (.iload_n 1)],
  [a1 (.aload_n 0), a0 (.getfield 9) 3 229 0 4 0 0, none, none, a1 (.iconst 1), a1 (.iaload), a3 (.if_icmp .ge 28), none, none, a1 (.aload_n 0), a0 (.getfield 9) 3 229 0 4 0 0, none, none, a1 (.iload_n 1), a1 (.iconst 2), a0 (.invokestatic 84) 3 260 12 137 2 0, none, none, a1 (.dup2), a1 (.iaload), a1 (.aload_n 0), a0 (.getfield 22) 3 234 0 4 5 0, none, none, a1 (.iload_n 1), a1 (.iaload), a1 (.isub), a1 (.iastore), a3 (.iinc 1 1), none, none, a3 (.goto (-32))],
  [none, none, a1 (.iconst 1), a1 (.istore_n 1), a1 (.iload_n 1), a3 (.ifCond .eq 11), none, none, a1 (.aload_n 0), a0 (.invokevirtual 165) 3 293 10 166 1 0, none, none, a1 (.istore_n 1), a3 (.goto (-9)), none, none, a1 (.iconst 0), a1 (.istore_n 2), a1 (.iload_n 2), a1 (.aload_n 0), a0 (.getfield 9) 3 229 0 4 0 0, none, none, a1 (.iconst 2), a1 (.iaload), a3 (.if_icmp .ge 35), none, none, a1 (.aload_n 0), a0 (.getfield 9) 3 229 0 4 0 0, none, none],
  [a1 (.iload_n 2), a1 (.iconst 1), a0 (.invokestatic 88) 3 265 12 142 2 0, none, none, a1 (.aload_n 0), a1 (.iload_n 2), a1 (.iconst 1), a0 (.invokevirtual 109) 3 264 10 141 3 0, none, none, a1 (.aload_n 0), a1 (.iload_n 2), a1 (.iconst 2), a0 (.invokevirtual 109) 3 264 10 141 3 0, none, none, a1 (.iadd), a2 (.bipush 16), none, a1 (.irem), a1 (.iastore), a3 (.iinc 2 1), none, none, a3 (.goto (-39)), none, none, a1 (.aload_n 0), a0 (.getfield 9) 3 229 0 4 0 0, none, none],
  [a1 (.iconst 0), a1 (.dup2), a1 (.iaload), a1 (.iconst 1), a1 (.iadd), a1 (.iastore), a1 (.return_)]]
/-- 166: EnvyRustModel.falls -/
noncomputable def mk_166 : List (List (Option mEnt)) := [[a1 (.iconst 0), a1 (.istore_n 1), a1 (.iconst 0), a1 (.istore_n 2), a1 (.iload_n 2), a1 (.aload_n 0), a0 (.getfield 9) 3 229 0 4 0 0, none, none, a1 (.iconst 1), a1 (.iaload), a3 (.if_icmp .ge 52), none, none, a1 (.aload_n 0), a1 (.iload_n 2), a0 (.invokevirtual 106) 3 269 10 146 2 0, none, none, a3 (.ifCond .ne 38), none, none, a1 (.aload_n 0), a1 (.iload_n 2), a1 (.iconst 5), a0 (.invokevirtual 103) 3 266 10 143 3 0, none, none, a3 (.ifCond .lt 29), none, none, a1 (.aload_n 0)],
  [a1 (.aload_n 0), a1 (.iload_n 2), a1 (.iconst 5), a0 (.invokevirtual 103) 3 266 10 143 3 0, none, none, a0 (.invokevirtual 106) 3 269 10 146 2 0, none, none, a3 (.ifCond .eq 16), none, none, a1 (.aload_n 0), a0 (.getfield 9) 3 229 0 4 0 0, none, none, a1 (.iload_n 2), a1 (.iconst 2), a0 (.invokestatic 84) 3 260 12 137 2 0, none, none, a1 (.iconst 0), a1 (.iastore), a1 (.iconst 1), a1 (.istore_n 1), a3 (.iinc 2 1), none, none, a3 (.goto (-56)), none, none, a1 (.iload_n 1)],
  [a1 (.ireturn)]]
/-- 167: EnvyRustModel.goneNow -/
noncomputable def mk_167 : List (List (Option mEnt)) := [[a1 (.iconst 0), a1 (.istore_n 1), a1 (.iconst 0), a1 (.istore_n 2), a1 (.iload_n 2), a1 (.aload_n 0), a0 (.getfield 9) 3 229 0 4 0 0, none, none, a1 (.iconst 1), a1 (.iaload), a3 (.if_icmp .ge 27), none, none, a1 (.iload_n 1), a1 (.aload_n 0), a1 (.iload_n 2), a0 (.invokevirtual 106) 3 269 10 146 2 0, none, none, a3 (.ifCond .eq 9), none, none, a1 (.iconst 1), a1 (.iload_n 2), a1 (.ishl), a3 (.goto 4), none, none, a1 (.iconst 0), a1 (.ior), a1 (.istore_n 1)],
  [a3 (.iinc 2 1), none, none, a3 (.goto (-31)), none, none, a1 (.iload_n 1), a1 (.ireturn)]]
/-- 168: EnvyRustModel.bits -/
noncomputable def mk_168 : List (List (Option mEnt)) := [[a1 (.iconst 0), a1 (.istore_n 1), a1 (.iload_n 0), a1 (.istore_n 2), a1 (.iload_n 2), a3 (.ifCond .eq 15), none, none, a3 (.iinc 1 1), none, none, a1 (.iload_n 2), a1 (.iload_n 2), a1 (.iconst 1), a1 (.isub), a1 (.iand), a1 (.istore_n 2), a3 (.goto (-13)), none, none, a1 (.iload_n 1), a1 (.ireturn)]]
/-- 169: EnvyRustModel.now -/
noncomputable def mk_169 : List (List (Option mEnt)) := [[a1 (.iconst 0), a1 (.istore_n 2), a1 (.iload_n 1), a0 (.tableswitch 121 0 4 #[33, 40, 45, 50, 78]) 33 0 0 0 0 0, none, none, none, none, none, none, none, none, none, none, none, none, none, none, none, none, none, none, none, none, none, none, none, none, none, none, none, none],
  [none, none, none, none, a1 (.aload_n 0), a0 (.getfield 9) 3 229 0 4 0 0, none, none, a1 (.iconst 0), a1 (.iaload), a1 (.ireturn), a1 (.aload_n 0), a0 (.invokevirtual 177) 3 294 10 167 1 0, none, none, a1 (.ireturn), a1 (.aload_n 0), a0 (.invokevirtual 184) 3 297 10 170 1 0, none, none, a1 (.ireturn), a1 (.iconst 0), a1 (.istore_n 3), a1 (.iload_n 3), a1 (.aload_n 0), a0 (.getfield 9) 3 229 0 4 0 0, none, none, a1 (.iconst 1), a1 (.iaload), a3 (.if_icmp .ge 17), none],
  [none, a1 (.iload_n 2), a1 (.aload_n 0), a1 (.iload_n 3), a0 (.invokevirtual 134) 3 263 10 140 2 0, none, none, a1 (.iadd), a1 (.istore_n 2), a3 (.iinc 3 1), none, none, a3 (.goto (-21)), none, none, a1 (.iload_n 2), a1 (.ireturn), a1 (.iconst 0), a1 (.istore_n 3), a1 (.iload_n 3), a1 (.aload_n 0), a0 (.getfield 9) 3 229 0 4 0 0, none, none, a1 (.iconst 1), a1 (.iaload), a3 (.if_icmp .ge 32), none, none, a1 (.iload_n 2), a1 (.aload_n 0), a1 (.aload_n 0)],
  [a1 (.iload_n 3), a1 (.iconst 1), a0 (.invokevirtual 103) 3 266 10 143 3 0, none, none, a0 (.invokevirtual 187) 3 298 10 171 2 0, none, none, a3 (.ifCond .eq 9), none, none, a1 (.iconst 1), a1 (.iload_n 3), a1 (.ishl), a3 (.goto 4), none, none, a1 (.iconst 0), a1 (.ior), a1 (.istore_n 2), a3 (.iinc 3 1), none, none, a3 (.goto (-36)), none, none, a1 (.iload_n 2), a1 (.ireturn), a1 (.aload_n 0), a0 (.ldc 70) 2 256 2 0 0 (-1000001), none, a0 (.invokevirtual 76) 3 257 10 135 2 0],
  [none, none, a1 (.ireturn)]]
/-- 170: EnvyRustModel.thickNow -/
noncomputable def mk_170 : List (List (Option mEnt)) := [[a1 (.iconst 0), a1 (.istore_n 1), a1 (.iconst 0), a1 (.istore_n 2), a1 (.iload_n 2), a1 (.aload_n 0), a0 (.getfield 9) 3 229 0 4 0 0, none, none, a1 (.iconst 1), a1 (.iaload), a3 (.if_icmp .ge 18), none, none, a1 (.iload_n 1), a1 (.aload_n 0), a1 (.iload_n 2), a1 (.iconst 2), a0 (.invokevirtual 103) 3 266 10 143 3 0, none, none, a1 (.iadd), a1 (.istore_n 1), a3 (.iinc 2 1), none, none, a3 (.goto (-22)), none, none, a1 (.iload_n 1), a1 (.ireturn)]]
/-- 171: EnvyRustModel.isSomebodyAt -/
noncomputable def mk_171 : List (List (Option mEnt)) := [[a1 (.iconst 0), a1 (.istore_n 2), a1 (.iconst 0), a1 (.istore_n 3), a1 (.iload_n 3), a1 (.aload_n 0), a0 (.getfield 9) 3 229 0 4 0 0, none, none, a1 (.iconst 2), a1 (.iaload), a3 (.if_icmp .ge 29), none, none, a1 (.iload_n 2), a3 (.ifCond .ne 13), none, none, a1 (.aload_n 0), a1 (.iload_n 3), a1 (.iconst 1), a0 (.invokevirtual 109) 3 264 10 141 3 0, none, none, a1 (.iload_n 1), a3 (.if_icmp .ne 7), none, none, a1 (.iconst 1), a3 (.goto 4), none, none],
  [a1 (.iconst 0), a1 (.istore_n 2), a3 (.iinc 3 1), none, none, a3 (.goto (-33)), none, none, a1 (.iload_n 2), a1 (.ireturn)]]
/-- 172: EnvyRustModel.ahead -/
noncomputable def mk_172 : List (List (Option mEnt)) := [[a1 (.aload_n 0), a1 (.iload_n 1), a0 (.invokevirtual 131) 3 262 10 139 2 0, none, none, a3 (.ifCond .eq 22), none, none, a1 (.iload_n 2), a1 (.iconst 0), a2 (.bipush 100), none, a0 (.invokestatic 80) 3 254 12 133 3 0, none, none, a3 (.ifCond .eq 12), none, none, a1 (.aload_n 0), a1 (.iload_n 1), a1 (.iload_n 2), a0 (.invokevirtual 193) 3 300 10 173 3 0, none, none, a3 (.goto 9), none, none, a1 (.aload_n 0), a0 (.ldc 70) 2 256 2 0 0 (-1000001), none, a0 (.invokevirtual 76) 3 257 10 135 2 0, none],
  [none, a1 (.ireturn)]]
/-- 173: EnvyRustModel.thickBehind -/
noncomputable def mk_173 : List (List (Option mEnt)) := [[a1 (.aload_n 0), a0 (.getfield 9) 3 229 0 4 0 0, none, none, a1 (.aload_n 0), a0 (.getfield 16) 3 231 0 4 2 0, none, none, a0 (.invokestatic 71) 3 301 12 174 2 0, none, none, a1 (.aload_n 0), a1 (.iload_n 2), a0 (.invokevirtual 173) 3 291 10 164 2 0, none, none, a1 (.aload_n 0), a1 (.aload_n 0), a1 (.iload_n 1), a1 (.iconst 2), a0 (.invokevirtual 103) 3 266 10 143 3 0, none, none, a0 (.invokevirtual 190) 3 302 10 175 2 0, none, none, a1 (.ireturn)]]
/-- 174: EnvyRustModel.copyRow -/
noncomputable def mk_174 : List (List (Option mEnt)) := [[a1 (.iconst 0), a1 (.istore_n 2), a1 (.iload_n 2), a2 (.bipush 118), none, a3 (.if_icmp .ge 15), none, none, a1 (.aload_n 1), a1 (.iload_n 2), a1 (.aload_n 0), a1 (.iload_n 2), a1 (.iaload), a1 (.iastore), a3 (.iinc 2 1), none, none, a3 (.goto (-15)), none, none, a1 (.return_)]]
/-- 175: EnvyRustModel.putBack -/
noncomputable def mk_175 : List (List (Option mEnt)) := [[a1 (.aload_n 0), a0 (.getfield 16) 3 231 0 4 2 0, none, none, a1 (.aload_n 0), a0 (.getfield 9) 3 229 0 4 0 0, none, none, a0 (.invokestatic 71) 3 301 12 174 2 0, none, none, a1 (.iload_n 1), a1 (.ireturn)]]
/-- 176: EnvyRustModel.lasts -/
noncomputable def mk_176 : List (List (Option mEnt)) := [[a1 (.aload_n 0), a1 (.iload_n 1), a0 (.invokevirtual 131) 3 262 10 139 2 0, none, none, a3 (.ifCond .ne 10), none, none, a1 (.aload_n 0), a0 (.ldc 70) 2 256 2 0 0 (-1000001), none, a0 (.invokevirtual 76) 3 257 10 135 2 0, none, none, a1 (.ireturn), a1 (.aload_n 0), a0 (.getfield 9) 3 229 0 4 0 0, none, none, a1 (.aload_n 0), a0 (.getfield 16) 3 231 0 4 2 0, none, none, a0 (.invokestatic 71) 3 301 12 174 2 0, none, none, a1 (.iconst 0), a1 (.istore_n 2), a1 (.iload_n 2), a2 (.bipush 100), none, a3 (.if_icmp .ge 21)],
  [none, none, a1 (.aload_n 0), a1 (.iload_n 1), a0 (.invokevirtual 106) 3 269 10 146 2 0, none, none, a3 (.ifCond .ne 13), none, none, a1 (.aload_n 0), a0 (.invokevirtual 169) 3 292 10 165 1 0, none, none, a3 (.iinc 2 1), none, none, a3 (.goto (-21)), none, none, a1 (.aload_n 0), a1 (.aload_n 0), a1 (.aload_n 0), a1 (.iload_n 1), a0 (.invokevirtual 106) 3 269 10 146 2 0, none, none, a3 (.ifCond .eq 7), none, none, a1 (.iload_n 2), a3 (.goto 4)],
  [none, none, a1 (.iconst (-1)), a0 (.invokevirtual 190) 3 302 10 175 2 0, none, none, a0 (.invokevirtual 196) 3 304 10 177 2 0, none, none, a1 (.ireturn)]]
/-- 177: EnvyRustModel.orNone -/
noncomputable def mk_177 : List (List (Option mEnt)) := [[a1 (.iload_n 1), a3 (.ifCond .ge 12), none, none, a1 (.aload_n 0), a0 (.ldc 75) 2 305 2 0 0 (-1000004), none, a0 (.invokevirtual 76) 3 257 10 135 2 0, none, none, a3 (.goto 4), none, none, a1 (.iload_n 1), a1 (.ireturn)]]
/-- 178: EnvyRustModel.gone -/
noncomputable def mk_178 : List (List (Option mEnt)) := [[a1 (.iload_n 1), a1 (.iconst 0), a2 (.bipush 100), none, a0 (.invokestatic 80) 3 254 12 133 3 0, none, none, a3 (.ifCond .ne 10), none, none, a1 (.aload_n 0), a0 (.ldc 70) 2 256 2 0 0 (-1000001), none, a0 (.invokevirtual 76) 3 257 10 135 2 0, none, none, a1 (.ireturn), a1 (.aload_n 0), a0 (.getfield 9) 3 229 0 4 0 0, none, none, a1 (.aload_n 0), a0 (.getfield 16) 3 231 0 4 2 0, none, none, a0 (.invokestatic 71) 3 301 12 174 2 0, none, none, a1 (.aload_n 0), a1 (.iload_n 1), a0 (.invokevirtual 173) 3 291 10 164 2 0, none],
  [none, a1 (.aload_n 0), a1 (.aload_n 0), a0 (.invokevirtual 177) 3 294 10 167 1 0, none, none, a0 (.invokevirtual 190) 3 302 10 175 2 0, none, none, a1 (.ireturn)]]
/-- 179: EnvyRustModel.worn -/
noncomputable def mk_179 : List (List (Option mEnt)) := [[a1 (.iload_n 1), a1 (.iconst 0), a2 (.bipush 100), none, a0 (.invokestatic 80) 3 254 12 133 3 0, none, none, a3 (.ifCond .eq 11), none, none, a1 (.aload_n 0), a1 (.iload_n 1), a0 (.invokevirtual 199) 3 308 10 180 2 0, none, none, a3 (.goto 9), none, none, a1 (.aload_n 0), a0 (.ldc 70) 2 256 2 0 0 (-1000001), none, a0 (.invokevirtual 76) 3 257 10 135 2 0, none, none, a1 (.ireturn)]]
/-- 180: EnvyRustModel.lostIn -/
noncomputable def mk_180 : List (List (Option mEnt)) := [[a1 (.aload_n 0), a0 (.invokevirtual 184) 3 297 10 170 1 0, none, none, a1 (.istore_n 2), a1 (.aload_n 0), a0 (.getfield 9) 3 229 0 4 0 0, none, none, a1 (.aload_n 0), a0 (.getfield 16) 3 231 0 4 2 0, none, none, a0 (.invokestatic 71) 3 301 12 174 2 0, none, none, a1 (.aload_n 0), a1 (.iload_n 1), a0 (.invokevirtual 173) 3 291 10 164 2 0, none, none, a1 (.aload_n 0), a1 (.iload_n 2), a1 (.aload_n 0), a0 (.invokevirtual 184) 3 297 10 170 1 0, none, none, a1 (.isub), a0 (.invokevirtual 190) 3 302 10 175 2 0, none, none, a1 (.ireturn)]]
/-- 181: EnvyRustModel.sees -/
noncomputable def mk_181 : List (List (Option mEnt)) := [[a1 (.aload_n 0), a1 (.iload_n 1), a0 (.invokevirtual 143) 3 278 10 153 2 0, none, none, a3 (.ifCond .eq 11), none, none, a1 (.aload_n 0), a1 (.iload_n 2), a0 (.invokevirtual 131) 3 262 10 139 2 0, none, none, a3 (.ifCond .ne 10), none, none, a1 (.aload_n 0), a0 (.ldc 70) 2 256 2 0 0 (-1000001), none, a0 (.invokevirtual 76) 3 257 10 135 2 0, none, none, a1 (.ireturn), a1 (.aload_n 0), a1 (.iload_n 1), a1 (.iconst 1), a0 (.invokevirtual 109) 3 264 10 141 3 0, none, none, a1 (.istore_n 3), a1 (.iconst 0), a2 (.istore 4)],
  [none, a2 (.iload 4), none, a2 (.bipush 16), none, a3 (.if_icmp .ge 31), none, none, a1 (.iload_n 3), a1 (.aload_n 0), a1 (.iload_n 2), a1 (.iconst 1), a0 (.invokevirtual 103) 3 266 10 143 3 0, none, none, a3 (.if_icmp .eq 21), none, none, a1 (.iload_n 3), a1 (.aload_n 0), a1 (.iload_n 1), a1 (.iconst 2), a0 (.invokevirtual 109) 3 264 10 141 3 0, none, none, a1 (.iadd), a2 (.bipush 16), none, a1 (.irem), a1 (.istore_n 3), a3 (.iinc 4 1), none],
  [none, a3 (.goto (-32)), none, none, a2 (.iload 4), none, a2 (.bipush 16), none, a3 (.if_icmp .ge 8), none, none, a2 (.iload 4), none, a3 (.goto 9), none, none, a1 (.aload_n 0), a0 (.ldc 75) 2 305 2 0 0 (-1000004), none, a0 (.invokevirtual 76) 3 257 10 135 2 0, none, none, a1 (.ireturn)]]
/-- 182: EnvyRustModel.kindFor -/
noncomputable def mk_182 : List (List (Option mEnt)) := [[a1 (.aload_n 0), a1 (.iload_n 1), a0 (.invokevirtual 143) 3 278 10 153 2 0, none, none, a3 (.ifCond .eq 28), none, none, a1 (.iload_n 2), a1 (.iconst 0), a2 (.bipush 60), none, a0 (.invokestatic 80) 3 254 12 133 3 0, none, none, a3 (.ifCond .eq 18), none, none, a1 (.aload_n 0), a1 (.iload_n 1), a1 (.iconst 0), a0 (.invokestatic 88) 3 265 12 142 2 0, none, none, a2 (.bipush 7), none, a1 (.iload_n 2), a0 (.invokevirtual 205) 3 311 10 183 4 0, none, none, a3 (.goto 9), none],
  [none, a1 (.aload_n 0), a0 (.ldc 70) 2 256 2 0 0 (-1000001), none, a0 (.invokevirtual 76) 3 257 10 135 2 0, none, none, a1 (.ireturn)]]
/-- 183: EnvyRustModel.leastLoss -/
noncomputable def mk_183 : List (List (Option mEnt)) := [[a1 (.aload_n 0), a0 (.getfield 9) 3 229 0 4 0 0, none, none, a1 (.iload_n 1), a1 (.iaload), a2 (.istore 4), none, a1 (.iconst 0), a2 (.istore 5), none, a0 (.ldc 204) 2 312 2 0 0 2147483647, none, a2 (.istore 6), none, a1 (.iconst 0), a2 (.istore 7), none, a2 (.iload 7), none, a1 (.iload_n 2), a3 (.if_icmp .ge 49), none, none, a1 (.aload_n 0), a0 (.getfield 9) 3 229 0 4 0 0, none, none, a1 (.iload_n 1), a2 (.iload 7), none, a1 (.iastore)],
  [a1 (.aload_n 0), a1 (.iload_n 3), a0 (.invokevirtual 199) 3 308 10 180 2 0, none, none, a2 (.istore 8), none, a2 (.iload 8), none, a2 (.iload 6), none, a3 (.if_icmp .ge 8), none, none, a2 (.iload 7), none, a3 (.goto 5), none, none, a2 (.iload 5), none, a2 (.istore 5), none, a2 (.iload 6), none, a2 (.iload 8), none, a0 (.invokestatic 128) 3 273 25 0 0 0, none, none, a2 (.istore 6), none],
  [a3 (.iinc 7 1), none, none, a3 (.goto (-49)), none, none, a1 (.aload_n 0), a0 (.getfield 9) 3 229 0 4 0 0, none, none, a1 (.iload_n 1), a2 (.iload 4), none, a1 (.iastore), a2 (.iload 5), none, a1 (.ireturn)]]
/-- 184: EnvyRustModel.walkFor -/
noncomputable def mk_184 : List (List (Option mEnt)) := [[a1 (.aload_n 0), a1 (.iload_n 1), a0 (.invokevirtual 143) 3 278 10 153 2 0, none, none, a3 (.ifCond .eq 28), none, none, a1 (.iload_n 2), a1 (.iconst 0), a2 (.bipush 60), none, a0 (.invokestatic 80) 3 254 12 133 3 0, none, none, a3 (.ifCond .eq 18), none, none, a1 (.aload_n 0), a1 (.iload_n 1), a1 (.iconst 2), a0 (.invokestatic 88) 3 265 12 142 2 0, none, none, a2 (.bipush 16), none, a1 (.iload_n 2), a0 (.invokevirtual 205) 3 311 10 183 4 0, none, none, a3 (.goto 9), none],
  [none, a1 (.aload_n 0), a0 (.ldc 70) 2 256 2 0 0 (-1000001), none, a0 (.invokevirtual 76) 3 257 10 135 2 0, none, none, a1 (.ireturn)]]
/-- 185: EnvyRustModel.placeFor -/
noncomputable def mk_185 : List (List (Option mEnt)) := [[a1 (.aload_n 0), a1 (.iload_n 1), a0 (.invokevirtual 131) 3 262 10 139 2 0, none, none, a3 (.ifCond .eq 29), none, none, a1 (.iload_n 2), a1 (.iconst 0), a2 (.bipush 60), none, a0 (.invokestatic 80) 3 254 12 133 3 0, none, none, a3 (.ifCond .eq 19), none, none, a1 (.aload_n 0), a1 (.iload_n 1), a1 (.iload_n 1), a1 (.iconst 1), a0 (.invokestatic 84) 3 260 12 137 2 0, none, none, a2 (.bipush 16), none, a1 (.iload_n 2), a0 (.invokevirtual 208) 3 315 10 186 5 0, none, none, a3 (.goto 9)],
  [none, none, a1 (.aload_n 0), a0 (.ldc 70) 2 256 2 0 0 (-1000001), none, a0 (.invokevirtual 76) 3 257 10 135 2 0, none, none, a1 (.ireturn)]]
/-- 186: EnvyRustModel.thickest -/
noncomputable def mk_186 : List (List (Option mEnt)) := [[a1 (.aload_n 0), a0 (.getfield 9) 3 229 0 4 0 0, none, none, a1 (.iload_n 2), a1 (.iaload), a2 (.istore 5), none, a1 (.iconst (-1)), a2 (.istore 6), none, a1 (.iconst (-1)), a2 (.istore 7), none, a1 (.iconst 0), a2 (.istore 8), none, a2 (.iload 8), none, a1 (.iload_n 3), a3 (.if_icmp .ge 51), none, none, a1 (.aload_n 0), a0 (.getfield 9) 3 229 0 4 0 0, none, none, a1 (.iload_n 2), a2 (.iload 8), none, a1 (.iastore), a1 (.aload_n 0)],
  [a1 (.iload_n 1), a2 (.iload 4), none, a0 (.invokevirtual 193) 3 300 10 173 3 0, none, none, a2 (.istore 9), none, a2 (.iload 9), none, a2 (.iload 7), none, a3 (.if_icmp .le 8), none, none, a2 (.iload 8), none, a3 (.goto 5), none, none, a2 (.iload 6), none, a2 (.istore 6), none, a2 (.iload 7), none, a2 (.iload 9), none, a0 (.invokestatic 116) 3 272 24 0 0 0, none, none, a2 (.istore 7)],
  [none, a3 (.iinc 8 1), none, none, a3 (.goto (-51)), none, none, a1 (.aload_n 0), a0 (.getfield 9) 3 229 0 4 0 0, none, none, a1 (.iload_n 2), a2 (.iload 5), none, a1 (.iastore), a2 (.iload 6), none, a1 (.ireturn)]]
/-- 187: EnvyRustModel.ownerFor -/
noncomputable def mk_187 : List (List (Option mEnt)) := [[a1 (.aload_n 0), a1 (.iload_n 1), a0 (.invokevirtual 131) 3 262 10 139 2 0, none, none, a3 (.ifCond .eq 37), none, none, a1 (.iload_n 2), a1 (.iconst 0), a2 (.bipush 60), none, a0 (.invokestatic 80) 3 254 12 133 3 0, none, none, a3 (.ifCond .eq 27), none, none, a1 (.aload_n 0), a1 (.aload_n 0), a1 (.iload_n 1), a1 (.iload_n 1), a1 (.iconst 4), a0 (.invokestatic 84) 3 260 12 137 2 0, none, none, a1 (.aload_n 0), a0 (.getfield 9) 3 229 0 4 0 0, none, none, a1 (.iconst 2), a1 (.iaload)],
  [a1 (.iload_n 2), a0 (.invokevirtual 208) 3 315 10 186 5 0, none, none, a0 (.invokevirtual 196) 3 304 10 177 2 0, none, none, a3 (.goto 9), none, none, a1 (.aload_n 0), a0 (.ldc 70) 2 256 2 0 0 (-1000001), none, a0 (.invokevirtual 76) 3 257 10 135 2 0, none, none, a1 (.ireturn)]]
/-- 188: EnvyRustModel.worst -/
noncomputable def mk_188 : List (List (Option mEnt)) := [[a1 (.iload_n 1), a1 (.iconst 0), a2 (.bipush 60), none, a0 (.invokestatic 80) 3 254 12 133 3 0, none, none, a3 (.ifCond .ne 10), none, none, a1 (.aload_n 0), a0 (.ldc 70) 2 256 2 0 0 (-1000001), none, a0 (.invokevirtual 76) 3 257 10 135 2 0, none, none, a1 (.ireturn), a1 (.iconst (-1)), a1 (.istore_n 2), a0 (.ldc 204) 2 312 2 0 0 2147483647, none, a1 (.istore_n 3), a1 (.iconst 0), a2 (.istore 4), none, a2 (.iload 4), none, a1 (.aload_n 0), a0 (.getfield 9) 3 229 0 4 0 0, none, none, a1 (.iconst 2)],
  [a1 (.iaload), a3 (.if_icmp .ge 42), none, none, a1 (.aload_n 0), a2 (.iload 4), none, a0 (.putfield 25) 3 235 0 4 6 0, none, none, a1 (.aload_n 0), a1 (.iload_n 1), a0 (.invokevirtual 199) 3 308 10 180 2 0, none, none, a2 (.istore 5), none, a2 (.iload 5), none, a1 (.iload_n 3), a3 (.if_icmp .ge 8), none, none, a2 (.iload 4), none, a3 (.goto 4), none, none, a1 (.iload_n 2), a1 (.istore_n 2), a1 (.iload_n 3), a2 (.iload 5)],
  [none, a0 (.invokestatic 128) 3 273 25 0 0 0, none, none, a1 (.istore_n 3), a3 (.iinc 4 1), none, none, a3 (.goto (-47)), none, none, a1 (.aload_n 0), a1 (.iconst (-1)), a0 (.putfield 25) 3 235 0 4 6 0, none, none, a1 (.aload_n 0), a1 (.iload_n 2), a0 (.invokevirtual 196) 3 304 10 177 2 0, none, none, a1 (.ireturn)]]
/-- 189: EnvyRustModel.paint -/
noncomputable def mk_189 : List (List (Option mEnt)) := [[a1 (.iload_n 1), a1 (.iconst 0), a2 (.bipush 8), none, a0 (.invokestatic 80) 3 254 12 133 3 0, none, none, a3 (.ifCond .eq 13), none, none, a1 (.iload_n 2), a1 (.iconst 0), a2 (.bipush 60), none, a0 (.invokestatic 80) 3 254 12 133 3 0, none, none, a3 (.ifCond .ne 10), none, none, a1 (.aload_n 0), a0 (.ldc 70) 2 256 2 0 0 (-1000001), none, a0 (.invokevirtual 76) 3 257 10 135 2 0, none, none, a1 (.ireturn), a1 (.iload_n 1), a1 (.aload_n 0), a0 (.getfield 9) 3 229 0 4 0 0, none, none],
  [a1 (.iconst 1), a1 (.iaload), a0 (.invokestatic 128) 3 273 25 0 0 0, none, none, a1 (.istore_n 3), a1 (.iconst 0), a2 (.istore 4), none, a0 (.ldc 204) 2 312 2 0 0 2147483647, none, a2 (.istore 5), none, a1 (.iconst 0), a2 (.istore 6), none, a2 (.iload 6), none, a1 (.iconst 1), a1 (.aload_n 0), a0 (.getfield 9) 3 229 0 4 0 0, none, none, a1 (.iconst 1), a1 (.iaload), a1 (.ishl), a3 (.if_icmp .ge 57), none, none, a2 (.iload 6), none, a0 (.invokestatic 181) 3 295 12 168 1 0],
  [none, none, a1 (.iload_n 3), a3 (.if_icmp .ne 13), none, none, a1 (.aload_n 0), a2 (.iload 6), none, a1 (.iload_n 2), a0 (.invokevirtual 215) 3 319 10 190 3 0, none, none, a3 (.goto 5), none, none, a0 (.ldc 204) 2 312 2 0 0 2147483647, none, a2 (.istore 7), none, a2 (.iload 7), none, a2 (.iload 5), none, a3 (.if_icmp .ge 8), none, none, a2 (.iload 6), none, a3 (.goto 5), none, none],
  [a2 (.iload 4), none, a2 (.istore 4), none, a2 (.iload 5), none, a2 (.iload 7), none, a0 (.invokestatic 128) 3 273 25 0 0 0, none, none, a2 (.istore 5), none, a3 (.iinc 6 1), none, none, a3 (.goto (-64)), none, none, a2 (.iload 4), none, a1 (.ireturn)]]
/-- 190: EnvyRustModel.lostPainted -/
noncomputable def mk_190 : List (List (Option mEnt)) := [[a1 (.iconst 0), a1 (.istore_n 3), a1 (.iload_n 3), a1 (.aload_n 0), a0 (.getfield 9) 3 229 0 4 0 0, none, none, a1 (.iconst 1), a1 (.iaload), a3 (.if_icmp .ge 50), none, none, a1 (.aload_n 0), a0 (.getfield 29) 3 236 0 4 7 0, none, none, a1 (.iload_n 3), a1 (.aload_n 0), a1 (.iload_n 3), a1 (.iconst 3), a0 (.invokevirtual 103) 3 266 10 143 3 0, none, none, a1 (.iastore), a1 (.aload_n 0), a0 (.getfield 9) 3 229 0 4 0 0, none, none, a1 (.iload_n 3), a1 (.iconst 3), a0 (.invokestatic 84) 3 260 12 137 2 0, none],
  [none, a1 (.iload_n 1), a1 (.iload_n 3), a0 (.invokestatic 212) 3 320 12 191 2 0, none, none, a3 (.ifCond .eq 8), none, none, a2 (.bipush 9), none, a3 (.goto 9), none, none, a1 (.aload_n 0), a0 (.getfield 29) 3 236 0 4 7 0, none, none, a1 (.iload_n 3), a1 (.iaload), a1 (.iastore), a3 (.iinc 3 1), none, none, a3 (.goto (-54)), none, none, a1 (.aload_n 0), a1 (.iload_n 2), a0 (.invokevirtual 199) 3 308 10 180 2 0, none, none],
  [a1 (.istore_n 3), a1 (.iconst 0), a2 (.istore 4), none, a2 (.iload 4), none, a1 (.aload_n 0), a0 (.getfield 9) 3 229 0 4 0 0, none, none, a1 (.iconst 1), a1 (.iaload), a3 (.if_icmp .ge 27), none, none, a1 (.aload_n 0), a0 (.getfield 9) 3 229 0 4 0 0, none, none, a2 (.iload 4), none, a1 (.iconst 3), a0 (.invokestatic 84) 3 260 12 137 2 0, none, none, a1 (.aload_n 0), a0 (.getfield 29) 3 236 0 4 7 0, none, none, a2 (.iload 4), none, a1 (.iaload)],
  [a1 (.iastore), a3 (.iinc 4 1), none, none, a3 (.goto (-32)), none, none, a1 (.iload_n 3), a1 (.ireturn)]]
/-- 191: EnvyRustModel.has -/
noncomputable def mk_191 : List (List (Option mEnt)) := [[a1 (.iload_n 0), a1 (.iload_n 1), a1 (.ishr), a1 (.iconst 1), a1 (.iand), a1 (.iconst 1), a3 (.if_icmp .ne 7), none, none, a1 (.iconst 1), a3 (.goto 4), none, none, a1 (.iconst 0), a1 (.ireturn)]]
/-- 192: EnvyRustModel.needs -/
noncomputable def mk_192 : List (List (Option mEnt)) := [[a1 (.aload_n 0), a1 (.iload_n 1), a0 (.invokevirtual 131) 3 262 10 139 2 0, none, none, a3 (.ifCond .eq 13), none, none, a1 (.iload_n 2), a1 (.iconst 0), a2 (.bipush 60), none, a0 (.invokestatic 80) 3 254 12 133 3 0, none, none, a3 (.ifCond .ne 10), none, none, a1 (.aload_n 0), a0 (.ldc 70) 2 256 2 0 0 (-1000001), none, a0 (.invokevirtual 76) 3 257 10 135 2 0, none, none, a1 (.ireturn), a1 (.aload_n 0), a1 (.iload_n 1), a1 (.iconst 3), a0 (.invokevirtual 103) 3 266 10 143 3 0, none, none, a1 (.istore_n 3)],
  [a1 (.iconst (-1)), a2 (.istore 4), none, a2 (.bipush 9), none, a2 (.istore 5), none, a2 (.iload 5), none, a3 (.ifCond .lt 39), none, none, a1 (.aload_n 0), a0 (.getfield 9) 3 229 0 4 0 0, none, none, a1 (.iload_n 1), a1 (.iconst 3), a0 (.invokestatic 84) 3 260 12 137 2 0, none, none, a2 (.iload 5), none, a1 (.iastore), a1 (.aload_n 0), a1 (.iload_n 1), a1 (.iload_n 2), a0 (.invokevirtual 193) 3 300 10 173 3 0, none, none, a3 (.ifCond .le 8), none],
  [none, a2 (.iload 5), none, a3 (.goto 5), none, none, a2 (.iload 4), none, a2 (.istore 4), none, a3 (.iinc 5 (-1)), none, none, a3 (.goto (-38)), none, none, a1 (.aload_n 0), a0 (.getfield 9) 3 229 0 4 0 0, none, none, a1 (.iload_n 1), a1 (.iconst 3), a0 (.invokestatic 84) 3 260 12 137 2 0, none, none, a1 (.iload_n 3), a1 (.iastore), a1 (.aload_n 0), a2 (.iload 4), none, a0 (.invokevirtual 196) 3 304 10 177 2 0, none],
  [none, a1 (.ireturn)]]
/-- 193: EnvyRustModel.fallsWith -/
noncomputable def mk_193 : List (List (Option mEnt)) := [[a1 (.aload_n 0), a1 (.iload_n 1), a0 (.invokevirtual 131) 3 262 10 139 2 0, none, none, a3 (.ifCond .eq 11), none, none, a1 (.aload_n 0), a1 (.iload_n 1), a0 (.invokevirtual 218) 3 323 10 194 2 0, none, none, a3 (.goto 9), none, none, a1 (.aload_n 0), a0 (.ldc 70) 2 256 2 0 0 (-1000001), none, a0 (.invokevirtual 76) 3 257 10 135 2 0, none, none, a1 (.ireturn)]]
/-- 194: EnvyRustModel.fallWith -/
noncomputable def mk_194 : List (List (Option mEnt)) := [[a1 (.iconst 0), a1 (.istore_n 2), a1 (.iconst 0), a1 (.istore_n 3), a1 (.iload_n 3), a1 (.aload_n 0), a0 (.getfield 9) 3 229 0 4 0 0, none, none, a1 (.iconst 1), a1 (.iaload), a3 (.if_icmp .ge 28), none, none, a1 (.iload_n 2), a1 (.aload_n 0), a1 (.iload_n 3), a1 (.iload_n 1), a0 (.invokevirtual 149) 3 279 10 154 3 0, none, none, a3 (.ifCond .eq 9), none, none, a1 (.iconst 1), a1 (.iload_n 3), a1 (.ishl), a3 (.goto 4), none, none, a1 (.iconst 0), a1 (.ior)],
  [a1 (.istore_n 2), a3 (.iinc 3 1), none, none, a3 (.goto (-32)), none, none, a1 (.iload_n 2), a1 (.ireturn)]]
/-- 195: EnvyRustModel.depth -/
noncomputable def mk_195 : List (List (Option mEnt)) := [[a1 (.aload_n 0), a1 (.iload_n 1), a0 (.invokevirtual 131) 3 262 10 139 2 0, none, none, a3 (.ifCond .ne 10), none, none, a1 (.aload_n 0), a0 (.ldc 70) 2 256 2 0 0 (-1000001), none, a0 (.invokevirtual 76) 3 257 10 135 2 0, none, none, a1 (.ireturn), a1 (.iconst 0), a1 (.istore_n 2), a1 (.aload_n 0), a1 (.iload_n 1), a1 (.iconst 5), a0 (.invokevirtual 103) 3 266 10 143 3 0, none, none, a1 (.istore_n 3), a1 (.iload_n 3), a3 (.ifCond .lt 16), none, none, a3 (.iinc 2 1), none, none, a1 (.aload_n 0)],
  [a1 (.iload_n 3), a1 (.iconst 5), a0 (.invokevirtual 103) 3 266 10 143 3 0, none, none, a1 (.istore_n 3), a3 (.goto (-14)), none, none, a1 (.iload_n 2), a1 (.ireturn)]]
/-- 196: EnvyRustModel.keystone -/
noncomputable def mk_196 : List (List (Option mEnt)) := [[a1 (.iconst (-1)), a1 (.istore_n 1), a1 (.iconst 0), a1 (.istore_n 2), a1 (.iconst 0), a1 (.istore_n 3), a1 (.iload_n 3), a1 (.aload_n 0), a0 (.getfield 9) 3 229 0 4 0 0, none, none, a1 (.iconst 1), a1 (.iaload), a3 (.if_icmp .ge 38), none, none, a1 (.aload_n 0), a1 (.iload_n 3), a0 (.invokevirtual 218) 3 323 10 194 2 0, none, none, a0 (.invokestatic 181) 3 295 12 168 1 0, none, none, a2 (.istore 4), none, a2 (.iload 4), none, a1 (.iload_n 2), a3 (.if_icmp .le 7), none, none],
  [a1 (.iload_n 3), a3 (.goto 4), none, none, a1 (.iload_n 1), a1 (.istore_n 1), a1 (.iload_n 2), a2 (.iload 4), none, a0 (.invokestatic 116) 3 272 24 0 0 0, none, none, a1 (.istore_n 2), a3 (.iinc 3 1), none, none, a3 (.goto (-42)), none, none, a1 (.aload_n 0), a1 (.iload_n 1), a0 (.invokevirtual 196) 3 304 10 177 2 0, none, none, a1 (.ireturn)]]
/-- 197: EnvyRustModel.fells -/
noncomputable def mk_197 : List (List (Option mEnt)) := [[a1 (.iconst 0), a1 (.istore_n 1), a1 (.iconst 0), a1 (.istore_n 2), a1 (.iload_n 2), a1 (.aload_n 0), a0 (.getfield 9) 3 229 0 4 0 0, none, none, a1 (.iconst 1), a1 (.iaload), a3 (.if_icmp .ge 28), none, none, a1 (.iload_n 1), a1 (.aload_n 0), a1 (.iload_n 2), a1 (.iconst 5), a0 (.invokevirtual 103) 3 266 10 143 3 0, none, none, a3 (.ifCond .ge 9), none, none, a1 (.iconst 1), a1 (.iload_n 2), a1 (.ishl), a3 (.goto 4), none, none, a1 (.iconst 0), a1 (.ior)],
  [a1 (.istore_n 1), a3 (.iinc 2 1), none, none, a3 (.goto (-32)), none, none, a1 (.iload_n 1), a1 (.ireturn)]]
/-- 198: EnvyRustModel.worth -/
noncomputable def mk_198 : List (List (Option mEnt)) := [[a1 (.aload_n 0), a1 (.iload_n 1), a0 (.invokevirtual 143) 3 278 10 153 2 0, none, none, a3 (.ifCond .eq 20), none, none, a1 (.aload_n 0), a1 (.iload_n 2), a0 (.invokevirtual 221) 3 328 10 199 2 0, none, none, a3 (.ifCond .eq 12), none, none, a1 (.aload_n 0), a1 (.iload_n 1), a1 (.iload_n 2), a0 (.invokevirtual 224) 3 329 10 200 3 0, none, none, a3 (.goto 9), none, none, a1 (.aload_n 0), a0 (.ldc 70) 2 256 2 0 0 (-1000001), none, a0 (.invokevirtual 76) 3 257 10 135 2 0, none, none, a1 (.ireturn)]]
/-- 199: EnvyRustModel.areThings -/
noncomputable def mk_199 : List (List (Option mEnt)) := [[a1 (.iload_n 1), a1 (.iconst 0), a1 (.iconst 1), a1 (.aload_n 0), a0 (.getfield 9) 3 229 0 4 0 0, none, none, a1 (.iconst 1), a1 (.iaload), a1 (.ishl), a1 (.iconst 1), a1 (.isub), a0 (.invokestatic 80) 3 254 12 133 3 0, none, none, a1 (.ireturn)]]
/-- 200: EnvyRustModel.worthOf -/
noncomputable def mk_200 : List (List (Option mEnt)) := [[a1 (.iconst 0), a1 (.istore_n 3), a1 (.iconst 0), a2 (.istore 4), none, a2 (.iload 4), none, a1 (.aload_n 0), a0 (.getfield 9) 3 229 0 4 0 0, none, none, a1 (.iconst 1), a1 (.iaload), a3 (.if_icmp .ge 33), none, none, a1 (.iload_n 3), a1 (.iload_n 2), a2 (.iload 4), none, a0 (.invokestatic 212) 3 320 12 191 2 0, none, none, a3 (.ifCond .eq 14), none, none, a1 (.aload_n 0), a1 (.iload_n 1), a2 (.iload 4), none, a1 (.iconst (-1)), a0 (.invokevirtual 121) 3 268 10 145 4 0],
  [none, none, a3 (.goto 4), none, none, a1 (.iconst 0), a1 (.iadd), a1 (.istore_n 3), a3 (.iinc 4 1), none, none, a3 (.goto (-38)), none, none, a1 (.iload_n 3), a1 (.ireturn)]]
/-- 201: EnvyRustModel.deal -/
noncomputable def mk_201 : List (List (Option mEnt)) := [[a1 (.aload_n 0), a1 (.iload_n 1), a1 (.iload_n 2), a1 (.iload_n 3), a0 (.invokevirtual 231) 3 331 10 202 4 0, none, none, a3 (.ifCond .ne 10), none, none, a1 (.aload_n 0), a0 (.ldc 70) 2 256 2 0 0 (-1000001), none, a0 (.invokevirtual 76) 3 257 10 135 2 0, none, none, a1 (.ireturn), a1 (.iconst (-1)), a2 (.istore 4), none, a1 (.iload_n 3), a2 (.istore 5), none, a2 (.iload 5), none, a3 (.ifCond .lt 44), none, none, a2 (.iload 5), none, a1 (.iload_n 3), a1 (.iconst (-1))],
  [a1 (.ixor), a1 (.iand), a3 (.ifCond .ne 25), none, none, a1 (.aload_n 0), a1 (.iload_n 1), a1 (.iload_n 2), a2 (.iload 5), none, a1 (.iload_n 3), a2 (.iload 5), none, a1 (.iconst (-1)), a1 (.ixor), a1 (.iand), a0 (.invokevirtual 227) 3 332 10 203 5 0, none, none, a3 (.ifCond .eq 8), none, none, a2 (.iload 5), none, a3 (.goto 5), none, none, a2 (.iload 4), none, a2 (.istore 4), none, a3 (.iinc 5 (-1))],
  [none, none, a3 (.goto (-43)), none, none, a1 (.aload_n 0), a2 (.iload 4), none, a0 (.invokevirtual 196) 3 304 10 177 2 0, none, none, a1 (.ireturn)]]
/-- 202: EnvyRustModel.isPair -/
noncomputable def mk_202 : List (List (Option mEnt)) := [[a1 (.aload_n 0), a1 (.iload_n 1), a0 (.invokevirtual 143) 3 278 10 153 2 0, none, none, a3 (.ifCond .eq 28), none, none, a1 (.aload_n 0), a1 (.iload_n 2), a0 (.invokevirtual 143) 3 278 10 153 2 0, none, none, a3 (.ifCond .eq 20), none, none, a1 (.iload_n 1), a1 (.iload_n 2), a3 (.if_icmp .eq 15), none, none, a1 (.aload_n 0), a1 (.iload_n 3), a0 (.invokevirtual 221) 3 328 10 199 2 0, none, none, a3 (.ifCond .eq 7), none, none, a1 (.iconst 1), a3 (.goto 4), none],
  [none, a1 (.iconst 0), a1 (.ireturn)]]
/-- 203: EnvyRustModel.isDeal -/
noncomputable def mk_203 : List (List (Option mEnt)) := [[a1 (.aload_n 0), a1 (.iload_n 1), a2 (.iload 4), none, a0 (.invokevirtual 224) 3 329 10 200 3 0, none, none, a1 (.aload_n 0), a1 (.iload_n 1), a1 (.iload_n 3), a0 (.invokevirtual 224) 3 329 10 200 3 0, none, none, a3 (.if_icmp .gt 23), none, none, a1 (.aload_n 0), a1 (.iload_n 2), a1 (.iload_n 3), a0 (.invokevirtual 224) 3 329 10 200 3 0, none, none, a1 (.aload_n 0), a1 (.iload_n 2), a2 (.iload 4), none, a0 (.invokevirtual 224) 3 329 10 200 3 0, none, none, a3 (.if_icmp .gt 7), none, none],
  [a1 (.iconst 1), a3 (.goto 4), none, none, a1 (.iconst 0), a1 (.ireturn)]]
/-- 204: EnvyRustModel.deals -/
noncomputable def mk_204 : List (List (Option mEnt)) := [[a1 (.aload_n 0), a1 (.iload_n 1), a1 (.iload_n 2), a1 (.iload_n 3), a0 (.invokevirtual 231) 3 331 10 202 4 0, none, none, a3 (.ifCond .eq 13), none, none, a1 (.aload_n 0), a1 (.iload_n 1), a1 (.iload_n 2), a1 (.iload_n 3), a0 (.invokevirtual 234) 3 334 10 205 4 0, none, none, a3 (.goto 9), none, none, a1 (.aload_n 0), a0 (.ldc 70) 2 256 2 0 0 (-1000001), none, a0 (.invokevirtual 76) 3 257 10 135 2 0, none, none, a1 (.ireturn)]]
/-- 205: EnvyRustModel.dealsOf -/
noncomputable def mk_205 : List (List (Option mEnt)) := [[a1 (.iconst 0), a2 (.istore 4), none, a1 (.iconst 0), a2 (.istore 5), none, a2 (.iload 5), none, a1 (.iload_n 3), a3 (.if_icmp .gt 45), none, none, a2 (.iload 4), none, a2 (.iload 5), none, a1 (.iload_n 3), a1 (.iconst (-1)), a1 (.ixor), a1 (.iand), a3 (.ifCond .ne 24), none, none, a1 (.aload_n 0), a1 (.iload_n 1), a1 (.iload_n 2), a2 (.iload 5), none, a1 (.iload_n 3), a2 (.iload 5), none, a1 (.iconst (-1))],
  [a1 (.ixor), a1 (.iand), a0 (.invokevirtual 227) 3 332 10 203 5 0, none, none, a3 (.ifCond .eq 7), none, none, a1 (.iconst 1), a3 (.goto 4), none, none, a1 (.iconst 0), a1 (.iadd), a2 (.istore 4), none, a3 (.iinc 5 1), none, none, a3 (.goto (-45)), none, none, a2 (.iload 4), none, a1 (.ireturn)]]
/-- 206: EnvyRustModel.lesser -/
noncomputable def mk_206 : List (List (Option mEnt)) := [[a1 (.aload_n 0), a1 (.iload_n 1), a1 (.iload_n 2), a1 (.iload_n 3), a0 (.invokevirtual 231) 3 331 10 202 4 0, none, none, a3 (.ifCond .ne 10), none, none, a1 (.aload_n 0), a0 (.ldc 70) 2 256 2 0 0 (-1000001), none, a0 (.invokevirtual 76) 3 257 10 135 2 0, none, none, a1 (.ireturn), a1 (.iconst 0), a2 (.istore 4), none, a1 (.iconst (-1)), a2 (.istore 5), none, a1 (.iconst 0), a2 (.istore 6), none, a2 (.iload 6), none, a1 (.iload_n 3), a3 (.if_icmp .gt 70), none, none],
  [a2 (.iload 6), none, a1 (.iload_n 3), a1 (.iconst (-1)), a1 (.ixor), a1 (.iand), a3 (.ifCond .ne 27), none, none, a1 (.aload_n 0), a1 (.iload_n 1), a2 (.iload 6), none, a0 (.invokevirtual 224) 3 329 10 200 3 0, none, none, a1 (.aload_n 0), a1 (.iload_n 2), a1 (.iload_n 3), a2 (.iload 6), none, a1 (.iconst (-1)), a1 (.ixor), a1 (.iand), a0 (.invokevirtual 224) 3 329 10 200 3 0, none, none, a0 (.invokestatic 128) 3 273 25 0 0 0, none, none, a3 (.goto 4), none],
  [none, a1 (.iconst (-1)), a2 (.istore 7), none, a2 (.iload 7), none, a2 (.iload 5), none, a3 (.if_icmp .le 8), none, none, a2 (.iload 6), none, a3 (.goto 5), none, none, a2 (.iload 4), none, a2 (.istore 4), none, a2 (.iload 5), none, a2 (.iload 7), none, a0 (.invokestatic 116) 3 272 24 0 0 0, none, none, a2 (.istore 5), none, a3 (.iinc 6 1), none, none],
  [a3 (.goto (-70)), none, none, a2 (.iload 4), none, a1 (.ireturn)]]
/-- 207: EnvyRustModel.envious -/
noncomputable def mk_207 : List (List (Option mEnt)) := [[a1 (.iconst 0), a1 (.istore_n 1), a1 (.iconst 0), a1 (.istore_n 2), a1 (.iload_n 2), a1 (.aload_n 0), a0 (.getfield 9) 3 229 0 4 0 0, none, none, a1 (.iconst 2), a1 (.iaload), a3 (.if_icmp .ge 63), none, none, a1 (.iconst 0), a1 (.istore_n 3), a1 (.iload_n 3), a1 (.aload_n 0), a0 (.getfield 9) 3 229 0 4 0 0, none, none, a1 (.iconst 2), a1 (.iaload), a3 (.if_icmp .ge 45), none, none, a1 (.iload_n 1), a1 (.iload_n 2), a1 (.iload_n 3), a3 (.if_icmp .eq 30), none, none],
  [a1 (.aload_n 0), a1 (.iload_n 2), a1 (.aload_n 0), a1 (.iload_n 3), a0 (.invokevirtual 162) 3 286 10 160 2 0, none, none, a0 (.invokevirtual 224) 3 329 10 200 3 0, none, none, a1 (.aload_n 0), a1 (.iload_n 2), a1 (.aload_n 0), a1 (.iload_n 2), a0 (.invokevirtual 162) 3 286 10 160 2 0, none, none, a0 (.invokevirtual 224) 3 329 10 200 3 0, none, none, a3 (.if_icmp .le 7), none, none, a1 (.iconst 1), a3 (.goto 4), none, none, a1 (.iconst 0), a1 (.iadd), a1 (.istore_n 1), a3 (.iinc 3 1), none],
  [none, a3 (.goto (-49)), none, none, a3 (.iinc 2 1), none, none, a3 (.goto (-67)), none, none, a1 (.iload_n 1), a1 (.ireturn)]]
/-- 208: EnvyRustModel.fits -/
noncomputable def mk_208 : List (List (Option mEnt)) := [[a1 (.aload_n 0), a1 (.iload_n 1), a0 (.invokevirtual 244) 3 338 10 209 2 0, none, none, a3 (.ifCond .eq 13), none, none, a1 (.aload_n 0), a1 (.aload_n 0), a1 (.iload_n 1), a0 (.invokevirtual 244) 3 338 10 209 2 0, none, none, a0 (.invokevirtual 76) 3 257 10 135 2 0, none, none, a1 (.ireturn), a1 (.aload_n 0), a1 (.iload_n 2), a0 (.invokevirtual 143) 3 278 10 153 2 0, none, none, a3 (.ifCond .eq 24), none, none, a1 (.aload_n 0), a1 (.iload_n 3), a0 (.invokevirtual 131) 3 262 10 139 2 0, none, none, a3 (.ifCond .eq 16)],
  [none, none, a1 (.aload_n 0), a1 (.iload_n 1), a1 (.iload_n 2), a1 (.iload_n 3), a0 (.invokevirtual 247) 3 341 10 211 4 0, none, none, a0 (.invokestatic 181) 3 295 12 168 1 0, none, none, a3 (.goto 9), none, none, a1 (.aload_n 0), a0 (.ldc 70) 2 256 2 0 0 (-1000001), none, a0 (.invokevirtual 76) 3 257 10 135 2 0, none, none, a1 (.ireturn)]]
/-- 209: EnvyRustModel.lacks -/
noncomputable def mk_209 : List (List (Option mEnt)) := [[a1 (.iload_n 1), a0 (.invokestatic 237) 3 339 12 210 1 0, none, none, a3 (.ifCond .ne 8), none, none, a0 (.ldc 70) 2 256 2 0 0 (-1000001), none, a3 (.goto 18), none, none, a1 (.aload_n 0), a0 (.getfield 58) 3 249 0 4 20 0, none, none, a1 (.iload_n 1), a1 (.iaload), a3 (.ifCond .ne 8), none, none, a0 (.ldc 240) 2 340 2 0 0 (-1000006), none, a3 (.goto 4), none, none, a1 (.iconst 0), a1 (.ireturn)]]
/-- 210: EnvyRustModel.isSheet -/
noncomputable def mk_210 : List (List (Option mEnt)) := [[a1 (.iload_n 0), a1 (.iconst 0), a1 (.iconst 3), a0 (.invokestatic 80) 3 254 12 133 3 0, none, none, a1 (.ireturn)]]
/-- 211: EnvyRustModel.fitting -/
noncomputable def mk_211 : List (List (Option mEnt)) := [[a1 (.iload_n 2), a1 (.iconst 3), a1 (.aload_n 0), a1 (.iload_n 3), a1 (.iconst 0), a0 (.invokevirtual 103) 3 266 10 143 3 0, none, none, a1 (.iadd), a0 (.invokestatic 88) 3 265 12 142 2 0, none, none, a2 (.istore 4), none, a1 (.aload_n 0), a0 (.getfield 9) 3 229 0 4 0 0, none, none, a2 (.iload 4), none, a1 (.iaload), a2 (.istore 5), none, a1 (.iconst 0), a2 (.istore 6), none, a1 (.iconst 0), a2 (.istore 7), none, a2 (.iload 7), none, a2 (.bipush 9)],
  [none, a3 (.if_icmp .gt 40), none, none, a1 (.aload_n 0), a0 (.getfield 9) 3 229 0 4 0 0, none, none, a2 (.iload 4), none, a2 (.iload 7), none, a1 (.iastore), a2 (.iload 6), none, a1 (.aload_n 0), a1 (.iload_n 1), a1 (.iload_n 3), a0 (.invokevirtual 241) 3 342 10 212 3 0, none, none, a3 (.ifCond .eq 10), none, none, a1 (.iconst 1), a2 (.iload 7), none, a1 (.ishl), a3 (.goto 4), none, none, a1 (.iconst 0)],
  [a1 (.ior), a2 (.istore 6), none, a3 (.iinc 7 1), none, none, a3 (.goto (-41)), none, none, a1 (.aload_n 0), a0 (.getfield 9) 3 229 0 4 0 0, none, none, a2 (.iload 4), none, a2 (.iload 5), none, a1 (.iastore), a2 (.iload 6), none, a1 (.ireturn)]]
/-- 212: EnvyRustModel.isWornSo -/
noncomputable def mk_212 : List (List (Option mEnt)) := [[a1 (.aload_n 0), a0 (.getfield 9) 3 229 0 4 0 0, none, none, a1 (.aload_n 0), a0 (.getfield 16) 3 231 0 4 2 0, none, none, a0 (.invokestatic 71) 3 301 12 174 2 0, none, none, a1 (.iconst 1), a1 (.istore_n 3), a1 (.iconst 0), a2 (.istore 4), none, a2 (.iload 4), none, a1 (.aload_n 0), a0 (.getfield 61) 3 250 0 4 21 0, none, none, a1 (.iload_n 1), a1 (.iaload), a3 (.if_icmp .ge 54), none, none, a1 (.iload_n 3), a3 (.ifCond .eq 50), none, none, a1 (.aload_n 0)],
  [a0 (.getfield 64) 3 251 0 4 22 0, none, none, a2 (.bipush 40), none, a1 (.iload_n 1), a1 (.imul), a2 (.iload 4), none, a1 (.iadd), a1 (.iaload), a2 (.istore 5), none, a2 (.iload 5), none, a1 (.iconst (-1)), a3 (.if_icmp .eq 14), none, none, a2 (.iload 5), none, a1 (.aload_n 0), a1 (.iload_n 2), a1 (.iconst 2), a0 (.invokevirtual 103) 3 266 10 143 3 0, none, none, a3 (.if_icmp .ne 7), none, none, a1 (.iconst 1), a3 (.goto 4)],
  [none, none, a1 (.iconst 0), a1 (.istore_n 3), a1 (.aload_n 0), a0 (.invokevirtual 169) 3 292 10 165 1 0, none, none, a3 (.iinc 4 1), none, none, a3 (.goto (-59)), none, none, a1 (.aload_n 0), a0 (.getfield 16) 3 231 0 4 2 0, none, none, a1 (.aload_n 0), a0 (.getfield 9) 3 229 0 4 0 0, none, none, a0 (.invokestatic 71) 3 301 12 174 2 0, none, none, a1 (.iload_n 3), a1 (.ireturn)]]
/-- 213: EnvyRustModel.likes -/
noncomputable def mk_213 : List (List (Option mEnt)) := [[a1 (.aload_n 0), a1 (.iload_n 1), a0 (.invokevirtual 244) 3 338 10 209 2 0, none, none, a3 (.ifCond .eq 13), none, none, a1 (.aload_n 0), a1 (.aload_n 0), a1 (.iload_n 1), a0 (.invokevirtual 244) 3 338 10 209 2 0, none, none, a0 (.invokevirtual 76) 3 257 10 135 2 0, none, none, a1 (.ireturn), a1 (.aload_n 0), a1 (.iload_n 2), a0 (.invokevirtual 143) 3 278 10 153 2 0, none, none, a3 (.ifCond .eq 11), none, none, a1 (.aload_n 0), a1 (.iload_n 3), a0 (.invokevirtual 131) 3 262 10 139 2 0, none, none, a3 (.ifCond .ne 10)],
  [none, none, a1 (.aload_n 0), a0 (.ldc 70) 2 256 2 0 0 (-1000001), none, a0 (.invokevirtual 76) 3 257 10 135 2 0, none, none, a1 (.ireturn), a1 (.aload_n 0), a1 (.iload_n 1), a1 (.iload_n 2), a1 (.iload_n 3), a0 (.invokevirtual 247) 3 341 10 211 4 0, none, none, a2 (.istore 4), none, a1 (.iconst 0), a2 (.istore 5), none, a2 (.iload 5), none, a2 (.bipush 9), none, a3 (.if_icmp .gt 19), none, none, a2 (.iload 4), none, a2 (.iload 5), none],
  [a0 (.invokestatic 212) 3 320 12 191 2 0, none, none, a3 (.ifCond .ne 9), none, none, a3 (.iinc 5 1), none, none, a3 (.goto (-20)), none, none, a2 (.iload 5), none, a2 (.bipush 9), none, a3 (.if_icmp .le 12), none, none, a1 (.aload_n 0), a0 (.ldc 75) 2 305 2 0 0 (-1000004), none, a0 (.invokevirtual 76) 3 257 10 135 2 0, none, none, a3 (.goto 5), none, none, a2 (.iload 5), none, a1 (.ireturn)]]
/-- 214: EnvyRustModel.strolls -/
noncomputable def mk_214 : List (List (Option mEnt)) := [[a1 (.iload_n 1), a1 (.iconst 1), a2 (.bipush 20), none, a0 (.invokestatic 80) 3 254 12 133 3 0, none, none, a3 (.ifCond .ne 10), none, none, a1 (.aload_n 0), a0 (.ldc 70) 2 256 2 0 0 (-1000001), none, a0 (.invokevirtual 76) 3 257 10 135 2 0, none, none, a1 (.ireturn), a1 (.aload_n 0), a0 (.getfield 9) 3 229 0 4 0 0, none, none, a1 (.iconst 0), a1 (.iaload), a1 (.iload_n 1), a1 (.iadd), a0 (.ldc 172) 2 290 2 0 0 99999, none, a3 (.if_icmp .le 10), none, none, a1 (.aload_n 0), a0 (.ldc 152) 2 280 2 0 0 (-1000005)],
  [none, a0 (.invokevirtual 76) 3 257 10 135 2 0, none, none, a1 (.ireturn), a1 (.aload_n 0), a0 (.invokevirtual 184) 3 297 10 170 1 0, none, none, a1 (.istore_n 2), a1 (.iconst 0), a1 (.istore_n 3), a1 (.iload_n 3), a1 (.iload_n 1), a3 (.if_icmp .ge 51), none, none, a1 (.iconst 0), a2 (.istore 4), none, a2 (.iload 4), none, a1 (.aload_n 0), a0 (.getfield 9) 3 229 0 4 0 0, none, none, a1 (.iconst 2), a1 (.iaload), a3 (.if_icmp .ge 27), none, none, a1 (.aload_n 0)],
  [a0 (.getfield 9) 3 229 0 4 0 0, none, none, a2 (.iload 4), none, a1 (.iconst 1), a0 (.invokestatic 88) 3 265 12 142 2 0, none, none, a1 (.aload_n 0), a0 (.invokevirtual 251) 3 345 10 215 1 0, none, none, a2 (.bipush 16), none, a1 (.irem), a1 (.iastore), a3 (.iinc 4 1), none, none, a3 (.goto (-32)), none, none, a1 (.aload_n 0), a0 (.invokevirtual 169) 3 292 10 165 1 0, none, none, a3 (.iinc 3 1), none, none, a3 (.goto (-50)), none],
  [none, a1 (.iload_n 2), a1 (.aload_n 0), a0 (.invokevirtual 184) 3 297 10 170 1 0, none, none, a1 (.isub), a1 (.ireturn)]]
/-- 215: EnvyRustModel.drawn -/
noncomputable def mk_215 : List (List (Option mEnt)) := [[a1 (.aload_n 0), a0 (.getfield 9) 3 229 0 4 0 0, none, none, a1 (.iconst 3), a1 (.aload_n 0), a0 (.getfield 9) 3 229 0 4 0 0, none, none, a1 (.iconst 3), a1 (.iaload), a0 (.ldc 250) 2 346 2 0 0 1103515245, none, a1 (.imul), a3 (.sipush 12345), none, none, a1 (.iadd), a1 (.iastore), a1 (.aload_n 0), a0 (.getfield 9) 3 229 0 4 0 0, none, none, a1 (.iconst 3), a1 (.iaload), a2 (.bipush 8), none, a1 (.iushr), a1 (.ireturn)]]
/-- 216: EnvyRustModel.odds -/
noncomputable def mk_216 : List (List (Option mEnt)) := [[a1 (.iload_n 1), a1 (.iconst 0), a2 (.bipush 14), none, a0 (.invokestatic 80) 3 254 12 133 3 0, none, none, a3 (.ifCond .eq 12), none, none, a1 (.iload_n 2), a1 (.iconst 0), a1 (.iconst 1), a0 (.invokestatic 80) 3 254 12 133 3 0, none, none, a3 (.ifCond .ne 11), none, none, a1 (.aload_n 0), a0 (.ldc 70) 2 256 2 0 0 (-1000001), none, a0 (.invokevirtual 76) 3 257 10 135 2 0, none, none, a1 (.i2l), a1 (.lreturn), a1 (.iconst 0), a1 (.istore_n 3), a1 (.iconst 0), a2 (.istore 4), none],
  [a2 (.iload 4), none, a1 (.aload_n 0), a0 (.getfield 9) 3 229 0 4 0 0, none, none, a1 (.iconst 1), a1 (.iaload), a3 (.if_icmp .ge 21), none, none, a1 (.iload_n 3), a1 (.iconst 1), a1 (.aload_n 0), a2 (.iload 4), none, a1 (.iconst 1), a0 (.invokevirtual 103) 3 266 10 143 3 0, none, none, a1 (.ishl), a1 (.ior), a1 (.istore_n 3), a3 (.iinc 4 1), none, none, a3 (.goto (-26)), none, none, a2 (.bipush 16), none, a1 (.iload_n 3)],
  [a0 (.invokestatic 181) 3 295 12 168 1 0, none, none, a1 (.isub), a2 (.istore 4), none, a2 (.bipush 16), none, a2 (.istore 5), none, a2 (.iload 4), none, a1 (.iconst 2), a1 (.irem), a3 (.ifCond .ne 25), none, none, a2 (.iload 5), none, a1 (.iconst 2), a1 (.irem), a3 (.ifCond .ne 18), none, none, a2 (.iload 4), none, a1 (.iconst 2), a1 (.idiv), a2 (.istore 4), none, a2 (.iload 5), none],
  [a1 (.iconst 2), a1 (.idiv), a2 (.istore 5), none, a3 (.goto (-26)), none, none, a1 (.lconst 1), a2 (.lstore 6), none, a1 (.iconst 0), a2 (.istore 8), none, a2 (.iload 8), none, a1 (.iload_n 1), a3 (.if_icmp .ge 27), none, none, a2 (.lload 6), none, a1 (.iload_n 2), a3 (.ifCond .ne 9), none, none, a2 (.iload 4), none, a1 (.i2l), a3 (.goto 6), none, none, a2 (.iload 5)],
  [none, a1 (.i2l), a1 (.lmul), a2 (.lstore 6), none, a3 (.iinc 8 1), none, none, a3 (.goto (-27)), none, none, a2 (.lload 6), none, a1 (.lreturn)]]
/-- 217: EnvyRustModel.seed -/
noncomputable def mk_217 : List (List (Option mEnt)) := [[a1 (.aload_n 0), a1 (.iconst 3), a1 (.iload_n 1), a0 (.invokevirtual 153) 3 281 10 155 3 0, none, none, a1 (.ireturn)]]
/-- 218: EnvyRustModel.feed -/
noncomputable def mk_218 : List (List (Option mEnt)) := [[a1 (.iload_n 2), a1 (.iconst 1), a1 (.iconst 4), a0 (.invokestatic 80) 3 254 12 133 3 0, none, none, a3 (.ifCond .ne 10), none, none, a1 (.aload_n 0), a0 (.ldc 70) 2 256 2 0 0 (-1000001), none, a0 (.invokevirtual 76) 3 257 10 135 2 0, none, none, a1 (.ireturn), a1 (.aload_n 0), a0 (.getfield 254) 3 238 0 4 9 0, none, none, a1 (.iload_n 2), a1 (.iadd), a2 (.bipush 120), none, a3 (.if_icmp .le 10), none, none, a1 (.aload_n 0), a0 (.ldc 95) 2 258 2 0 0 (-1000002), none, a0 (.invokevirtual 76) 3 257 10 135 2 0, none],
  [none, a1 (.ireturn), a1 (.iload_n 2), a1 (.iconst 1), a1 (.isub), a1 (.istore_n 3), a1 (.iload_n 3), a3 (.ifCond .lt 38), none, none, a1 (.aload_n 0), a0 (.getfield 32) 3 237 0 4 8 0, none, none, a1 (.aload_n 0), a0 (.getfield 254) 3 238 0 4 9 0, none, none, a1 (.iload_n 1), a2 (.bipush 8), none, a1 (.iload_n 3), a1 (.imul), a1 (.ishr), a3 (.sipush 255), none, none, a1 (.iand), a1 (.iastore), a1 (.aload_n 0), a1 (.dup), a0 (.getfield 254) 3 238 0 4 9 0],
  [none, none, a1 (.iconst 1), a1 (.iadd), a0 (.putfield 254) 3 238 0 4 9 0, none, none, a3 (.iinc 3 (-1)), none, none, a3 (.goto (-36)), none, none, a1 (.aload_n 0), a0 (.getfield 254) 3 238 0 4 9 0, none, none, a1 (.ireturn)]]
/-- 219: EnvyRustModel.wipe -/
noncomputable def mk_219 : List (List (Option mEnt)) := [[a1 (.aload_n 0), a0 (.getfield 254) 3 238 0 4 9 0, none, none, a1 (.istore_n 1), a1 (.aload_n 0), a1 (.iconst 0), a0 (.putfield 254) 3 238 0 4 9 0, none, none, a1 (.iload_n 1), a1 (.ireturn)]]
/-- 220: EnvyRustModel.text -/
noncomputable def mk_220 : List (List (Option mEnt)) := [[a1 (.aload_n 0), a1 (.iconst 0), a0 (.putfield 257) 3 240 0 4 11 0, none, none, a1 (.aload_n 0), a1 (.iconst 0), a0 (.putfield 279) 3 243 0 4 14 0, none, none, a1 (.aload_n 0), a1 (.iconst 0), a0 (.putfield 290) 3 246 0 4 17 0, none, none, a1 (.aload_n 0), a1 (.aload_n 0), a0 (.getfield 9) 3 229 0 4 0 0, none, none, a1 (.iconst 1), a1 (.iaload), a0 (.putfield 321) 3 247 0 4 18 0, none, none, a1 (.aload_n 0), a1 (.aload_n 0), a0 (.getfield 9) 3 229 0 4 0 0, none, none, a1 (.iconst 2), a1 (.iaload)],
  [a0 (.putfield 303) 3 248 0 4 19 0, none, none, a1 (.aload_n 0), a0 (.invokevirtual 283) 3 352 10 221 1 0, none, none, a1 (.aload_n 0), a0 (.invokevirtual 332) 3 354 10 223 1 0, none, none, a1 (.aload_n 0), a0 (.getfield 279) 3 243 0 4 14 0, none, none, a3 (.ifCond .ne 37), none, none, a1 (.aload_n 0), a0 (.getfield 269) 3 241 0 4 12 0, none, none, a1 (.iconst 3), a3 (.if_icmp .ne 29), none, none, a1 (.aload_n 0), a0 (.getfield 32) 3 237 0 4 8 0, none, none, a1 (.aload_n 0), a0 (.getfield 260) 3 239 0 4 10 0],
  [none, none, a1 (.iaload), a2 (.bipush 59), none, a3 (.if_icmp .ne 15), none, none, a1 (.aload_n 0), a1 (.iconst 1), a0 (.invokevirtual 286) 3 359 10 226 2 0, none, none, a1 (.aload_n 0), a0 (.invokevirtual 332) 3 354 10 223 1 0, none, none, a3 (.goto (-38)), none, none, a1 (.aload_n 0), a1 (.aload_n 0), a0 (.getfield 269) 3 241 0 4 12 0, none, none, a3 (.ifCond .ne 7), none, none, a1 (.iconst 1), a3 (.goto 4), none, none],
  [a1 (.iconst 0), a0 (.invokevirtual 286) 3 359 10 226 2 0, none, none, a1 (.aload_n 0), a1 (.iconst 0), a0 (.putfield 254) 3 238 0 4 9 0, none, none, a1 (.aload_n 0), a0 (.getfield 279) 3 243 0 4 14 0, none, none, a3 (.ifCond .eq 10), none, none, a1 (.iconst (-1)), a1 (.aload_n 0), a0 (.getfield 260) 3 239 0 4 10 0, none, none, a1 (.isub), a1 (.ireturn), a1 (.iconst 0), a1 (.istore_n 1), a1 (.iconst 0), a1 (.istore_n 2), a1 (.iload_n 2), a1 (.aload_n 0), a0 (.getfield 290) 3 246 0 4 17 0, none, none],
  [a3 (.if_icmp .ge 28), none, none, a1 (.iload_n 1), a1 (.aload_n 0), a2 (.bipush 7), none, a1 (.iload_n 2), a1 (.imul), a0 (.invokevirtual 335) 3 371 10 230 2 0, none, none, a3 (.ifCond .ge 7), none, none, a1 (.iconst 0), a3 (.goto 4), none, none, a1 (.iconst 1), a1 (.iadd), a1 (.istore_n 1), a3 (.iinc 2 1), none, none, a3 (.goto (-30)), none, none, a1 (.iload_n 1), a1 (.ireturn)]]
/-- 221: EnvyRustModel.next -/
noncomputable def mk_221 : List (List (Option mEnt)) := [[a1 (.aload_n 0), a1 (.aload_n 0), a0 (.getfield 257) 3 240 0 4 11 0, none, none, a0 (.putfield 260) 3 239 0 4 10 0, none, none, a1 (.aload_n 0), a1 (.aload_n 0), a0 (.getfield 260) 3 239 0 4 10 0, none, none, a0 (.invokevirtual 263) 3 353 10 222 2 0, none, none, a2 (.bipush 32), none, a3 (.if_icmp .ne 16), none, none, a1 (.aload_n 0), a1 (.dup), a0 (.getfield 260) 3 239 0 4 10 0, none, none, a1 (.iconst 1), a1 (.iadd), a0 (.putfield 260) 3 239 0 4 10 0, none, none, a3 (.goto (-23))],
  [none, none, a1 (.aload_n 0), a1 (.aload_n 0), a0 (.getfield 260) 3 239 0 4 10 0, none, none, a0 (.invokevirtual 263) 3 353 10 222 2 0, none, none, a1 (.istore_n 1), a1 (.aload_n 0), a1 (.aload_n 0), a0 (.getfield 260) 3 239 0 4 10 0, none, none, a0 (.putfield 257) 3 240 0 4 11 0, none, none, a1 (.aload_n 0), a1 (.iconst 0), a0 (.putfield 266) 3 242 0 4 13 0, none, none, a1 (.iload_n 1), a3 (.ifCond .ge 11), none, none, a1 (.aload_n 0), a1 (.iconst 0), a0 (.putfield 269) 3 241 0 4 12 0, none],
  [none, a3 (.goto 141), none, none, a1 (.iload_n 1), a2 (.bipush 97), none, a2 (.bipush 122), none, a0 (.invokestatic 80) 3 254 12 133 3 0, none, none, a3 (.ifCond .eq 39), none, none, a1 (.aload_n 0), a1 (.iconst 1), a0 (.putfield 269) 3 241 0 4 12 0, none, none, a1 (.aload_n 0), a1 (.aload_n 0), a0 (.getfield 257) 3 240 0 4 11 0, none, none, a0 (.invokevirtual 263) 3 353 10 222 2 0, none, none, a2 (.bipush 97), none, a2 (.bipush 122), none],
  [a0 (.invokestatic 80) 3 254 12 133 3 0, none, none, a3 (.ifCond .eq 107), none, none, a1 (.aload_n 0), a1 (.dup), a0 (.getfield 257) 3 240 0 4 11 0, none, none, a1 (.iconst 1), a1 (.iadd), a0 (.putfield 257) 3 240 0 4 11 0, none, none, a3 (.goto (-28)), none, none, a1 (.iload_n 1), a2 (.bipush 48), none, a2 (.bipush 57), none, a0 (.invokestatic 80) 3 254 12 133 3 0, none, none, a3 (.ifCond .eq 68), none, none, a1 (.aload_n 0), a1 (.iconst 2)],
  [a0 (.putfield 269) 3 241 0 4 12 0, none, none, a1 (.aload_n 0), a1 (.aload_n 0), a0 (.getfield 257) 3 240 0 4 11 0, none, none, a0 (.invokevirtual 263) 3 353 10 222 2 0, none, none, a2 (.bipush 48), none, a2 (.bipush 57), none, a0 (.invokestatic 80) 3 254 12 133 3 0, none, none, a3 (.ifCond .eq 60), none, none, a1 (.aload_n 0), a3 (.sipush 1000), none, none, a2 (.bipush 10), none, a1 (.aload_n 0), a0 (.getfield 266) 3 242 0 4 13 0, none, none, a1 (.imul)],
  [a1 (.aload_n 0), a1 (.aload_n 0), a0 (.getfield 257) 3 240 0 4 11 0, none, none, a0 (.invokevirtual 263) 3 353 10 222 2 0, none, none, a1 (.iadd), a2 (.bipush 48), none, a1 (.isub), a0 (.invokestatic 128) 3 273 25 0 0 0, none, none, a0 (.putfield 266) 3 242 0 4 13 0, none, none, a1 (.aload_n 0), a1 (.dup), a0 (.getfield 257) 3 240 0 4 11 0, none, none, a1 (.iconst 1), a1 (.iadd), a0 (.putfield 257) 3 240 0 4 11 0, none, none, a3 (.goto (-57)), none, none, a1 (.aload_n 0)],
  [a1 (.iconst 3), a0 (.putfield 269) 3 241 0 4 12 0, none, none, a1 (.aload_n 0), a1 (.dup), a0 (.getfield 257) 3 240 0 4 11 0, none, none, a1 (.iconst 1), a1 (.iadd), a0 (.putfield 257) 3 240 0 4 11 0, none, none, a1 (.return_)]]
/-- 222: EnvyRustModel.byteAt -/
noncomputable def mk_222 : List (List (Option mEnt)) := [[a1 (.iload_n 1), a1 (.aload_n 0), a0 (.getfield 254) 3 238 0 4 9 0, none, none, a3 (.if_icmp .ge 12), none, none, a1 (.aload_n 0), a0 (.getfield 32) 3 237 0 4 8 0, none, none, a1 (.iload_n 1), a1 (.iaload), a3 (.goto 4), none, none, a1 (.iconst (-1)), a1 (.ireturn)]]
/-- 223: EnvyRustModel.readItem -/
noncomputable def mk_223_0 : List (List (Option mEnt)) := [[a1 (.aload_n 0), a0 (.invokevirtual 300) 3 355 10 224 1 0, none, none, a1 (.istore_n 1), a1 (.iload_n 1), a3 (.ifCond .lt 149), none, none, a1 (.aload_n 0), a1 (.aload_n 0), a0 (.getfield 303) 3 248 0 4 19 0, none, none, a2 (.bipush 8), none, a3 (.if_icmp .ge 7), none, none, a1 (.iconst 1), a3 (.goto 4), none, none, a1 (.iconst 0), a0 (.invokevirtual 286) 3 359 10 226 2 0, none, none, a1 (.aload_n 0), a1 (.dup), a0 (.getfield 303) 3 248 0 4 19 0, none, none],
  [a1 (.iconst 1), a1 (.iadd), a0 (.putfield 303) 3 248 0 4 19 0, none, none, a1 (.aload_n 0), a0 (.ldc_w 306) 3 360 3 0 8 0, none, none, a1 (.iconst 0), a1 (.iconst 0), a2 (.bipush 15), none, a0 (.invokevirtual 307) 3 361 10 227 5 0, none, none, a1 (.istore_n 2), a1 (.aload_n 0), a0 (.ldc_w 311) 3 363 3 0 9 0, none, none, a1 (.iconst 1), a1 (.iconst 0), a2 (.bipush 15), none, a0 (.invokevirtual 307) 3 361 10 227 5 0, none, none, a1 (.istore_n 3), a1 (.aload_n 0), a0 (.ldc_w 313) 3 364 3 0 10 0, none],
  [none, a1 (.iconst (-1)), a1 (.iconst 0), a2 (.bipush 9), none, a0 (.invokevirtual 307) 3 361 10 227 5 0, none, none, a2 (.istore 4), none, a2 (.iload 4), none, a3 (.ifCond .ge 7), none, none, a1 (.iconst 1), a3 (.goto 10), none, none, a1 (.aload_n 0), a1 (.iconst 0), a2 (.bipush 9), none, a0 (.invokevirtual 297) 3 362 10 228 3 0, none, none, a2 (.istore 5), none, a2 (.iload 4), none, a3 (.ifCond .ge 7), none],
  [none, a1 (.iconst 1), a3 (.goto 10), none, none, a1 (.aload_n 0), a1 (.iconst 0), a2 (.bipush 9), none, a0 (.invokevirtual 297) 3 362 10 228 3 0, none, none, a2 (.istore 6), none, a2 (.iload 4), none, a3 (.ifCond .ge 7), none, none, a1 (.iconst 1), a3 (.goto 10), none, none, a1 (.aload_n 0), a1 (.iconst 0), a2 (.bipush 9), none, a0 (.invokevirtual 297) 3 362 10 228 3 0, none, none, a2 (.istore 7), none],
  [a1 (.aload_n 0), a1 (.iload_n 1), a1 (.iload_n 2), a1 (.iload_n 3), a2 (.iload 4), none, a3 (.ifCond .ge 7), none, none, a1 (.iconst 1), a3 (.goto 5), none, none, a2 (.iload 4), none, a2 (.iload 5), none, a2 (.iload 6), none, a2 (.iload 7), none, a0 (.invokevirtual 315) 3 365 10 229 8 0, none, none, a3 (.goto 138), none, none, a1 (.aload_n 0), a1 (.aload_n 0), a0 (.ldc_w 319) 3 366 3 0 0 0, none, none],
  [a0 (.invokevirtual 293) 3 356 10 225 2 0, none, none, a3 (.ifCond .eq 16), none, none, a1 (.aload_n 0), a0 (.getfield 321) 3 247 0 4 18 0, none, none, a2 (.bipush 8), none, a3 (.if_icmp .ge 7), none, none, a1 (.iconst 1), a3 (.goto 4), none, none, a1 (.iconst 0), a0 (.invokevirtual 286) 3 359 10 226 2 0, none, none, a1 (.aload_n 0), a1 (.iconst 0), a1 (.iconst 3), a0 (.invokevirtual 297) 3 362 10 228 3 0, none, none, a1 (.istore_n 2), a1 (.aload_n 0), a0 (.ldc_w 306) 3 360 3 0 8 0],
  [none, none, a1 (.iconst 0), a1 (.iconst 0), a2 (.bipush 15), none, a0 (.invokevirtual 307) 3 361 10 227 5 0, none, none, a1 (.istore_n 3), a1 (.aload_n 0), a0 (.ldc_w 324) 3 367 3 0 11 0, none, none, a2 (.bipush 100), none, a1 (.iconst 0), a3 (.sipush 999), none, none, a0 (.invokevirtual 307) 3 361 10 227 5 0, none, none, a2 (.istore 4), none, a1 (.aload_n 0), a0 (.ldc_w 326) 3 368 3 0 12 0, none, none, a1 (.iconst 0), a1 (.iconst 0), a2 (.bipush 9)],
  [none, a0 (.invokevirtual 307) 3 361 10 227 5 0, none, none, a2 (.istore 5), none, a1 (.aload_n 0), a0 (.ldc_w 328) 3 369 3 0 13 0, none, none, a1 (.iconst (-1)), a1 (.iconst 0), a1 (.aload_n 0), a0 (.getfield 303) 3 248 0 4 19 0, none, none, a1 (.iconst 1), a1 (.isub), a0 (.invokevirtual 307) 3 361 10 227 5 0, none, none, a2 (.istore 6), none, a1 (.aload_n 0), a0 (.ldc_w 330) 3 370 3 0 14 0, none, none, a1 (.iconst (-1)), a1 (.iconst 0), a1 (.aload_n 0), a0 (.getfield 321) 3 247 0 4 18 0, none]]
noncomputable def mk_223_1 : List (List (Option mEnt)) := [[none, a1 (.iconst 1), a1 (.isub), a0 (.invokevirtual 307) 3 361 10 227 5 0, none, none, a2 (.istore 7), none, a1 (.aload_n 0), a1 (.dup), a0 (.getfield 321) 3 247 0 4 18 0, none, none, a1 (.iconst 1), a1 (.iadd), a0 (.putfield 321) 3 247 0 4 18 0, none, none, a1 (.aload_n 0), a2 (.bipush 10), none, a1 (.iload_n 2), a1 (.iload_n 3), a2 (.iload 4), none, a2 (.iload 5), none, a2 (.iload 6), none, a2 (.iload 7), none, a0 (.invokevirtual 315) 3 365 10 229 8 0],
  [none, none, a1 (.return_)]]
noncomputable def mk_223 : List (List (Option mEnt)) := mk_223_0 ++ (mk_223_1)
/-- 224: EnvyRustModel.kindTold -/
noncomputable def mk_224 : List (List (Option mEnt)) := [[a1 (.iconst (-1)), a1 (.istore_n 1), a1 (.iconst 0), a1 (.istore_n 2), a1 (.iload_n 2), a1 (.aload_n 0), a0 (.getfield 51) 3 244 0 4 15 0, none, none, a1 (.arraylength), a3 (.if_icmp .ge 28), none, none, a1 (.aload_n 0), a1 (.aload_n 0), a0 (.getfield 51) 3 244 0 4 15 0, none, none, a1 (.iload_n 2), a1 (.aaload), a0 (.invokevirtual 293) 3 356 10 225 2 0, none, none, a3 (.ifCond .eq 7), none, none, a1 (.iload_n 2), a3 (.goto 4), none, none, a1 (.iload_n 1), a1 (.istore_n 1)],
  [a3 (.iinc 2 1), none, none, a3 (.goto (-31)), none, none, a1 (.iload_n 1), a1 (.ireturn)]]
/-- 225: EnvyRustModel.isWord -/
noncomputable def mk_225 : List (List (Option mEnt)) := [[a1 (.aload_n 0), a0 (.getfield 269) 3 241 0 4 12 0, none, none, a1 (.iconst 1), a3 (.if_icmp .ne 23), none, none, a1 (.aload_n 0), a0 (.getfield 257) 3 240 0 4 11 0, none, none, a1 (.aload_n 0), a0 (.getfield 260) 3 239 0 4 10 0, none, none, a1 (.isub), a1 (.aload_n 1), a0 (.invokevirtual 272) 3 357 22 0 0 0, none, none, a3 (.if_icmp .ne 7), none, none, a1 (.iconst 1), a3 (.goto 4), none, none, a1 (.iconst 0), a1 (.istore_n 2), a1 (.iconst 0), a1 (.istore_n 3)],
  [a1 (.iload_n 3), a1 (.aload_n 1), a0 (.invokevirtual 272) 3 357 22 0 0 0, none, none, a3 (.if_icmp .ge 38), none, none, a1 (.iload_n 2), a3 (.ifCond .eq 34), none, none, a1 (.aload_n 0), a0 (.getfield 32) 3 237 0 4 8 0, none, none, a1 (.aload_n 0), a0 (.getfield 260) 3 239 0 4 10 0, none, none, a1 (.iload_n 3), a1 (.iadd), a1 (.iaload), a1 (.aload_n 1), a1 (.iload_n 3), a0 (.invokevirtual 275) 3 358 23 0 0 0, none, none, a3 (.if_icmp .ne 7), none, none, a1 (.iconst 1)],
  [a3 (.goto 4), none, none, a1 (.iconst 0), a1 (.istore_n 2), a3 (.iinc 3 1), none, none, a3 (.goto (-40)), none, none, a1 (.iload_n 2), a1 (.ireturn)]]
/-- 226: EnvyRustModel.must -/
noncomputable def mk_226 : List (List (Option mEnt)) := [[a1 (.aload_n 0), a1 (.aload_n 0), a0 (.getfield 279) 3 243 0 4 14 0, none, none, a3 (.ifCond .ne 7), none, none, a1 (.iload_n 1), a3 (.ifCond .ne 7), none, none, a1 (.iconst 1), a3 (.goto 4), none, none, a1 (.iconst 0), a0 (.putfield 279) 3 243 0 4 14 0, none, none, a1 (.aload_n 0), a0 (.getfield 279) 3 243 0 4 14 0, none, none, a3 (.ifCond .ne 7), none, none, a1 (.aload_n 0), a0 (.invokevirtual 283) 3 352 10 221 1 0, none, none, a1 (.return_)]]
/-- 227: EnvyRustModel.afterWord -/
noncomputable def mk_227 : List (List (Option mEnt)) := [[a1 (.aload_n 0), a0 (.getfield 279) 3 243 0 4 14 0, none, none, a3 (.ifCond .ne 11), none, none, a1 (.aload_n 0), a1 (.aload_n 1), a0 (.invokevirtual 293) 3 356 10 225 2 0, none, none, a3 (.ifCond .ne 5), none, none, a1 (.iload_n 2), a1 (.ireturn), a1 (.aload_n 0), a1 (.iconst 1), a0 (.invokevirtual 286) 3 359 10 226 2 0, none, none, a1 (.aload_n 0), a1 (.iload_n 3), a2 (.iload 4), none, a0 (.invokevirtual 297) 3 362 10 228 3 0, none, none, a1 (.ireturn)]]
/-- 228: EnvyRustModel.number -/
noncomputable def mk_228 : List (List (Option mEnt)) := [[a1 (.aload_n 0), a0 (.getfield 266) 3 242 0 4 13 0, none, none, a1 (.istore_n 3), a1 (.aload_n 0), a1 (.aload_n 0), a0 (.getfield 269) 3 241 0 4 12 0, none, none, a1 (.iconst 2), a3 (.if_icmp .ne 16), none, none, a1 (.iload_n 3), a1 (.iload_n 1), a1 (.iload_n 2), a0 (.invokestatic 80) 3 254 12 133 3 0, none, none, a3 (.ifCond .eq 7), none, none, a1 (.iconst 1), a3 (.goto 4), none, none, a1 (.iconst 0), a0 (.invokevirtual 286) 3 359 10 226 2 0, none, none, a1 (.iload_n 3)],
  [a1 (.ireturn)]]
/-- 229: EnvyRustModel.item -/
noncomputable def mk_229 : List (List (Option mEnt)) := [[a2 (.bipush 7), none, a1 (.aload_n 0), a0 (.getfield 290) 3 246 0 4 17 0, none, none, a1 (.imul), a2 (.istore 8), none, a1 (.aload_n 0), a0 (.getfield 55) 3 245 0 4 16 0, none, none, a2 (.iload 8), none, a1 (.iload_n 1), a1 (.iastore), a1 (.aload_n 0), a0 (.getfield 55) 3 245 0 4 16 0, none, none, a2 (.iload 8), none, a1 (.iconst 1), a1 (.iadd), a1 (.iload_n 2), a1 (.iastore), a1 (.aload_n 0), a0 (.getfield 55) 3 245 0 4 16 0, none, none, a2 (.iload 8)],
  [none, a1 (.iconst 2), a1 (.iadd), a1 (.iload_n 3), a1 (.iastore), a1 (.aload_n 0), a0 (.getfield 55) 3 245 0 4 16 0, none, none, a2 (.iload 8), none, a1 (.iconst 3), a1 (.iadd), a2 (.iload 4), none, a1 (.iastore), a1 (.aload_n 0), a0 (.getfield 55) 3 245 0 4 16 0, none, none, a2 (.iload 8), none, a1 (.iconst 4), a1 (.iadd), a2 (.iload 5), none, a1 (.iastore), a1 (.aload_n 0), a0 (.getfield 55) 3 245 0 4 16 0, none, none, a2 (.iload 8)],
  [none, a1 (.iconst 5), a1 (.iadd), a2 (.iload 6), none, a1 (.iastore), a1 (.aload_n 0), a0 (.getfield 55) 3 245 0 4 16 0, none, none, a2 (.iload 8), none, a2 (.bipush 6), none, a1 (.iadd), a2 (.iload 7), none, a1 (.iastore), a1 (.aload_n 0), a1 (.dup), a0 (.getfield 290) 3 246 0 4 17 0, none, none, a1 (.iconst 1), a1 (.iadd), a0 (.putfield 290) 3 246 0 4 17 0, none, none, a1 (.return_)]]
/-- 230: EnvyRustModel.isToldSo -/
noncomputable def mk_230 : List (List (Option mEnt)) := [[a1 (.aload_n 0), a0 (.getfield 55) 3 245 0 4 16 0, none, none, a1 (.iload_n 1), a1 (.iaload), a2 (.bipush 10), none, a3 (.if_icmp .ne 57), none, none, a1 (.aload_n 0), a1 (.aload_n 0), a0 (.getfield 55) 3 245 0 4 16 0, none, none, a1 (.iload_n 1), a1 (.iconst 1), a1 (.iadd), a1 (.iaload), a1 (.aload_n 0), a0 (.getfield 55) 3 245 0 4 16 0, none, none, a1 (.iload_n 1), a1 (.iconst 2), a1 (.iadd), a1 (.iaload), a1 (.aload_n 0), a0 (.getfield 55) 3 245 0 4 16 0, none, none],
  [a1 (.iload_n 1), a1 (.iconst 3), a1 (.iadd), a1 (.iaload), a1 (.aload_n 0), a0 (.getfield 55) 3 245 0 4 16 0, none, none, a1 (.iload_n 1), a1 (.iconst 4), a1 (.iadd), a1 (.iaload), a1 (.aload_n 0), a0 (.getfield 55) 3 245 0 4 16 0, none, none, a1 (.iload_n 1), a1 (.iconst 5), a1 (.iadd), a1 (.iaload), a1 (.aload_n 0), a0 (.getfield 55) 3 245 0 4 16 0, none, none, a1 (.iload_n 1), a2 (.bipush 6), none, a1 (.iadd), a1 (.iaload), a0 (.invokevirtual 96) 3 259 10 136 7 0, none, none],
  [a1 (.ireturn), a1 (.aload_n 0), a1 (.aload_n 0), a0 (.getfield 55) 3 245 0 4 16 0, none, none, a1 (.iload_n 1), a1 (.iaload), a1 (.aload_n 0), a0 (.getfield 55) 3 245 0 4 16 0, none, none, a1 (.iload_n 1), a1 (.iconst 1), a1 (.iadd), a1 (.iaload), a1 (.aload_n 0), a0 (.getfield 55) 3 245 0 4 16 0, none, none, a1 (.iload_n 1), a1 (.iconst 2), a1 (.iadd), a1 (.iaload), a0 (.invokevirtual 159) 3 284 10 158 4 0, none, none, a1 (.istore_n 2), a1 (.iconst 0), a1 (.istore_n 3), a1 (.iload_n 3), a1 (.iconst 4)],
  [a3 (.if_icmp .ge 31), none, none, a1 (.aload_n 0), a0 (.getfield 9) 3 229 0 4 0 0, none, none, a1 (.iload_n 2), a1 (.iconst 3), a1 (.iload_n 3), a1 (.iadd), a0 (.invokestatic 88) 3 265 12 142 2 0, none, none, a1 (.aload_n 0), a0 (.getfield 55) 3 245 0 4 16 0, none, none, a1 (.iload_n 1), a1 (.iconst 3), a1 (.iadd), a1 (.iload_n 3), a1 (.iadd), a1 (.iaload), a1 (.iastore), a3 (.iinc 3 1), none, none, a3 (.goto (-30)), none, none, a1 (.iload_n 2)],
  [a1 (.ireturn)]]
/-- 231: EnvyRustModel.hold -/
noncomputable def mk_231 : List (List (Option mEnt)) := [[a1 (.iload_n 1), a0 (.invokestatic 338) 3 373 12 232 1 0, none, none, a3 (.ifCond .eq 16), none, none, a1 (.iload_n 2), a1 (.iconst (-1)), a3 (.if_icmp .eq 18), none, none, a1 (.aload_n 0), a1 (.iload_n 2), a0 (.invokevirtual 143) 3 278 10 153 2 0, none, none, a3 (.ifCond .ne 10), none, none, a1 (.aload_n 0), a0 (.ldc 70) 2 256 2 0 0 (-1000001), none, a0 (.invokevirtual 76) 3 257 10 135 2 0, none, none, a1 (.ireturn), a1 (.aload_n 0), a0 (.getfield 9) 3 229 0 4 0 0, none, none, a1 (.iconst 4)],
  [a1 (.iload_n 1), a1 (.iadd), a1 (.iload_n 2), a1 (.iastore), a1 (.iconst 1), a1 (.ireturn)]]
/-- 232: EnvyRustModel.isSpot -/
noncomputable def mk_232 : List (List (Option mEnt)) := [[a1 (.iload_n 0), a1 (.iconst 0), a2 (.bipush 9), none, a0 (.invokestatic 80) 3 254 12 133 3 0, none, none, a1 (.ireturn)]]
/-- 233: EnvyRustModel.as -/
noncomputable def mk_233 : List (List (Option mEnt)) := [[a1 (.iload_n 1), a0 (.invokestatic 338) 3 373 12 232 1 0, none, none, a3 (.ifCond .eq 10), none, none, a1 (.iload_n 2), a0 (.invokestatic 156) 3 283 12 157 1 0, none, none, a3 (.ifCond .ne 10), none, none, a1 (.aload_n 0), a0 (.ldc 70) 2 256 2 0 0 (-1000001), none, a0 (.invokevirtual 76) 3 257 10 135 2 0, none, none, a1 (.ireturn), a1 (.aload_n 0), a0 (.getfield 9) 3 229 0 4 0 0, none, none, a1 (.iconst 4), a1 (.iload_n 1), a1 (.iadd), a1 (.iaload), a1 (.istore_n 3), a1 (.iload_n 3), a3 (.ifCond .ge 10)],
  [none, none, a1 (.aload_n 0), a0 (.ldc 240) 2 340 2 0 0 (-1000006), none, a0 (.invokevirtual 76) 3 257 10 135 2 0, none, none, a1 (.ireturn), a1 (.aload_n 0), a1 (.iload_n 3), a1 (.iconst 0), a0 (.invokevirtual 109) 3 264 10 141 3 0, none, none, a1 (.iload_n 2), a0 (.invokestatic 112) 3 270 12 147 2 0, none, none, a3 (.ifCond .eq 7), none, none, a1 (.iload_n 3), a3 (.goto 10), none, none, a1 (.aload_n 0), a0 (.ldc_w 341) 3 375 2 0 0 (-1000003), none, none, a0 (.invokevirtual 76) 3 257 10 135 2 0, none],
  [none, a1 (.ireturn)]]
/-- 234: EnvyRustModel.sheet -/
noncomputable def mk_234 : List (List (Option mEnt)) := [[a1 (.iload_n 1), a0 (.invokestatic 237) 3 339 12 210 1 0, none, none, a3 (.ifCond .eq 25), none, none, a1 (.iload_n 2), a3 (.ifCond .eq 28), none, none, a1 (.iload_n 2), a2 (.bipush 8), none, a3 (.if_icmp .eq 22), none, none, a1 (.iload_n 2), a2 (.bipush 16), none, a3 (.if_icmp .eq 16), none, none, a1 (.iload_n 2), a2 (.bipush 32), none, a3 (.if_icmp .eq 10), none, none, a1 (.aload_n 0), a0 (.ldc 70) 2 256 2 0 0 (-1000001), none],
  [a0 (.invokevirtual 76) 3 257 10 135 2 0, none, none, a1 (.ireturn), a1 (.iload_n 3), a3 (.ifCond .ge 11), none, none, a1 (.aload_n 0), a0 (.ldc_w 342) 3 377 2 0 0 (-1000007), none, none, a0 (.invokevirtual 76) 3 257 10 135 2 0, none, none, a1 (.ireturn), a1 (.iload_n 3), a2 (.bipush 40), none, a3 (.if_icmp .le 10), none, none, a1 (.aload_n 0), a0 (.ldc 70) 2 256 2 0 0 (-1000001), none, a0 (.invokevirtual 76) 3 257 10 135 2 0, none, none, a1 (.ireturn), a1 (.aload_n 0), a0 (.getfield 58) 3 249 0 4 20 0, none],
  [none, a1 (.iload_n 1), a1 (.iload_n 2), a1 (.iastore), a1 (.aload_n 0), a0 (.getfield 61) 3 250 0 4 21 0, none, none, a1 (.iload_n 1), a1 (.iload_n 2), a3 (.ifCond .ne 7), none, none, a1 (.iconst 0), a3 (.goto 4), none, none, a1 (.iload_n 3), a1 (.iastore), a1 (.iconst 0), a2 (.istore 4), none, a2 (.iload 4), none, a2 (.bipush 40), none, a3 (.if_icmp .ge 22), none, none, a1 (.aload_n 0), a0 (.getfield 64) 3 251 0 4 22 0, none],
  [none, a2 (.bipush 40), none, a1 (.iload_n 1), a1 (.imul), a2 (.iload 4), none, a1 (.iadd), a1 (.iconst 0), a1 (.iastore), a3 (.iinc 4 1), none, none, a3 (.goto (-23)), none, none, a1 (.aload_n 0), a0 (.getfield 61) 3 250 0 4 21 0, none, none, a1 (.iload_n 1), a1 (.iaload), a1 (.ireturn)]]
/-- 235: EnvyRustModel.write -/
noncomputable def mk_235 : List (List (Option mEnt)) := [[a1 (.iload_n 1), a0 (.invokestatic 237) 3 339 12 210 1 0, none, none, a3 (.ifCond .ne 10), none, none, a1 (.aload_n 0), a0 (.ldc 70) 2 256 2 0 0 (-1000001), none, a0 (.invokevirtual 76) 3 257 10 135 2 0, none, none, a1 (.ireturn), a1 (.aload_n 0), a0 (.getfield 58) 3 249 0 4 20 0, none, none, a1 (.iload_n 1), a1 (.iaload), a3 (.ifCond .ne 10), none, none, a1 (.aload_n 0), a0 (.ldc 240) 2 340 2 0 0 (-1000006), none, a0 (.invokevirtual 76) 3 257 10 135 2 0, none, none, a1 (.ireturn), a1 (.iload_n 2), a1 (.iconst 0)],
  [a1 (.aload_n 0), a0 (.getfield 61) 3 250 0 4 21 0, none, none, a1 (.iload_n 1), a1 (.iaload), a1 (.iconst 1), a1 (.isub), a0 (.invokestatic 80) 3 254 12 133 3 0, none, none, a3 (.ifCond .ne 10), none, none, a1 (.aload_n 0), a0 (.ldc 70) 2 256 2 0 0 (-1000001), none, a0 (.invokevirtual 76) 3 257 10 135 2 0, none, none, a1 (.ireturn), a1 (.aload_n 0), a0 (.getfield 64) 3 251 0 4 22 0, none, none, a2 (.bipush 40), none, a1 (.iload_n 1), a1 (.imul), a1 (.iload_n 2), a1 (.iadd), a1 (.iload_n 3)],
  [a1 (.aload_n 0), a0 (.getfield 58) 3 249 0 4 20 0, none, none, a1 (.iload_n 1), a1 (.iaload), a0 (.invokestatic 343) 3 379 12 236 2 0, none, none, a1 (.iastore), a1 (.iconst 1), a1 (.ireturn)]]
/-- 236: EnvyRustModel.cutTo -/
noncomputable def mk_236 : List (List (Option mEnt)) := [[a1 (.iload_n 1), a2 (.bipush 8), none, a3 (.if_icmp .ne 8), none, none, a1 (.iload_n 0), a1 (.i2b), a3 (.goto 15), none, none, a1 (.iload_n 1), a2 (.bipush 16), none, a3 (.if_icmp .ne 8), none, none, a1 (.iload_n 0), a1 (.i2s), a3 (.goto 4), none, none, a1 (.iload_n 0), a1 (.ireturn)]]
/-- 237: EnvyRustModel.copy -/
noncomputable def mk_237 : List (List (Option mEnt)) := [[a1 (.iload_n 1), a0 (.invokestatic 237) 3 339 12 210 1 0, none, none, a3 (.ifCond .eq 10), none, none, a1 (.iload_n 3), a0 (.invokestatic 237) 3 339 12 210 1 0, none, none, a3 (.ifCond .ne 10), none, none, a1 (.aload_n 0), a0 (.ldc 70) 2 256 2 0 0 (-1000001), none, a0 (.invokevirtual 76) 3 257 10 135 2 0, none, none, a1 (.ireturn), a1 (.aload_n 0), a0 (.getfield 58) 3 249 0 4 20 0, none, none, a1 (.iload_n 1), a1 (.iaload), a3 (.ifCond .eq 12), none, none, a1 (.aload_n 0), a0 (.getfield 58) 3 249 0 4 20 0],
  [none, none, a1 (.iload_n 3), a1 (.iaload), a3 (.ifCond .ne 10), none, none, a1 (.aload_n 0), a0 (.ldc 240) 2 340 2 0 0 (-1000006), none, a0 (.invokevirtual 76) 3 257 10 135 2 0, none, none, a1 (.ireturn), a1 (.aload_n 0), a0 (.getfield 58) 3 249 0 4 20 0, none, none, a1 (.iload_n 1), a1 (.iaload), a1 (.aload_n 0), a0 (.getfield 58) 3 249 0 4 20 0, none, none, a1 (.iload_n 3), a1 (.iaload), a3 (.if_icmp .eq 11), none, none, a1 (.aload_n 0), a0 (.ldc_w 341) 3 375 2 0 0 (-1000003), none],
  [none, a0 (.invokevirtual 76) 3 257 10 135 2 0, none, none, a1 (.ireturn), a1 (.iload_n 2), a3 (.ifCond .lt 48), none, none, a2 (.iload 4), none, a3 (.ifCond .lt 43), none, none, a2 (.iload 5), none, a3 (.ifCond .lt 38), none, none, a1 (.iload_n 2), a1 (.i2l), a2 (.iload 5), none, a1 (.i2l), a1 (.ladd), a1 (.aload_n 0), a0 (.getfield 61) 3 250 0 4 21 0, none, none, a1 (.iload_n 1), a1 (.iaload), a1 (.i2l)],
  [a1 (.lcmp), a3 (.ifCond .gt 21), none, none, a2 (.iload 4), none, a1 (.i2l), a2 (.iload 5), none, a1 (.i2l), a1 (.ladd), a1 (.aload_n 0), a0 (.getfield 61) 3 250 0 4 21 0, none, none, a1 (.iload_n 3), a1 (.iaload), a1 (.i2l), a1 (.lcmp), a3 (.ifCond .le 10), none, none, a1 (.aload_n 0), a0 (.ldc 70) 2 256 2 0 0 (-1000001), none, a0 (.invokevirtual 76) 3 257 10 135 2 0, none, none, a1 (.ireturn), a1 (.iconst 0), a2 (.istore 6), none],
  [a2 (.iload 6), none, a2 (.iload 5), none, a3 (.if_icmp .ge 30), none, none, a1 (.aload_n 0), a0 (.getfield 67) 3 252 0 4 23 0, none, none, a2 (.iload 6), none, a1 (.aload_n 0), a0 (.getfield 64) 3 251 0 4 22 0, none, none, a2 (.bipush 40), none, a1 (.iload_n 1), a1 (.imul), a1 (.iload_n 2), a1 (.iadd), a2 (.iload 6), none, a1 (.iadd), a1 (.iaload), a1 (.iastore), a3 (.iinc 6 1), none, none, a3 (.goto (-31))],
  [none, none, a1 (.iconst 0), a2 (.istore 6), none, a2 (.iload 6), none, a2 (.iload 5), none, a3 (.if_icmp .ge 31), none, none, a1 (.aload_n 0), a0 (.getfield 64) 3 251 0 4 22 0, none, none, a2 (.bipush 40), none, a1 (.iload_n 3), a1 (.imul), a2 (.iload 4), none, a1 (.iadd), a2 (.iload 6), none, a1 (.iadd), a1 (.aload_n 0), a0 (.getfield 67) 3 252 0 4 23 0, none, none, a2 (.iload 6), none],
  [a1 (.iaload), a1 (.iastore), a3 (.iinc 6 1), none, none, a3 (.goto (-32)), none, none, a2 (.iload 5), none, a1 (.ireturn)]]
/-- 238: EnvyRustModel.load -/
noncomputable def mk_238 : List (List (Option mEnt)) := [[a1 (.aload_n 0), a1 (.iload_n 1), a0 (.invokevirtual 244) 3 338 10 209 2 0, none, none, a3 (.ifCond .eq 13), none, none, a1 (.aload_n 0), a1 (.aload_n 0), a1 (.iload_n 1), a0 (.invokevirtual 244) 3 338 10 209 2 0, none, none, a0 (.invokevirtual 76) 3 257 10 135 2 0, none, none, a1 (.ireturn), a1 (.iconst 0), a1 (.istore_n 2), a1 (.iload_n 2), a1 (.aload_n 0), a0 (.getfield 61) 3 250 0 4 21 0, none, none, a1 (.iload_n 1), a1 (.iaload), a3 (.if_icmp .ge 55), none, none, a1 (.aload_n 0), a1 (.iload_n 2)],
  [a0 (.invokevirtual 131) 3 262 10 139 2 0, none, none, a3 (.ifCond .eq 47), none, none, a1 (.aload_n 0), a0 (.getfield 64) 3 251 0 4 22 0, none, none, a2 (.bipush 40), none, a1 (.iload_n 1), a1 (.imul), a1 (.iload_n 2), a1 (.iadd), a1 (.iaload), a0 (.invokestatic 137) 3 276 12 151 1 0, none, none, a3 (.ifCond .eq 30), none, none, a1 (.aload_n 0), a0 (.getfield 9) 3 229 0 4 0 0, none, none, a1 (.iload_n 2), a1 (.iconst 2), a0 (.invokestatic 84) 3 260 12 137 2 0, none, none],
  [a1 (.aload_n 0), a0 (.getfield 64) 3 251 0 4 22 0, none, none, a2 (.bipush 40), none, a1 (.iload_n 1), a1 (.imul), a1 (.iload_n 2), a1 (.iadd), a1 (.iaload), a1 (.iastore), a3 (.iinc 2 1), none, none, a3 (.goto (-59)), none, none, a1 (.iload_n 2), a1 (.ireturn)]]
/-- 239: EnvyRustModel.judge -/
noncomputable def mk_239 : List (List (Option mEnt)) := [[a1 (.aload_n 0), a1 (.iload_n 1), a0 (.invokevirtual 244) 3 338 10 209 2 0, none, none, a3 (.ifCond .eq 13), none, none, a1 (.aload_n 0), a1 (.aload_n 0), a1 (.iload_n 1), a0 (.invokevirtual 244) 3 338 10 209 2 0, none, none, a0 (.invokevirtual 76) 3 257 10 135 2 0, none, none, a1 (.ireturn), a1 (.iconst 0), a1 (.istore_n 2), a1 (.iconst 1), a1 (.istore_n 3), a1 (.iload_n 2), a1 (.aload_n 0), a0 (.getfield 61) 3 250 0 4 21 0, none, none, a1 (.iload_n 1), a1 (.iaload), a3 (.if_icmp .ge 77), none, none],
  [a1 (.iload_n 3), a3 (.ifCond .eq 73), none, none, a1 (.aload_n 0), a0 (.getfield 64) 3 251 0 4 22 0, none, none, a2 (.bipush 40), none, a1 (.iload_n 1), a1 (.imul), a1 (.iload_n 2), a1 (.iadd), a1 (.iaload), a2 (.istore 4), none, a1 (.aload_n 0), a2 (.iload 4), none, a0 (.invokevirtual 131) 3 262 10 139 2 0, none, none, a3 (.ifCond .eq 34), none, none, a1 (.iload_n 2), a3 (.ifCond .eq 26), none, none, a1 (.aload_n 0), a1 (.aload_n 0)],
  [a0 (.getfield 64) 3 251 0 4 22 0, none, none, a2 (.bipush 40), none, a1 (.iload_n 1), a1 (.imul), a1 (.iload_n 2), a1 (.iadd), a1 (.iconst 1), a1 (.isub), a1 (.iaload), a1 (.iconst 5), a0 (.invokevirtual 103) 3 266 10 143 3 0, none, none, a2 (.iload 4), none, a3 (.if_icmp .ne 7), none, none, a1 (.iconst 1), a3 (.goto 4), none, none, a1 (.iconst 0), a1 (.istore_n 3), a1 (.iload_n 2), a1 (.iload_n 3), a3 (.ifCond .eq 7), none, none],
  [a1 (.iconst 1), a3 (.goto 4), none, none, a1 (.iconst 0), a1 (.iadd), a1 (.istore_n 2), a3 (.goto (-81)), none, none, a1 (.iload_n 3), a3 (.ifCond .eq 7), none, none, a1 (.iconst 0), a3 (.goto 6), none, none, a1 (.iconst 1), a1 (.iload_n 2), a1 (.iadd), a1 (.ireturn)]]
/-- 240: EnvyRustModel.image -/
noncomputable def mk_240 : List (List (Option mEnt)) := [[a1 (.aload_n 0), a0 (.getfield 9) 3 229 0 4 0 0, none, none, a1 (.aload_n 0), a0 (.getfield 13) 3 230 0 4 1 0, none, none, a0 (.invokestatic 71) 3 301 12 174 2 0, none, none, a1 (.aload_n 0), a1 (.iconst 1), a0 (.putfield 346) 3 232 0 4 3 0, none, none, a1 (.iconst 1), a1 (.ireturn)]]
/-- 241: EnvyRustModel.undo -/
noncomputable def mk_241 : List (List (Option mEnt)) := [[a1 (.aload_n 0), a0 (.getfield 346) 3 232 0 4 3 0, none, none, a3 (.ifCond .ne 10), none, none, a1 (.aload_n 0), a0 (.ldc 75) 2 305 2 0 0 (-1000004), none, a0 (.invokevirtual 76) 3 257 10 135 2 0, none, none, a1 (.ireturn), a1 (.aload_n 0), a0 (.getfield 13) 3 230 0 4 1 0, none, none, a1 (.aload_n 0), a0 (.getfield 9) 3 229 0 4 0 0, none, none, a0 (.invokestatic 71) 3 301 12 174 2 0, none, none, a1 (.aload_n 0), a0 (.getfield 9) 3 229 0 4 0 0, none, none, a1 (.iconst 0), a1 (.iaload), a1 (.ireturn)]]
/-- 242: EnvyRustModel.tear -/
noncomputable def mk_242 : List (List (Option mEnt)) := [[a1 (.aload_n 0), a0 (.getfield 346) 3 232 0 4 3 0, none, none, a3 (.ifCond .eq 7), none, none, a1 (.iconst 1), a3 (.goto 4), none, none, a1 (.iconst 0), a1 (.istore_n 1), a1 (.aload_n 0), a1 (.iconst 0), a0 (.putfield 346) 3 232 0 4 3 0, none, none, a1 (.iload_n 1), a1 (.ireturn)]]
/-- 243: EnvyRustModel.count -/
noncomputable def mk_243 : List (List (Option mEnt)) := [[a1 (.iconst 0), a1 (.istore_n 2), a1 (.iload_n 1), a0 (.tableswitch 126 0 7 #[45, 52, 59, 66, 74, 79, 84, 91]) 45 0 0 0 0 0, none, none, none, none, none, none, none, none, none, none, none, none, none, none, none, none, none, none, none, none, none, none, none, none, none, none, none, none],
  [none, none, none, none, none, none, none, none, none, none, none, none, none, none, none, none, a1 (.aload_n 0), a0 (.getfield 9) 3 229 0 4 0 0, none, none, a1 (.iconst 0), a1 (.iaload), a1 (.ireturn), a1 (.aload_n 0), a0 (.getfield 9) 3 229 0 4 0 0, none, none, a1 (.iconst 1), a1 (.iaload), a1 (.ireturn), a1 (.aload_n 0), a0 (.getfield 9) 3 229 0 4 0 0],
  [none, none, a1 (.iconst 2), a1 (.iaload), a1 (.ireturn), a1 (.aload_n 0), a0 (.invokevirtual 177) 3 294 10 167 1 0, none, none, a0 (.invokestatic 181) 3 295 12 168 1 0, none, none, a1 (.ireturn), a1 (.aload_n 0), a0 (.invokevirtual 184) 3 297 10 170 1 0, none, none, a1 (.ireturn), a1 (.aload_n 0), a0 (.getfield 254) 3 238 0 4 9 0, none, none, a1 (.ireturn), a1 (.aload_n 0), a0 (.getfield 9) 3 229 0 4 0 0, none, none, a1 (.iconst 3), a1 (.iaload), a1 (.ireturn), a1 (.iconst 0), a1 (.istore_n 3)],
  [a1 (.iload_n 3), a2 (.bipush 10), none, a3 (.if_icmp .ge 28), none, none, a1 (.iload_n 2), a1 (.aload_n 0), a0 (.getfield 9) 3 229 0 4 0 0, none, none, a1 (.iconst 4), a1 (.iload_n 3), a1 (.iadd), a1 (.iaload), a3 (.ifCond .ge 7), none, none, a1 (.iconst 0), a3 (.goto 4), none, none, a1 (.iconst 1), a1 (.iadd), a1 (.istore_n 2), a3 (.iinc 3 1), none, none, a3 (.goto (-28)), none, none, a1 (.iload_n 2)],
  [a1 (.ireturn), a1 (.aload_n 0), a0 (.ldc 70) 2 256 2 0 0 (-1000001), none, a0 (.invokevirtual 76) 3 257 10 135 2 0, none, none, a1 (.ireturn)]]
/-- 244: EnvyRustModel.status -/
noncomputable def mk_244 : List (List (Option mEnt)) := [[a1 (.iload_n 1), a1 (.iconst (-1)), a2 (.bipush 6), none, a0 (.invokestatic 80) 3 254 12 133 3 0, none, none, a3 (.ifCond .eq 14), none, none, a1 (.aload_n 0), a0 (.getfield 19) 3 233 0 4 4 0, none, none, a1 (.iload_n 1), a1 (.iconst 1), a1 (.iadd), a1 (.iaload), a3 (.goto 9), none, none, a1 (.aload_n 0), a0 (.ldc 70) 2 256 2 0 0 (-1000001), none, a0 (.invokevirtual 76) 3 257 10 135 2 0, none, none, a1 (.ireturn)]]
/-- 245: EnvyRustLaw.law -/
noncomputable def mk_245_0 : List (List (Option mEnt)) := [[a0 (.new 7) 3 0 4 3 0 0, none, none, a1 (.dup), a0 (.invokespecial 9) 3 1 14 0 1 0, none, none, a1 (.astore_n 1), a0 (.new 10) 3 218 4 4 0 0, none, none, a1 (.dup), a0 (.invokespecial 12) 3 219 14 131 1 0, none, none, a1 (.astore_n 2), a1 (.iconst 0), a1 (.istore_n 3), a1 (.iload_n 3), a1 (.aload_n 0), a1 (.arraylength), a2 (.bipush 6), none, a1 (.isub), a3 (.if_icmp .gt 1700), none, none, a1 (.aload_n 0), a1 (.iload_n 3), a1 (.iaload), a2 (.bipush 63), none],
  [a1 (.iand), a0 (.tableswitch 1685 0 49 #[215, 248, 281, 324, 357, 390, 433, 466, 489, 512, 545, 568, 591, 614, 647, 680, 713, 746, 779, 802, 835, 868, 891, 914, 927, 940, 973, 1016, 1059, 1102, 1115, 1158, 1201, 1224, 1257, 1280, 1313, 1326, 1339, 1372, 1405, 1448, 1491, 1554, 1577, 1600, 1613, 1626, 1639, 1662]) 215 0 0 0 0 0, none, none, none, none, none, none, none, none, none, none, none, none, none, none, none, none, none, none, none, none, none, none, none, none, none, none, none, none, none, none],
  [none, none, none, none, none, none, none, none, none, none, none, none, none, none, none, none, none, none, none, none, none, none, none, none, none, none, none, none, none, none, none, none],
  [none, none, none, none, none, none, none, none, none, none, none, none, none, none, none, none, none, none, none, none, none, none, none, none, none, none, none, none, none, none, none, none],
  [none, none, none, none, none, none, none, none, none, none, none, none, none, none, none, none, none, none, none, none, none, none, none, none, none, none, none, none, none, none, none, none],
  [none, none, none, none, none, none, none, none, none, none, none, none, none, none, none, none, none, none, none, none, none, none, none, none, none, none, none, none, none, none, none, none],
  [none, none, none, none, none, none, none, none, none, none, none, none, none, none, none, none, none, none, none, none, none, none, none, none, none, none, none, none, none, none, none, none],
  [none, none, none, none, none, none, none, none, none, none, none, none, none, none, none, none, none, none, none, none, none, none, none, none, a1 (.aload_n 1), a1 (.aload_n 0), a1 (.iload_n 3), a1 (.iconst 1), a1 (.iadd), a1 (.iaload), a1 (.aload_n 0), a1 (.iload_n 3)]]
noncomputable def mk_245_1 : List (List (Option mEnt)) := [[a1 (.iconst 2), a1 (.iadd), a1 (.iaload), a0 (.invokevirtual 13) 3 58 10 5 3 0, none, none, a1 (.pop), a1 (.aload_n 2), a1 (.aload_n 0), a1 (.iload_n 3), a1 (.iconst 1), a1 (.iadd), a1 (.iaload), a1 (.aload_n 0), a1 (.iload_n 3), a1 (.iconst 2), a1 (.iadd), a1 (.iaload), a0 (.invokevirtual 17) 3 253 10 132 3 0, none, none, a1 (.pop), a3 (.goto 1440), none, none, a1 (.aload_n 1), a1 (.aload_n 0), a1 (.iload_n 3), a1 (.iconst 1), a1 (.iadd), a1 (.iaload), a1 (.aload_n 0)],
  [a1 (.iload_n 3), a1 (.iconst 2), a1 (.iadd), a1 (.iaload), a0 (.invokevirtual 18) 3 64 10 9 3 0, none, none, a1 (.pop), a1 (.aload_n 2), a1 (.aload_n 0), a1 (.iload_n 3), a1 (.iconst 1), a1 (.iadd), a1 (.iaload), a1 (.aload_n 0), a1 (.iload_n 3), a1 (.iconst 2), a1 (.iadd), a1 (.iaload), a0 (.invokevirtual 21) 3 261 10 138 3 0, none, none, a1 (.pop), a3 (.goto 1407), none, none, a1 (.aload_n 1), a1 (.aload_n 0), a1 (.iload_n 3), a1 (.iconst 1), a1 (.iadd), a1 (.iaload)],
  [a1 (.aload_n 0), a1 (.iload_n 3), a1 (.iconst 2), a1 (.iadd), a1 (.iaload), a1 (.aload_n 0), a1 (.iload_n 3), a1 (.iconst 3), a1 (.iadd), a1 (.iaload), a0 (.invokevirtual 22) 3 74 10 17 4 0, none, none, a1 (.pop), a1 (.aload_n 2), a1 (.aload_n 0), a1 (.iload_n 3), a1 (.iconst 1), a1 (.iadd), a1 (.iaload), a1 (.aload_n 0), a1 (.iload_n 3), a1 (.iconst 2), a1 (.iadd), a1 (.iaload), a1 (.aload_n 0), a1 (.iload_n 3), a1 (.iconst 3), a1 (.iadd), a1 (.iaload), a0 (.invokevirtual 26) 3 274 10 149 4 0, none],
  [none, a1 (.pop), a3 (.goto 1364), none, none, a1 (.aload_n 1), a1 (.aload_n 0), a1 (.iload_n 3), a1 (.iconst 1), a1 (.iadd), a1 (.iaload), a1 (.aload_n 0), a1 (.iload_n 3), a1 (.iconst 2), a1 (.iadd), a1 (.iaload), a0 (.invokevirtual 27) 3 81 10 22 3 0, none, none, a1 (.pop), a1 (.aload_n 2), a1 (.aload_n 0), a1 (.iload_n 3), a1 (.iconst 1), a1 (.iadd), a1 (.iaload), a1 (.aload_n 0), a1 (.iload_n 3), a1 (.iconst 2), a1 (.iadd), a1 (.iaload), a0 (.invokevirtual 30) 3 282 10 156 3 0],
  [none, none, a1 (.pop), a3 (.goto 1331), none, none, a1 (.aload_n 1), a1 (.aload_n 0), a1 (.iload_n 3), a1 (.iconst 1), a1 (.iadd), a1 (.iaload), a1 (.aload_n 0), a1 (.iload_n 3), a1 (.iconst 2), a1 (.iadd), a1 (.iaload), a0 (.invokevirtual 31) 3 83 10 24 3 0, none, none, a1 (.pop), a1 (.aload_n 2), a1 (.aload_n 0), a1 (.iload_n 3), a1 (.iconst 1), a1 (.iadd), a1 (.iaload), a1 (.aload_n 0), a1 (.iload_n 3), a1 (.iconst 2), a1 (.iadd), a1 (.iaload)],
  [a0 (.invokevirtual 34) 3 285 10 159 3 0, none, none, a1 (.pop), a3 (.goto 1298), none, none, a1 (.aload_n 1), a1 (.aload_n 0), a1 (.iload_n 3), a1 (.iconst 1), a1 (.iadd), a1 (.iaload), a1 (.aload_n 0), a1 (.iload_n 3), a1 (.iconst 2), a1 (.iadd), a1 (.iaload), a1 (.aload_n 0), a1 (.iload_n 3), a1 (.iconst 3), a1 (.iadd), a1 (.iaload), a0 (.invokevirtual 35) 3 85 10 26 4 0, none, none, a1 (.pop), a1 (.aload_n 2), a1 (.aload_n 0), a1 (.iload_n 3), a1 (.iconst 1), a1 (.iadd)],
  [a1 (.iaload), a1 (.aload_n 0), a1 (.iload_n 3), a1 (.iconst 2), a1 (.iadd), a1 (.iaload), a1 (.aload_n 0), a1 (.iload_n 3), a1 (.iconst 3), a1 (.iadd), a1 (.iaload), a0 (.invokevirtual 38) 3 287 10 161 4 0, none, none, a1 (.pop), a3 (.goto 1255), none, none, a1 (.aload_n 1), a1 (.aload_n 0), a1 (.iload_n 3), a1 (.iconst 1), a1 (.iadd), a1 (.iaload), a1 (.aload_n 0), a1 (.iload_n 3), a1 (.iconst 2), a1 (.iadd), a1 (.iaload), a0 (.invokevirtual 39) 3 87 10 28 3 0, none, none],
  [a1 (.pop), a1 (.aload_n 2), a1 (.aload_n 0), a1 (.iload_n 3), a1 (.iconst 1), a1 (.iadd), a1 (.iaload), a1 (.aload_n 0), a1 (.iload_n 3), a1 (.iconst 2), a1 (.iadd), a1 (.iaload), a0 (.invokevirtual 42) 3 288 10 162 3 0, none, none, a1 (.pop), a3 (.goto 1222), none, none, a1 (.aload_n 1), a1 (.aload_n 0), a1 (.iload_n 3), a1 (.iconst 1), a1 (.iadd), a1 (.iaload), a0 (.invokevirtual 43) 3 89 10 29 2 0, none, none, a1 (.pop), a1 (.aload_n 2), a1 (.aload_n 0), a1 (.iload_n 3)]]
noncomputable def mk_245_2 : List (List (Option mEnt)) := [[a1 (.iconst 1), a1 (.iadd), a1 (.iaload), a0 (.invokevirtual 47) 3 289 10 163 2 0, none, none, a1 (.pop), a3 (.goto 1199), none, none, a1 (.aload_n 1), a1 (.aload_n 0), a1 (.iload_n 3), a1 (.iconst 1), a1 (.iadd), a1 (.iaload), a0 (.invokevirtual 48) 3 102 10 37 2 0, none, none, a1 (.pop), a1 (.aload_n 2), a1 (.aload_n 0), a1 (.iload_n 3), a1 (.iconst 1), a1 (.iadd), a1 (.iaload), a0 (.invokevirtual 51) 3 296 10 169 2 0, none, none, a1 (.pop), a3 (.goto 1176), none],
  [none, a1 (.aload_n 1), a1 (.aload_n 0), a1 (.iload_n 3), a1 (.iconst 1), a1 (.iadd), a1 (.iaload), a1 (.aload_n 0), a1 (.iload_n 3), a1 (.iconst 2), a1 (.iadd), a1 (.iaload), a0 (.invokevirtual 52) 3 106 10 41 3 0, none, none, a1 (.pop), a1 (.aload_n 2), a1 (.aload_n 0), a1 (.iload_n 3), a1 (.iconst 1), a1 (.iadd), a1 (.iaload), a1 (.aload_n 0), a1 (.iload_n 3), a1 (.iconst 2), a1 (.iadd), a1 (.iaload), a0 (.invokevirtual 55) 3 299 10 172 3 0, none, none, a1 (.pop), a3 (.goto 1143)],
  [none, none, a1 (.aload_n 1), a1 (.aload_n 0), a1 (.iload_n 3), a1 (.iconst 1), a1 (.iadd), a1 (.iaload), a0 (.invokevirtual 56) 3 110 10 44 2 0, none, none, a1 (.pop), a1 (.aload_n 2), a1 (.aload_n 0), a1 (.iload_n 3), a1 (.iconst 1), a1 (.iadd), a1 (.iaload), a0 (.invokevirtual 59) 3 303 10 176 2 0, none, none, a1 (.pop), a3 (.goto 1120), none, none, a1 (.aload_n 1), a1 (.aload_n 0), a1 (.iload_n 3), a1 (.iconst 1), a1 (.iadd), a1 (.iaload), a0 (.invokevirtual 60) 3 113 10 45 2 0],
  [none, none, a1 (.pop), a1 (.aload_n 2), a1 (.aload_n 0), a1 (.iload_n 3), a1 (.iconst 1), a1 (.iadd), a1 (.iaload), a0 (.invokevirtual 63) 3 306 10 178 2 0, none, none, a1 (.pop), a3 (.goto 1097), none, none, a1 (.aload_n 1), a1 (.aload_n 0), a1 (.iload_n 3), a1 (.iconst 1), a1 (.iadd), a1 (.iaload), a0 (.invokevirtual 64) 3 114 10 46 2 0, none, none, a1 (.pop), a1 (.aload_n 2), a1 (.aload_n 0), a1 (.iload_n 3), a1 (.iconst 1), a1 (.iadd), a1 (.iaload)],
  [a0 (.invokevirtual 67) 3 307 10 179 2 0, none, none, a1 (.pop), a3 (.goto 1074), none, none, a1 (.aload_n 1), a1 (.aload_n 0), a1 (.iload_n 3), a1 (.iconst 1), a1 (.iadd), a1 (.iaload), a1 (.aload_n 0), a1 (.iload_n 3), a1 (.iconst 2), a1 (.iadd), a1 (.iaload), a0 (.invokevirtual 68) 3 115 10 47 3 0, none, none, a1 (.pop), a1 (.aload_n 2), a1 (.aload_n 0), a1 (.iload_n 3), a1 (.iconst 1), a1 (.iadd), a1 (.iaload), a1 (.aload_n 0), a1 (.iload_n 3), a1 (.iconst 2), a1 (.iadd)],
  [a1 (.iaload), a0 (.invokevirtual 71) 3 309 10 181 3 0, none, none, a1 (.pop), a3 (.goto 1041), none, none, a1 (.aload_n 1), a1 (.aload_n 0), a1 (.iload_n 3), a1 (.iconst 1), a1 (.iadd), a1 (.iaload), a1 (.aload_n 0), a1 (.iload_n 3), a1 (.iconst 2), a1 (.iadd), a1 (.iaload), a0 (.invokevirtual 72) 3 117 10 48 3 0, none, none, a1 (.pop), a1 (.aload_n 2), a1 (.aload_n 0), a1 (.iload_n 3), a1 (.iconst 1), a1 (.iadd), a1 (.iaload), a1 (.aload_n 0), a1 (.iload_n 3), a1 (.iconst 2)],
  [a1 (.iadd), a1 (.iaload), a0 (.invokevirtual 75) 3 310 10 182 3 0, none, none, a1 (.pop), a3 (.goto 1008), none, none, a1 (.aload_n 1), a1 (.aload_n 0), a1 (.iload_n 3), a1 (.iconst 1), a1 (.iadd), a1 (.iaload), a1 (.aload_n 0), a1 (.iload_n 3), a1 (.iconst 2), a1 (.iadd), a1 (.iaload), a0 (.invokevirtual 76) 3 119 10 50 3 0, none, none, a1 (.pop), a1 (.aload_n 2), a1 (.aload_n 0), a1 (.iload_n 3), a1 (.iconst 1), a1 (.iadd), a1 (.iaload), a1 (.aload_n 0), a1 (.iload_n 3)],
  [a1 (.iconst 2), a1 (.iadd), a1 (.iaload), a0 (.invokevirtual 79) 3 313 10 184 3 0, none, none, a1 (.pop), a3 (.goto 975), none, none, a1 (.aload_n 1), a1 (.aload_n 0), a1 (.iload_n 3), a1 (.iconst 1), a1 (.iadd), a1 (.iaload), a1 (.aload_n 0), a1 (.iload_n 3), a1 (.iconst 2), a1 (.iadd), a1 (.iaload), a0 (.invokevirtual 80) 3 120 10 51 3 0, none, none, a1 (.pop), a1 (.aload_n 2), a1 (.aload_n 0), a1 (.iload_n 3), a1 (.iconst 1), a1 (.iadd), a1 (.iaload), a1 (.aload_n 0)]]
noncomputable def mk_245_3 : List (List (Option mEnt)) := [[a1 (.iload_n 3), a1 (.iconst 2), a1 (.iadd), a1 (.iaload), a0 (.invokevirtual 83) 3 314 10 185 3 0, none, none, a1 (.pop), a3 (.goto 942), none, none, a1 (.aload_n 1), a1 (.aload_n 0), a1 (.iload_n 3), a1 (.iconst 1), a1 (.iadd), a1 (.iaload), a1 (.aload_n 0), a1 (.iload_n 3), a1 (.iconst 2), a1 (.iadd), a1 (.iaload), a0 (.invokevirtual 84) 3 122 10 53 3 0, none, none, a1 (.pop), a1 (.aload_n 2), a1 (.aload_n 0), a1 (.iload_n 3), a1 (.iconst 1), a1 (.iadd), a1 (.iaload)],
  [a1 (.aload_n 0), a1 (.iload_n 3), a1 (.iconst 2), a1 (.iadd), a1 (.iaload), a0 (.invokevirtual 87) 3 316 10 187 3 0, none, none, a1 (.pop), a3 (.goto 909), none, none, a1 (.aload_n 1), a1 (.aload_n 0), a1 (.iload_n 3), a1 (.iconst 1), a1 (.iadd), a1 (.iaload), a0 (.invokevirtual 88) 3 123 10 54 2 0, none, none, a1 (.pop), a1 (.aload_n 2), a1 (.aload_n 0), a1 (.iload_n 3), a1 (.iconst 1), a1 (.iadd), a1 (.iaload), a0 (.invokevirtual 91) 3 317 10 188 2 0, none, none, a1 (.pop)],
  [a3 (.goto 886), none, none, a1 (.aload_n 1), a1 (.aload_n 0), a1 (.iload_n 3), a1 (.iconst 1), a1 (.iadd), a1 (.iaload), a1 (.aload_n 0), a1 (.iload_n 3), a1 (.iconst 2), a1 (.iadd), a1 (.iaload), a0 (.invokevirtual 92) 3 124 10 55 3 0, none, none, a1 (.pop), a1 (.aload_n 2), a1 (.aload_n 0), a1 (.iload_n 3), a1 (.iconst 1), a1 (.iadd), a1 (.iaload), a1 (.aload_n 0), a1 (.iload_n 3), a1 (.iconst 2), a1 (.iadd), a1 (.iaload), a0 (.invokevirtual 95) 3 318 10 189 3 0, none, none],
  [a1 (.pop), a3 (.goto 853), none, none, a1 (.aload_n 1), a1 (.aload_n 0), a1 (.iload_n 3), a1 (.iconst 1), a1 (.iadd), a1 (.iaload), a1 (.aload_n 0), a1 (.iload_n 3), a1 (.iconst 2), a1 (.iadd), a1 (.iaload), a0 (.invokevirtual 96) 3 131 10 59 3 0, none, none, a1 (.pop), a1 (.aload_n 2), a1 (.aload_n 0), a1 (.iload_n 3), a1 (.iconst 1), a1 (.iadd), a1 (.iaload), a1 (.aload_n 0), a1 (.iload_n 3), a1 (.iconst 2), a1 (.iadd), a1 (.iaload), a0 (.invokevirtual 99) 3 321 10 192 3 0, none],
  [none, a1 (.pop), a3 (.goto 820), none, none, a1 (.aload_n 1), a1 (.aload_n 0), a1 (.iload_n 3), a1 (.iconst 1), a1 (.iadd), a1 (.iaload), a0 (.invokevirtual 100) 3 132 10 60 2 0, none, none, a1 (.pop), a1 (.aload_n 2), a1 (.aload_n 0), a1 (.iload_n 3), a1 (.iconst 1), a1 (.iadd), a1 (.iaload), a0 (.invokevirtual 103) 3 322 10 193 2 0, none, none, a1 (.pop), a3 (.goto 797), none, none, a1 (.aload_n 1), a1 (.aload_n 0), a1 (.iload_n 3), a1 (.iconst 1)],
  [a1 (.iadd), a1 (.iaload), a0 (.invokevirtual 104) 3 133 10 61 2 0, none, none, a1 (.pop), a1 (.aload_n 2), a1 (.aload_n 0), a1 (.iload_n 3), a1 (.iconst 1), a1 (.iadd), a1 (.iaload), a0 (.invokevirtual 107) 3 324 10 195 2 0, none, none, a1 (.pop), a3 (.goto 774), none, none, a1 (.aload_n 1), a0 (.invokevirtual 108) 3 135 10 63 1 0, none, none, a1 (.pop), a1 (.aload_n 2), a0 (.invokevirtual 112) 3 325 10 196 1 0, none, none, a1 (.pop), a3 (.goto 761), none, none],
  [a1 (.aload_n 1), a0 (.invokevirtual 113) 3 136 10 64 1 0, none, none, a1 (.pop), a1 (.aload_n 2), a0 (.invokevirtual 116) 3 326 10 197 1 0, none, none, a1 (.pop), a3 (.goto 748), none, none, a1 (.aload_n 1), a1 (.aload_n 0), a1 (.iload_n 3), a1 (.iconst 1), a1 (.iadd), a1 (.iaload), a1 (.aload_n 0), a1 (.iload_n 3), a1 (.iconst 2), a1 (.iadd), a1 (.iaload), a0 (.invokevirtual 117) 3 137 10 65 3 0, none, none, a1 (.pop), a1 (.aload_n 2), a1 (.aload_n 0), a1 (.iload_n 3), a1 (.iconst 1)],
  [a1 (.iadd), a1 (.iaload), a1 (.aload_n 0), a1 (.iload_n 3), a1 (.iconst 2), a1 (.iadd), a1 (.iaload), a0 (.invokevirtual 120) 3 327 10 198 3 0, none, none, a1 (.pop), a3 (.goto 715), none, none, a1 (.aload_n 1), a1 (.aload_n 0), a1 (.iload_n 3), a1 (.iconst 1), a1 (.iadd), a1 (.iaload), a1 (.aload_n 0), a1 (.iload_n 3), a1 (.iconst 2), a1 (.iadd), a1 (.iaload), a1 (.aload_n 0), a1 (.iload_n 3), a1 (.iconst 3), a1 (.iadd), a1 (.iaload), a0 (.invokevirtual 121) 3 141 10 68 4 0, none]]
noncomputable def mk_245_4 : List (List (Option mEnt)) := [[none, a1 (.pop), a1 (.aload_n 2), a1 (.aload_n 0), a1 (.iload_n 3), a1 (.iconst 1), a1 (.iadd), a1 (.iaload), a1 (.aload_n 0), a1 (.iload_n 3), a1 (.iconst 2), a1 (.iadd), a1 (.iaload), a1 (.aload_n 0), a1 (.iload_n 3), a1 (.iconst 3), a1 (.iadd), a1 (.iaload), a0 (.invokevirtual 124) 3 330 10 201 4 0, none, none, a1 (.pop), a3 (.goto 672), none, none, a1 (.aload_n 1), a1 (.aload_n 0), a1 (.iload_n 3), a1 (.iconst 1), a1 (.iadd), a1 (.iaload), a1 (.aload_n 0)],
  [a1 (.iload_n 3), a1 (.iconst 2), a1 (.iadd), a1 (.iaload), a1 (.aload_n 0), a1 (.iload_n 3), a1 (.iconst 3), a1 (.iadd), a1 (.iaload), a0 (.invokevirtual 125) 3 145 10 72 4 0, none, none, a1 (.pop), a1 (.aload_n 2), a1 (.aload_n 0), a1 (.iload_n 3), a1 (.iconst 1), a1 (.iadd), a1 (.iaload), a1 (.aload_n 0), a1 (.iload_n 3), a1 (.iconst 2), a1 (.iadd), a1 (.iaload), a1 (.aload_n 0), a1 (.iload_n 3), a1 (.iconst 3), a1 (.iadd), a1 (.iaload), a0 (.invokevirtual 128) 3 333 10 204 4 0, none, none],
  [a1 (.pop), a3 (.goto 629), none, none, a1 (.aload_n 1), a1 (.aload_n 0), a1 (.iload_n 3), a1 (.iconst 1), a1 (.iadd), a1 (.iaload), a1 (.aload_n 0), a1 (.iload_n 3), a1 (.iconst 2), a1 (.iadd), a1 (.iaload), a1 (.aload_n 0), a1 (.iload_n 3), a1 (.iconst 3), a1 (.iadd), a1 (.iaload), a0 (.invokevirtual 129) 3 146 10 73 4 0, none, none, a1 (.pop), a1 (.aload_n 2), a1 (.aload_n 0), a1 (.iload_n 3), a1 (.iconst 1), a1 (.iadd), a1 (.iaload), a1 (.aload_n 0), a1 (.iload_n 3)],
  [a1 (.iconst 2), a1 (.iadd), a1 (.iaload), a1 (.aload_n 0), a1 (.iload_n 3), a1 (.iconst 3), a1 (.iadd), a1 (.iaload), a0 (.invokevirtual 132) 3 335 10 206 4 0, none, none, a1 (.pop), a3 (.goto 586), none, none, a1 (.aload_n 1), a0 (.invokevirtual 133) 3 147 10 74 1 0, none, none, a1 (.pop), a1 (.aload_n 2), a0 (.invokevirtual 136) 3 336 10 207 1 0, none, none, a1 (.pop), a3 (.goto 573), none, none, a1 (.aload_n 1), a1 (.aload_n 0), a1 (.iload_n 3), a1 (.iconst 1)],
  [a1 (.iadd), a1 (.iaload), a1 (.aload_n 0), a1 (.iload_n 3), a1 (.iconst 2), a1 (.iadd), a1 (.iaload), a1 (.aload_n 0), a1 (.iload_n 3), a1 (.iconst 3), a1 (.iadd), a1 (.iaload), a0 (.invokevirtual 137) 3 148 10 75 4 0, none, none, a1 (.pop), a1 (.aload_n 2), a1 (.aload_n 0), a1 (.iload_n 3), a1 (.iconst 1), a1 (.iadd), a1 (.iaload), a1 (.aload_n 0), a1 (.iload_n 3), a1 (.iconst 2), a1 (.iadd), a1 (.iaload), a1 (.aload_n 0), a1 (.iload_n 3), a1 (.iconst 3), a1 (.iadd), a1 (.iaload)],
  [a0 (.invokevirtual 140) 3 337 10 208 4 0, none, none, a1 (.pop), a3 (.goto 530), none, none, a1 (.aload_n 1), a1 (.aload_n 0), a1 (.iload_n 3), a1 (.iconst 1), a1 (.iadd), a1 (.iaload), a1 (.aload_n 0), a1 (.iload_n 3), a1 (.iconst 2), a1 (.iadd), a1 (.iaload), a1 (.aload_n 0), a1 (.iload_n 3), a1 (.iconst 3), a1 (.iadd), a1 (.iaload), a0 (.invokevirtual 141) 3 155 10 81 4 0, none, none, a1 (.pop), a1 (.aload_n 2), a1 (.aload_n 0), a1 (.iload_n 3), a1 (.iconst 1), a1 (.iadd)],
  [a1 (.iaload), a1 (.aload_n 0), a1 (.iload_n 3), a1 (.iconst 2), a1 (.iadd), a1 (.iaload), a1 (.aload_n 0), a1 (.iload_n 3), a1 (.iconst 3), a1 (.iadd), a1 (.iaload), a0 (.invokevirtual 144) 3 343 10 213 4 0, none, none, a1 (.pop), a3 (.goto 487), none, none, a1 (.aload_n 1), a1 (.aload_n 0), a1 (.iload_n 3), a1 (.iconst 1), a1 (.iadd), a1 (.iaload), a0 (.invokevirtual 145) 3 156 10 82 2 0, none, none, a1 (.pop), a1 (.aload_n 2), a1 (.aload_n 0), a1 (.iload_n 3), a1 (.iconst 1)],
  [a1 (.iadd), a1 (.iaload), a0 (.invokevirtual 148) 3 344 10 214 2 0, none, none, a1 (.pop), a3 (.goto 464), none, none, a1 (.aload_n 1), a1 (.aload_n 0), a1 (.iload_n 3), a1 (.iconst 1), a1 (.iadd), a1 (.iaload), a1 (.aload_n 0), a1 (.iload_n 3), a1 (.iconst 2), a1 (.iadd), a1 (.iaload), a0 (.invokevirtual 149) 3 159 10 84 3 0, none, none, a1 (.pop2), a1 (.aload_n 2), a1 (.aload_n 0), a1 (.iload_n 3), a1 (.iconst 1), a1 (.iadd), a1 (.iaload), a1 (.aload_n 0), a1 (.iload_n 3)]]
noncomputable def mk_245_5 : List (List (Option mEnt)) := [[a1 (.iconst 2), a1 (.iadd), a1 (.iaload), a0 (.invokevirtual 153) 3 347 10 216 3 0, none, none, a1 (.pop2), a3 (.goto 431), none, none, a1 (.aload_n 1), a1 (.aload_n 0), a1 (.iload_n 3), a1 (.iconst 1), a1 (.iadd), a1 (.iaload), a0 (.invokevirtual 154) 3 161 10 86 2 0, none, none, a1 (.pop), a1 (.aload_n 2), a1 (.aload_n 0), a1 (.iload_n 3), a1 (.iconst 1), a1 (.iadd), a1 (.iaload), a0 (.invokevirtual 157) 3 348 10 217 2 0, none, none, a1 (.pop), a3 (.goto 408), none],
  [none, a1 (.aload_n 1), a1 (.aload_n 0), a1 (.iload_n 3), a1 (.iconst 1), a1 (.iadd), a1 (.iaload), a1 (.aload_n 0), a1 (.iload_n 3), a1 (.iconst 2), a1 (.iadd), a1 (.iaload), a0 (.invokevirtual 158) 3 162 10 87 3 0, none, none, a1 (.pop), a1 (.aload_n 2), a1 (.aload_n 0), a1 (.iload_n 3), a1 (.iconst 1), a1 (.iadd), a1 (.iaload), a1 (.aload_n 0), a1 (.iload_n 3), a1 (.iconst 2), a1 (.iadd), a1 (.iaload), a0 (.invokevirtual 161) 3 349 10 218 3 0, none, none, a1 (.pop), a3 (.goto 375)],
  [none, none, a1 (.aload_n 1), a0 (.invokevirtual 162) 3 164 10 89 1 0, none, none, a1 (.pop), a1 (.aload_n 2), a0 (.invokevirtual 165) 3 350 10 219 1 0, none, none, a1 (.pop), a3 (.goto 362), none, none, a1 (.aload_n 1), a0 (.invokevirtual 166) 3 165 10 90 1 0, none, none, a1 (.pop), a1 (.aload_n 2), a0 (.invokevirtual 169) 3 351 10 220 1 0, none, none, a1 (.pop), a3 (.goto 349), none, none, a1 (.aload_n 1), a1 (.aload_n 0), a1 (.iload_n 3), a1 (.iconst 1)],
  [a1 (.iadd), a1 (.iaload), a1 (.aload_n 0), a1 (.iload_n 3), a1 (.iconst 2), a1 (.iadd), a1 (.iaload), a0 (.invokevirtual 170) 3 198 10 114 3 0, none, none, a1 (.pop), a1 (.aload_n 2), a1 (.aload_n 0), a1 (.iload_n 3), a1 (.iconst 1), a1 (.iadd), a1 (.iaload), a1 (.aload_n 0), a1 (.iload_n 3), a1 (.iconst 2), a1 (.iadd), a1 (.iaload), a0 (.invokevirtual 173) 3 372 10 231 3 0, none, none, a1 (.pop), a3 (.goto 316), none, none, a1 (.aload_n 1), a1 (.aload_n 0), a1 (.iload_n 3)],
  [a1 (.iconst 1), a1 (.iadd), a1 (.iaload), a1 (.aload_n 0), a1 (.iload_n 3), a1 (.iconst 2), a1 (.iadd), a1 (.iaload), a0 (.invokevirtual 174) 3 199 10 115 3 0, none, none, a1 (.pop), a1 (.aload_n 2), a1 (.aload_n 0), a1 (.iload_n 3), a1 (.iconst 1), a1 (.iadd), a1 (.iaload), a1 (.aload_n 0), a1 (.iload_n 3), a1 (.iconst 2), a1 (.iadd), a1 (.iaload), a0 (.invokevirtual 177) 3 374 10 233 3 0, none, none, a1 (.pop), a3 (.goto 283), none, none, a1 (.aload_n 1), a1 (.aload_n 0)],
  [a1 (.iload_n 3), a1 (.iconst 1), a1 (.iadd), a1 (.iaload), a1 (.aload_n 0), a1 (.iload_n 3), a1 (.iconst 2), a1 (.iadd), a1 (.iaload), a1 (.aload_n 0), a1 (.iload_n 3), a1 (.iconst 3), a1 (.iadd), a1 (.iaload), a0 (.invokevirtual 178) 3 202 10 116 4 0, none, none, a1 (.pop), a1 (.aload_n 2), a1 (.aload_n 0), a1 (.iload_n 3), a1 (.iconst 1), a1 (.iadd), a1 (.iaload), a1 (.aload_n 0), a1 (.iload_n 3), a1 (.iconst 2), a1 (.iadd), a1 (.iaload), a1 (.aload_n 0), a1 (.iload_n 3), a1 (.iconst 3)],
  [a1 (.iadd), a1 (.iaload), a0 (.invokevirtual 181) 3 376 10 234 4 0, none, none, a1 (.pop), a3 (.goto 240), none, none, a1 (.aload_n 1), a1 (.aload_n 0), a1 (.iload_n 3), a1 (.iconst 1), a1 (.iadd), a1 (.iaload), a1 (.aload_n 0), a1 (.iload_n 3), a1 (.iconst 2), a1 (.iadd), a1 (.iaload), a1 (.aload_n 0), a1 (.iload_n 3), a1 (.iconst 3), a1 (.iadd), a1 (.iaload), a0 (.invokevirtual 182) 3 205 10 118 4 0, none, none, a1 (.pop), a1 (.aload_n 2), a1 (.aload_n 0), a1 (.iload_n 3)],
  [a1 (.iconst 1), a1 (.iadd), a1 (.iaload), a1 (.aload_n 0), a1 (.iload_n 3), a1 (.iconst 2), a1 (.iadd), a1 (.iaload), a1 (.aload_n 0), a1 (.iload_n 3), a1 (.iconst 3), a1 (.iadd), a1 (.iaload), a0 (.invokevirtual 185) 3 378 10 235 4 0, none, none, a1 (.pop), a3 (.goto 197), none, none, a1 (.aload_n 1), a1 (.aload_n 0), a1 (.iload_n 3), a1 (.iconst 1), a1 (.iadd), a1 (.iaload), a1 (.aload_n 0), a1 (.iload_n 3), a1 (.iconst 2), a1 (.iadd), a1 (.iaload), a1 (.aload_n 0)]]
noncomputable def mk_245_6 : List (List (Option mEnt)) := [[a1 (.iload_n 3), a1 (.iconst 3), a1 (.iadd), a1 (.iaload), a1 (.aload_n 0), a1 (.iload_n 3), a1 (.iconst 4), a1 (.iadd), a1 (.iaload), a1 (.aload_n 0), a1 (.iload_n 3), a1 (.iconst 5), a1 (.iadd), a1 (.iaload), a0 (.invokevirtual 186) 3 207 10 120 6 0, none, none, a1 (.pop), a1 (.aload_n 2), a1 (.aload_n 0), a1 (.iload_n 3), a1 (.iconst 1), a1 (.iadd), a1 (.iaload), a1 (.aload_n 0), a1 (.iload_n 3), a1 (.iconst 2), a1 (.iadd), a1 (.iaload), a1 (.aload_n 0), a1 (.iload_n 3), a1 (.iconst 3)],
  [a1 (.iadd), a1 (.iaload), a1 (.aload_n 0), a1 (.iload_n 3), a1 (.iconst 4), a1 (.iadd), a1 (.iaload), a1 (.aload_n 0), a1 (.iload_n 3), a1 (.iconst 5), a1 (.iadd), a1 (.iaload), a0 (.invokevirtual 190) 3 380 10 237 6 0, none, none, a1 (.pop), a3 (.goto 134), none, none, a1 (.aload_n 1), a1 (.aload_n 0), a1 (.iload_n 3), a1 (.iconst 1), a1 (.iadd), a1 (.iaload), a0 (.invokevirtual 191) 3 209 10 122 2 0, none, none, a1 (.pop), a1 (.aload_n 2), a1 (.aload_n 0), a1 (.iload_n 3)],
  [a1 (.iconst 1), a1 (.iadd), a1 (.iaload), a0 (.invokevirtual 194) 3 381 10 238 2 0, none, none, a1 (.pop), a3 (.goto 111), none, none, a1 (.aload_n 1), a1 (.aload_n 0), a1 (.iload_n 3), a1 (.iconst 1), a1 (.iadd), a1 (.iaload), a0 (.invokevirtual 195) 3 210 10 123 2 0, none, none, a1 (.pop), a1 (.aload_n 2), a1 (.aload_n 0), a1 (.iload_n 3), a1 (.iconst 1), a1 (.iadd), a1 (.iaload), a0 (.invokevirtual 198) 3 382 10 239 2 0, none, none, a1 (.pop), a3 (.goto 88), none],
  [none, a1 (.aload_n 1), a0 (.invokevirtual 199) 3 212 10 125 1 0, none, none, a1 (.aload_n 2), a0 (.invokevirtual 202) 3 383 10 240 1 0, none, none, a3 (.if_icmp .eq 77), none, none, a1 (.iconst 0), a1 (.ireturn), a1 (.aload_n 1), a0 (.invokevirtual 203) 3 213 10 126 1 0, none, none, a1 (.pop), a1 (.aload_n 2), a0 (.invokevirtual 206) 3 384 10 241 1 0, none, none, a1 (.pop), a3 (.goto 62), none, none, a1 (.aload_n 1), a0 (.invokevirtual 207) 3 214 10 127 1 0, none, none, a1 (.pop)],
  [a1 (.aload_n 2), a0 (.invokevirtual 210) 3 385 10 242 1 0, none, none, a1 (.pop), a3 (.goto 49), none, none, a1 (.aload_n 1), a1 (.aload_n 0), a1 (.iload_n 3), a1 (.iconst 1), a1 (.iadd), a1 (.iaload), a0 (.invokevirtual 211) 3 215 10 128 2 0, none, none, a1 (.pop), a1 (.aload_n 2), a1 (.aload_n 0), a1 (.iload_n 3), a1 (.iconst 1), a1 (.iadd), a1 (.iaload), a0 (.invokevirtual 214) 3 386 10 243 2 0, none, none, a1 (.pop), a3 (.goto 26), none, none, a1 (.aload_n 1)],
  [a1 (.aload_n 0), a1 (.iload_n 3), a1 (.iconst 1), a1 (.iadd), a1 (.iaload), a0 (.invokevirtual 215) 3 217 10 130 2 0, none, none, a1 (.pop), a1 (.aload_n 2), a1 (.aload_n 0), a1 (.iload_n 3), a1 (.iconst 1), a1 (.iadd), a1 (.iaload), a0 (.invokevirtual 218) 3 387 10 244 2 0, none, none, a1 (.pop), a3 (.goto 3), none, none, a3 (.iinc 3 6), none, none, a3 (.goto (-1703)), none, none, a1 (.iconst 1), a1 (.ireturn)]]
noncomputable def mk_245 : List (List (Option mEnt)) := mk_245_0 ++ (mk_245_1 ++ (mk_245_2 ++ (mk_245_3 ++ (mk_245_4 ++ (mk_245_5 ++ (mk_245_6))))))
noncomputable def mKs : List (List (List (List (Option mEnt)))) := [[mk_0, mk_1, mk_2, mk_3, mk_4, mk_5, mk_6, mk_7, mk_8, mk_9, mk_10, mk_11, mk_12, mk_13, mk_14, mk_15],
  [mk_16, mk_17, mk_18, mk_19, mk_20, mk_21, mk_22, mk_23, mk_24, mk_25, mk_26, mk_27, mk_28, mk_29, mk_30, mk_31],
  [mk_32, mk_33, mk_34, mk_35, mk_36, mk_37, mk_38, mk_39, mk_40, mk_41, mk_42, mk_43, mk_44, mk_45, mk_46, mk_47],
  [mk_48, mk_49, mk_50, mk_51, mk_52, mk_53, mk_54, mk_55, mk_56, mk_57, mk_58, mk_59, mk_60, mk_61, mk_62, mk_63],
  [mk_64, mk_65, mk_66, mk_67, mk_68, mk_69, mk_70, mk_71, mk_72, mk_73, mk_74, mk_75, mk_76, mk_77, mk_78, mk_79],
  [mk_80, mk_81, mk_82, mk_83, mk_84, mk_85, mk_86, mk_87, mk_88, mk_89, mk_90, mk_91, mk_92, mk_93, mk_94, mk_95],
  [mk_96, mk_97, mk_98, mk_99, mk_100, mk_101, mk_102, mk_103, mk_104, mk_105, mk_106, mk_107, mk_108, mk_109, mk_110, mk_111],
  [mk_112, mk_113, mk_114, mk_115, mk_116, mk_117, mk_118, mk_119, mk_120, mk_121, mk_122, mk_123, mk_124, mk_125, mk_126, mk_127],
  [mk_128, mk_129, mk_130, mk_131, mk_132, mk_133, mk_134, mk_135, mk_136, mk_137, mk_138, mk_139, mk_140, mk_141, mk_142, mk_143],
  [mk_144, mk_145, mk_146, mk_147, mk_148, mk_149, mk_150, mk_151, mk_152, mk_153, mk_154, mk_155, mk_156, mk_157, mk_158, mk_159],
  [mk_160, mk_161, mk_162, mk_163, mk_164, mk_165, mk_166, mk_167, mk_168, mk_169, mk_170, mk_171, mk_172, mk_173, mk_174, mk_175],
  [mk_176, mk_177, mk_178, mk_179, mk_180, mk_181, mk_182, mk_183, mk_184, mk_185, mk_186, mk_187, mk_188, mk_189, mk_190, mk_191],
  [mk_192, mk_193, mk_194, mk_195, mk_196, mk_197, mk_198, mk_199, mk_200, mk_201, mk_202, mk_203, mk_204, mk_205, mk_206, mk_207],
  [mk_208, mk_209, mk_210, mk_211, mk_212, mk_213, mk_214, mk_215, mk_216, mk_217, mk_218, mk_219, mk_220, mk_221, mk_222, mk_223],
  [mk_224, mk_225, mk_226, mk_227, mk_228, mk_229, mk_230, mk_231, mk_232, mk_233, mk_234, mk_235, mk_236, mk_237, mk_238, mk_239],
  [mk_240, mk_241, mk_242, mk_243, mk_244, mk_245]]
noncomputable def mMs : List (List mRow) := [[(3, ⟨"EnvyRust", "<init>", "()V"⟩, prog_1_method_1_code, 2, (none), 2, 41),
   (12, ⟨"java/lang/Object", "<init>", "()V"⟩, object_method_1_code, 1, (none), 0, 0),
   (2, ⟨"EnvyRust$Town", "<init>", "()V"⟩, prog_4_method_1_code, 2, (none), 1, 20),
   (1, ⟨"EnvyRust$TextReader", "<init>", "()V"⟩, prog_3_method_1_code, 1, (none), 1, 20),
   (0, ⟨"EnvyRust$Sheet", "<init>", "()V"⟩, prog_2_method_1_code, 1, (none), 1, 20),
   (3, ⟨"EnvyRust", "thing", "(II)I"⟩, prog_1_method_2_code, 3, (some FieldType.int), 2, 44),
   (3, ⟨"EnvyRust", "between", "(III)Z"⟩, prog_1_method_67_code, 3, (some FieldType.boolean), 0, 0),
   (3, ⟨"EnvyRust", "told", "(I)I"⟩, prog_1_method_66_code, 3, (some FieldType.int), 1, 22),
   (2, ⟨"EnvyRust$Town", "addThing", "(II)I"⟩, prog_4_method_7_code, 4, (some FieldType.int), 0, 0),
   (3, ⟨"EnvyRust", "thingOf", "(II)I"⟩, prog_1_method_3_code, 3, (some FieldType.int), 4, 97),
   (2, ⟨"EnvyRust$Town", "isThing", "(I)Z"⟩, prog_4_method_3_code, 2, (some FieldType.boolean), 1, 22),
   (2, ⟨"EnvyRust$Town", "wearOf", "(I)I"⟩, prog_4_method_14_code, 5, (some FieldType.int), 3, 73),
   (2, ⟨"EnvyRust$Town", "envyOf", "(II)I"⟩, prog_4_method_10_code, 4, (some FieldType.int), 2, 50),
   (2, ⟨"EnvyRust$Town", "envyIfOwnedBy", "(III)I"⟩, prog_4_method_11_code, 8, (some FieldType.int), 1, 23),
   (3, ⟨"EnvyRust", "isOrUnder", "(II)Z"⟩, prog_1_method_71_code, 4, (some FieldType.boolean), 0, 0),
   (7, ⟨"java/lang/Math", "max", "(II)I"⟩, prog_8_method_65_code, 2, (some FieldType.int), 0, 0)],
  [(7, ⟨"java/lang/Math", "min", "(II)I"⟩, prog_8_method_69_code, 2, (some FieldType.int), 0, 0),
   (3, ⟨"EnvyRust", "forge", "(III)I"⟩, prog_1_method_4_code, 5, (some FieldType.int), 3, 66),
   (3, ⟨"EnvyRust", "forgeable", "(III)Z"⟩, prog_1_method_5_code, 4, (some FieldType.boolean), 2, 43),
   (2, ⟨"EnvyRust$Town", "isPerson", "(I)Z"⟩, prog_4_method_4_code, 2, (some FieldType.boolean), 1, 22),
   (2, ⟨"EnvyRust$Town", "falling", "(I)I"⟩, prog_4_method_24_code, 7, (some FieldType.int), 1, 21),
   (3, ⟨"EnvyRust", "contains", "(II)Z"⟩, prog_1_method_68_code, 2, (some FieldType.boolean), 0, 0),
   (3, ⟨"EnvyRust", "person", "(II)I"⟩, prog_1_method_6_code, 3, (some FieldType.int), 2, 44),
   (2, ⟨"EnvyRust$Town", "addPerson", "(II)I"⟩, prog_4_method_8_code, 5, (some FieldType.int), 0, 0),
   (3, ⟨"EnvyRust", "of", "(II)I"⟩, prog_1_method_7_code, 3, (some FieldType.int), 2, 44),
   (2, ⟨"EnvyRust$Town", "ownedBy", "(I)I"⟩, prog_4_method_13_code, 4, (some FieldType.int), 0, 0),
   (3, ⟨"EnvyRust", "change", "(III)I"⟩, prog_1_method_8_code, 5, (some FieldType.int), 2, 44),
   (3, ⟨"EnvyRust", "changeable", "(II)Z"⟩, prog_1_method_9_code, 2, (some FieldType.boolean), 1, 22),
   (3, ⟨"EnvyRust", "envy", "(II)I"⟩, prog_1_method_10_code, 3, (some FieldType.int), 3, 73),
   (3, ⟨"EnvyRust", "go", "(I)I"⟩, prog_1_method_11_code, 2, (some FieldType.int), 5, 120),
   (2, ⟨"EnvyRust$Town", "passDays", "(I)V"⟩, prog_4_method_15_code, 4, (none), 4, 97),
   (2, ⟨"EnvyRust$Town", "fallAll", "()V"⟩, prog_4_method_16_code, 5, (none), 1, 21)],
  [(2, ⟨"EnvyRust$Town", "isGone", "(I)Z"⟩, prog_4_method_9_code, 2, (some FieldType.boolean), 0, 0),
   (2, ⟨"EnvyRust$Town", "walkAll", "()V"⟩, prog_4_method_17_code, 2, (none), 1, 21),
   (3, ⟨"EnvyRust", "onward", "(II)I"⟩, prog_1_method_70_code, 2, (some FieldType.int), 0, 0),
   (2, ⟨"EnvyRust$Town", "goneSet", "()I"⟩, prog_4_method_19_code, 3, (some FieldType.int), 1, 21),
   (6, ⟨"java/lang/Integer", "bitCount", "(I)I"⟩, prog_7_method_49_code, 1, (some FieldType.int), 0, 0),
   (3, ⟨"EnvyRust", "now", "(I)I"⟩, prog_1_method_12_code, 2, (some FieldType.int), 5, 119),
   (2, ⟨"EnvyRust$Town", "allThick", "()I"⟩, prog_4_method_20_code, 3, (some FieldType.int), 0, 0),
   (2, ⟨"EnvyRust$Town", "allWear", "()I"⟩, prog_4_method_21_code, 3, (some FieldType.int), 4, 97),
   (2, ⟨"EnvyRust$Town", "visited", "()I"⟩, prog_4_method_22_code, 4, (some FieldType.int), 1, 21),
   (3, ⟨"EnvyRust", "ahead", "(II)I"⟩, prog_1_method_13_code, 3, (some FieldType.int), 5, 120),
   (3, ⟨"EnvyRust", "startTrial", "()V"⟩, prog_1_method_29_code, 1, (none), 2, 52),
   (2, ⟨"EnvyRust$Town", "become", "(LEnvyRust$Town;)V"⟩, prog_4_method_2_code, 3, (none), 1, 30),
   (3, ⟨"EnvyRust", "lasts", "(I)I"⟩, prog_1_method_14_code, 3, (some FieldType.int), 5, 120),
   (3, ⟨"EnvyRust", "gone", "(I)I"⟩, prog_1_method_15_code, 2, (some FieldType.int), 5, 120),
   (3, ⟨"EnvyRust", "worn", "(I)I"⟩, prog_1_method_16_code, 2, (some FieldType.int), 5, 120),
   (3, ⟨"EnvyRust", "sees", "(II)I"⟩, prog_1_method_17_code, 7, (some FieldType.int), 2, 44)],
  [(3, ⟨"EnvyRust", "kindFor", "(II)I"⟩, prog_1_method_18_code, 3, (some FieldType.int), 6, 148),
   (3, ⟨"EnvyRust", "sparingFor", "(IIII)I"⟩, prog_1_method_20_code, 9, (some FieldType.int), 5, 120),
   (3, ⟨"EnvyRust", "walkFor", "(II)I"⟩, prog_1_method_19_code, 3, (some FieldType.int), 6, 148),
   (3, ⟨"EnvyRust", "placeFor", "(II)I"⟩, prog_1_method_21_code, 3, (some FieldType.int), 6, 148),
   (3, ⟨"EnvyRust", "thickestFor", "(IIII)I"⟩, prog_1_method_23_code, 9, (some FieldType.int), 5, 120),
   (3, ⟨"EnvyRust", "ownerFor", "(II)I"⟩, prog_1_method_22_code, 3, (some FieldType.int), 6, 148),
   (3, ⟨"EnvyRust", "worst", "(I)I"⟩, prog_1_method_24_code, 6, (some FieldType.int), 5, 120),
   (3, ⟨"EnvyRust", "paint", "(II)I"⟩, prog_1_method_25_code, 8, (some FieldType.int), 6, 144),
   (3, ⟨"EnvyRust", "wearAlone", "(II[I)V"⟩, prog_1_method_26_code, 5, (none), 5, 120),
   (2, ⟨"EnvyRust$Town", "allThings", "()I"⟩, prog_4_method_5_code, 1, (some FieldType.int), 0, 0),
   (3, ⟨"EnvyRust", "leftPainted", "(I)I"⟩, prog_1_method_27_code, 3, (some FieldType.int), 2, 45),
   (3, ⟨"EnvyRust", "needs", "(II)I"⟩, prog_1_method_28_code, 4, (some FieldType.int), 5, 120),
   (3, ⟨"EnvyRust", "fallsWith", "(I)I"⟩, prog_1_method_30_code, 2, (some FieldType.int), 2, 47),
   (3, ⟨"EnvyRust", "depth", "(I)I"⟩, prog_1_method_31_code, 2, (some FieldType.int), 2, 44),
   (2, ⟨"EnvyRust$Town", "hangingDepth", "(I)I"⟩, prog_4_method_25_code, 4, (some FieldType.int), 0, 0),
   (3, ⟨"EnvyRust", "keystone", "()I"⟩, prog_1_method_32_code, 5, (some FieldType.int), 2, 47)],
  [(3, ⟨"EnvyRust", "fells", "()I"⟩, prog_1_method_33_code, 3, (some FieldType.int), 0, 0),
   (3, ⟨"EnvyRust", "worth", "(II)I"⟩, prog_1_method_34_code, 3, (some FieldType.int), 3, 74),
   (2, ⟨"EnvyRust$Town", "isSet", "(I)Z"⟩, prog_4_method_6_code, 2, (some FieldType.boolean), 1, 22),
   (2, ⟨"EnvyRust$Town", "worthOf", "(II)I"⟩, prog_4_method_12_code, 5, (some FieldType.int), 2, 50),
   (3, ⟨"EnvyRust", "deal", "(III)I"⟩, prog_1_method_35_code, 5, (some FieldType.int), 4, 98),
   (3, ⟨"EnvyRust", "canDeal", "(III)Z"⟩, prog_1_method_38_code, 4, (some FieldType.boolean), 2, 43),
   (3, ⟨"EnvyRust", "isPart", "(II)Z"⟩, prog_1_method_69_code, 2, (some FieldType.boolean), 0, 0),
   (3, ⟨"EnvyRust", "leavesNoEnvy", "(IIII)Z"⟩, prog_1_method_39_code, 5, (some FieldType.boolean), 3, 74),
   (3, ⟨"EnvyRust", "deals", "(III)I"⟩, prog_1_method_36_code, 6, (some FieldType.int), 4, 98),
   (3, ⟨"EnvyRust", "lesser", "(III)I"⟩, prog_1_method_37_code, 8, (some FieldType.int), 3, 74),
   (3, ⟨"EnvyRust", "envious", "()I"⟩, prog_1_method_40_code, 5, (some FieldType.int), 3, 74),
   (3, ⟨"EnvyRust", "fits", "(III)I"⟩, prog_1_method_41_code, 7, (some FieldType.int), 6, 145),
   (3, ⟨"EnvyRust", "findingOfFit", "(III)I"⟩, prog_1_method_43_code, 5, (some FieldType.int), 3, 63),
   (3, ⟨"EnvyRust", "findingOfSheet", "(I)I"⟩, prog_1_method_60_code, 2, (some FieldType.int), 2, 42),
   (3, ⟨"EnvyRust", "isSheet", "(I)Z"⟩, prog_1_method_59_code, 1, (some FieldType.boolean), 1, 22),
   (0, ⟨"EnvyRust$Sheet", "isMissing", "()Z"⟩, prog_2_method_2_code, 1, (some FieldType.boolean), 0, 0)],
  [(3, ⟨"EnvyRust", "fitsWith", "(LEnvyRust$Sheet;III)Z"⟩, prog_1_method_44_code, 6, (some FieldType.boolean), 5, 120),
   (3, ⟨"EnvyRust", "likes", "(III)I"⟩, prog_1_method_42_code, 6, (some FieldType.int), 6, 145),
   (3, ⟨"EnvyRust", "strolls", "(I)I"⟩, prog_1_method_45_code, 4, (some FieldType.int), 5, 120),
   (2, ⟨"EnvyRust$Town", "scatter", "()V"⟩, prog_4_method_18_code, 2, (none), 0, 0),
   (3, ⟨"EnvyRust", "odds", "(II)J"⟩, prog_1_method_46_code, 8, (some FieldType.long), 2, 44),
   (2, ⟨"EnvyRust$Town", "placesOfThings", "()I"⟩, prog_4_method_23_code, 3, (some FieldType.int), 0, 0),
   (3, ⟨"EnvyRust", "seed", "(I)I"⟩, prog_1_method_47_code, 3, (some FieldType.int), 0, 0),
   (3, ⟨"EnvyRust", "feed", "(II)I"⟩, prog_1_method_48_code, 4, (some FieldType.int), 2, 44),
   (1, ⟨"EnvyRust$TextReader", "put", "(B)V"⟩, prog_3_method_2_code, 2, (none), 0, 0),
   (3, ⟨"EnvyRust", "wipe", "()I"⟩, prog_1_method_49_code, 2, (some FieldType.int), 0, 0),
   (3, ⟨"EnvyRust", "text", "()I"⟩, prog_1_method_50_code, 4, (some FieldType.int), 9, 218),
   (1, ⟨"EnvyRust$TextReader", "readInto", "(LEnvyRust$Town;)I"⟩, prog_3_method_3_code, 5, (some FieldType.int), 8, 194),
   (1, ⟨"EnvyRust$TextReader", "advance", "()V"⟩, prog_3_method_12_code, 1, (none), 1, 21),
   (1, ⟨"EnvyRust$TextReader", "isLetter", "(B)Z"⟩, prog_3_method_13_code, 1, (some FieldType.boolean), 0, 0),
   (1, ⟨"EnvyRust$TextReader", "isDigit", "(B)Z"⟩, prog_3_method_14_code, 1, (some FieldType.boolean), 0, 0),
   (1, ⟨"EnvyRust$TextReader", "kindTold", "()I"⟩, prog_3_method_9_code, 2, (some FieldType.int), 6, 143)],
  [(1, ⟨"EnvyRust$TextReader", "wordOfKind", "(I)Ljava/lang/String;"⟩, prog_3_method_10_code, 1, (some (FieldType.object "java/lang/String")), 0, 0),
   (1, ⟨"EnvyRust$TextReader", "isWord", "(Ljava/lang/String;)Z"⟩, prog_3_method_11_code, 3, (some FieldType.boolean), 5, 121),
   (8, ⟨"java/lang/String", "length", "()I"⟩, prog_9_method_54_code, 1, (some FieldType.int), 0, 0),
   (8, ⟨"java/lang/String", "coder", "()B"⟩, prog_9_method_152_code, 1, (some FieldType.byte), 0, 0),
   (8, ⟨"java/lang/String", "charAt", "(I)C"⟩, prog_9_method_56_code, 2, (some FieldType.char), 0, 0),
   (8, ⟨"java/lang/String", "isLatin1", "()Z"⟩, prog_9_method_154_code, 1, (some FieldType.boolean), 0, 0),
   (9, ⟨"java/lang/StringLatin1", "charAt", "([BI)C"⟩, prog_10_method_2_code, 2, (some FieldType.char), 0, 0),
   (8, ⟨"java/lang/String", "checkIndex", "(II)V"⟩, prog_9_method_155_code, 2, (none), 0, 0),
   (11, ⟨"jdk/internal/util/Preconditions", "checkIndex", "(IILjava/util/function/BiFunction;)I"⟩, prog_13_method_11_code, 3, (some FieldType.int), 0, 0),
   (10, ⟨"java/lang/StringUTF16", "charAt", "([BI)C"⟩, prog_11_method_83_code, 2, (some FieldType.char), 0, 0),
   (10, ⟨"java/lang/StringUTF16", "checkIndex", "(I[B)V"⟩, prog_11_method_91_code, 2, (none), 0, 0),
   (10, ⟨"java/lang/StringUTF16", "length", "([B)I"⟩, prog_11_method_6_code, 1, (some FieldType.int), 0, 0),
   (10, ⟨"java/lang/StringUTF16", "getChar", "([BI)C"⟩, prog_11_method_5_code, 2, (some FieldType.char), 0, 0),
   (1, ⟨"EnvyRust$TextReader", "readPerson", "(LEnvyRust$Town;I)V"⟩, prog_3_method_4_code, 7, (none), 7, 166),
   (1, ⟨"EnvyRust$TextReader", "readPerhaps", "(Ljava/lang/String;II)I"⟩, prog_3_method_6_code, 4, (some FieldType.int), 6, 143),
   (1, ⟨"EnvyRust$TextReader", "readNumber", "(I)I"⟩, prog_3_method_7_code, 3, (some FieldType.int), 2, 41)],
  [(1, ⟨"EnvyRust$TextReader", "fail", "()V"⟩, prog_3_method_8_code, 1, (none), 0, 0),
   (1, ⟨"EnvyRust$TextReader", "readThing", "(LEnvyRust$Town;)V"⟩, prog_3_method_5_code, 9, (none), 7, 166),
   (3, ⟨"EnvyRust", "hold", "(II)I"⟩, prog_1_method_51_code, 3, (some FieldType.int), 2, 44),
   (3, ⟨"EnvyRust", "as", "(II)I"⟩, prog_1_method_52_code, 4, (some FieldType.int), 2, 44),
   (3, ⟨"EnvyRust", "sheet", "(III)I"⟩, prog_1_method_53_code, 4, (some FieldType.int), 2, 44),
   (0, ⟨"EnvyRust$Sheet", "lay", "(II)V"⟩, prog_2_method_3_code, 4, (none), 0, 0),
   (3, ⟨"EnvyRust", "write", "(III)I"⟩, prog_1_method_54_code, 5, (some FieldType.int), 3, 63),
   (0, ⟨"EnvyRust$Sheet", "put", "(II)V"⟩, prog_2_method_4_code, 3, (none), 0, 0),
   (3, ⟨"EnvyRust", "copy", "(IIIII)I"⟩, prog_1_method_55_code, 6, (some FieldType.int), 2, 44),
   (0, ⟨"EnvyRust$Sheet", "has", "(II)Z"⟩, prog_2_method_5_code, 3, (some FieldType.boolean), 0, 0),
   (3, ⟨"EnvyRust", "load", "(I)I"⟩, prog_1_method_56_code, 6, (some FieldType.int), 3, 63),
   (3, ⟨"EnvyRust", "judge", "(I)I"⟩, prog_1_method_57_code, 4, (some FieldType.int), 3, 67),
   (3, ⟨"EnvyRust", "isLink", "(LEnvyRust$Sheet;I)Z"⟩, prog_1_method_58_code, 5, (some FieldType.boolean), 2, 43),
   (3, ⟨"EnvyRust", "image", "()I"⟩, prog_1_method_61_code, 1, (some FieldType.int), 2, 52),
   (3, ⟨"EnvyRust", "undo", "()I"⟩, prog_1_method_62_code, 1, (some FieldType.int), 2, 52),
   (3, ⟨"EnvyRust", "tear", "()I"⟩, prog_1_method_63_code, 2, (some FieldType.int), 0, 0)],
  [(3, ⟨"EnvyRust", "count", "(I)I"⟩, prog_1_method_64_code, 2, (some FieldType.int), 2, 44),
   (2, ⟨"EnvyRust$Town", "heldSpots", "()I"⟩, prog_4_method_26_code, 3, (some FieldType.int), 0, 0),
   (3, ⟨"EnvyRust", "status", "(I)I"⟩, prog_1_method_65_code, 4, (some FieldType.int), 2, 44),
   (4, ⟨"EnvyRustModel", "<init>", "()V"⟩, prog_6_method_1_code, 2, (none), 1, 20),
   (4, ⟨"EnvyRustModel", "thing", "(II)I"⟩, prog_6_method_21_code, 3, (some FieldType.int), 2, 48),
   (4, ⟨"EnvyRustModel", "within", "(III)Z"⟩, prog_6_method_3_code, 3, (some FieldType.boolean), 0, 0),
   (4, ⟨"EnvyRustModel", "isPlace", "(I)Z"⟩, prog_6_method_12_code, 1, (some FieldType.boolean), 1, 22),
   (4, ⟨"EnvyRustModel", "finding", "(I)I"⟩, prog_6_method_2_code, 2, (some FieldType.int), 0, 0),
   (4, ⟨"EnvyRustModel", "comes", "(IIIIII)I"⟩, prog_6_method_20_code, 8, (some FieldType.int), 1, 21),
   (4, ⟨"EnvyRustModel", "at", "(II)I"⟩, prog_6_method_16_code, 2, (some FieldType.int), 0, 0),
   (4, ⟨"EnvyRustModel", "thingOf", "(II)I"⟩, prog_6_method_28_code, 3, (some FieldType.int), 6, 135),
   (4, ⟨"EnvyRustModel", "isThing", "(I)Z"⟩, prog_6_method_10_code, 2, (some FieldType.boolean), 1, 22),
   (4, ⟨"EnvyRustModel", "wornNow", "(I)I"⟩, prog_6_method_27_code, 4, (some FieldType.int), 5, 112),
   (4, ⟨"EnvyRustModel", "personIs", "(II)I"⟩, prog_6_method_19_code, 3, (some FieldType.int), 1, 21),
   (4, ⟨"EnvyRustModel", "by", "(II)I"⟩, prog_6_method_18_code, 2, (some FieldType.int), 0, 0),
   (4, ⟨"EnvyRustModel", "thingIs", "(II)I"⟩, prog_6_method_17_code, 3, (some FieldType.int), 1, 21)],
  [(4, ⟨"EnvyRustModel", "envyOf", "(II)I"⟩, prog_6_method_26_code, 3, (some FieldType.int), 4, 90),
   (4, ⟨"EnvyRustModel", "envyIf", "(III)I"⟩, prog_6_method_25_code, 7, (some FieldType.int), 3, 64),
   (4, ⟨"EnvyRustModel", "isGone", "(I)Z"⟩, prog_6_method_24_code, 2, (some FieldType.boolean), 2, 43),
   (4, ⟨"EnvyRustModel", "isUnder", "(II)Z"⟩, prog_6_method_23_code, 3, (some FieldType.boolean), 1, 20),
   (4, ⟨"EnvyRustModel", "above", "(I)I"⟩, prog_6_method_22_code, 1, (some FieldType.int), 0, 0),
   (4, ⟨"EnvyRustModel", "forge", "(III)I"⟩, prog_6_method_31_code, 4, (some FieldType.int), 3, 66),
   (4, ⟨"EnvyRustModel", "mayForge", "(III)Z"⟩, prog_6_method_29_code, 4, (some FieldType.boolean), 2, 43),
   (4, ⟨"EnvyRustModel", "isThick", "(I)Z"⟩, prog_6_method_14_code, 1, (some FieldType.boolean), 1, 22),
   (4, ⟨"EnvyRustModel", "isDigit", "(I)Z"⟩, prog_6_method_15_code, 1, (some FieldType.boolean), 1, 22),
   (4, ⟨"EnvyRustModel", "isPerson", "(I)Z"⟩, prog_6_method_11_code, 2, (some FieldType.boolean), 1, 22),
   (4, ⟨"EnvyRustModel", "hangsOn", "(II)Z"⟩, prog_6_method_30_code, 4, (some FieldType.boolean), 2, 43),
   (4, ⟨"EnvyRustModel", "become", "(II)I"⟩, prog_6_method_4_code, 4, (some FieldType.int), 0, 0),
   (4, ⟨"EnvyRustModel", "person", "(II)I"⟩, prog_6_method_33_code, 3, (some FieldType.int), 2, 46),
   (4, ⟨"EnvyRustModel", "isKind", "(I)Z"⟩, prog_6_method_13_code, 1, (some FieldType.boolean), 1, 22),
   (4, ⟨"EnvyRustModel", "joins", "(III)I"⟩, prog_6_method_32_code, 6, (some FieldType.int), 1, 21),
   (4, ⟨"EnvyRustModel", "of", "(II)I"⟩, prog_6_method_35_code, 3, (some FieldType.int), 3, 66)],
  [(4, ⟨"EnvyRustModel", "ownedBy", "(I)I"⟩, prog_6_method_34_code, 4, (some FieldType.int), 2, 43),
   (4, ⟨"EnvyRustModel", "change", "(III)I"⟩, prog_6_method_36_code, 5, (some FieldType.int), 2, 43),
   (4, ⟨"EnvyRustModel", "envy", "(II)I"⟩, prog_6_method_37_code, 3, (some FieldType.int), 5, 112),
   (4, ⟨"EnvyRustModel", "go", "(I)I"⟩, prog_6_method_43_code, 2, (some FieldType.int), 8, 179),
   (4, ⟨"EnvyRustModel", "days", "(I)V"⟩, prog_6_method_40_code, 3, (none), 7, 157),
   (4, ⟨"EnvyRustModel", "day", "()V"⟩, prog_6_method_39_code, 3, (none), 6, 135),
   (4, ⟨"EnvyRustModel", "falls", "()Z"⟩, prog_6_method_38_code, 3, (some FieldType.boolean), 3, 64),
   (4, ⟨"EnvyRustModel", "goneNow", "()I"⟩, prog_6_method_41_code, 3, (some FieldType.int), 3, 64),
   (4, ⟨"EnvyRustModel", "bits", "(I)I"⟩, prog_6_method_9_code, 3, (some FieldType.int), 0, 0),
   (4, ⟨"EnvyRustModel", "now", "(I)I"⟩, prog_6_method_45_code, 4, (some FieldType.int), 6, 135),
   (4, ⟨"EnvyRustModel", "thickNow", "()I"⟩, prog_6_method_42_code, 3, (some FieldType.int), 2, 43),
   (4, ⟨"EnvyRustModel", "isSomebodyAt", "(I)Z"⟩, prog_6_method_44_code, 4, (some FieldType.boolean), 2, 43),
   (4, ⟨"EnvyRustModel", "ahead", "(II)I"⟩, prog_6_method_47_code, 3, (some FieldType.int), 9, 201),
   (4, ⟨"EnvyRustModel", "thickBehind", "(II)I"⟩, prog_6_method_46_code, 3, (some FieldType.int), 8, 179),
   (4, ⟨"EnvyRustModel", "copyRow", "([I[I)V"⟩, prog_6_method_5_code, 3, (none), 0, 0),
   (4, ⟨"EnvyRustModel", "putBack", "(I)I"⟩, prog_6_method_6_code, 2, (some FieldType.int), 1, 22)],
  [(4, ⟨"EnvyRustModel", "lasts", "(I)I"⟩, prog_6_method_48_code, 3, (some FieldType.int), 7, 157),
   (4, ⟨"EnvyRustModel", "orNone", "(I)I"⟩, prog_6_method_7_code, 2, (some FieldType.int), 1, 21),
   (4, ⟨"EnvyRustModel", "gone", "(I)I"⟩, prog_6_method_49_code, 2, (some FieldType.int), 8, 179),
   (4, ⟨"EnvyRustModel", "worn", "(I)I"⟩, prog_6_method_51_code, 2, (some FieldType.int), 9, 201),
   (4, ⟨"EnvyRustModel", "lostIn", "(I)I"⟩, prog_6_method_50_code, 3, (some FieldType.int), 8, 179),
   (4, ⟨"EnvyRustModel", "sees", "(II)I"⟩, prog_6_method_52_code, 5, (some FieldType.int), 2, 43),
   (4, ⟨"EnvyRustModel", "kindFor", "(II)I"⟩, prog_6_method_54_code, 3, (some FieldType.int), 10, 229),
   (4, ⟨"EnvyRustModel", "leastLoss", "(III)I"⟩, prog_6_method_53_code, 9, (some FieldType.int), 9, 201),
   (4, ⟨"EnvyRustModel", "walkFor", "(II)I"⟩, prog_6_method_55_code, 3, (some FieldType.int), 10, 229),
   (4, ⟨"EnvyRustModel", "placeFor", "(II)I"⟩, prog_6_method_57_code, 3, (some FieldType.int), 10, 230),
   (4, ⟨"EnvyRustModel", "thickest", "(IIII)I"⟩, prog_6_method_56_code, 10, (some FieldType.int), 9, 201),
   (4, ⟨"EnvyRustModel", "ownerFor", "(II)I"⟩, prog_6_method_58_code, 3, (some FieldType.int), 10, 230),
   (4, ⟨"EnvyRustModel", "worst", "(I)I"⟩, prog_6_method_59_code, 6, (some FieldType.int), 9, 201),
   (4, ⟨"EnvyRustModel", "paint", "(II)I"⟩, prog_6_method_61_code, 8, (some FieldType.int), 10, 225),
   (4, ⟨"EnvyRustModel", "lostPainted", "(II)I"⟩, prog_6_method_60_code, 5, (some FieldType.int), 9, 201),
   (4, ⟨"EnvyRustModel", "has", "(II)Z"⟩, prog_6_method_8_code, 2, (some FieldType.boolean), 0, 0)],
  [(4, ⟨"EnvyRustModel", "needs", "(II)I"⟩, prog_6_method_62_code, 6, (some FieldType.int), 9, 201),
   (4, ⟨"EnvyRustModel", "fallsWith", "(I)I"⟩, prog_6_method_64_code, 2, (some FieldType.int), 4, 89),
   (4, ⟨"EnvyRustModel", "fallWith", "(I)I"⟩, prog_6_method_63_code, 4, (some FieldType.int), 3, 66),
   (4, ⟨"EnvyRustModel", "depth", "(I)I"⟩, prog_6_method_65_code, 4, (some FieldType.int), 2, 43),
   (4, ⟨"EnvyRustModel", "keystone", "()I"⟩, prog_6_method_66_code, 5, (some FieldType.int), 4, 89),
   (4, ⟨"EnvyRustModel", "fells", "()I"⟩, prog_6_method_67_code, 3, (some FieldType.int), 2, 43),
   (4, ⟨"EnvyRustModel", "worth", "(II)I"⟩, prog_6_method_70_code, 3, (some FieldType.int), 5, 114),
   (4, ⟨"EnvyRustModel", "areThings", "(I)Z"⟩, prog_6_method_69_code, 2, (some FieldType.boolean), 1, 22),
   (4, ⟨"EnvyRustModel", "worthOf", "(II)I"⟩, prog_6_method_68_code, 5, (some FieldType.int), 4, 90),
   (4, ⟨"EnvyRustModel", "deal", "(III)I"⟩, prog_6_method_74_code, 6, (some FieldType.int), 6, 138),
   (4, ⟨"EnvyRustModel", "isPair", "(III)Z"⟩, prog_6_method_71_code, 4, (some FieldType.boolean), 2, 43),
   (4, ⟨"EnvyRustModel", "isDeal", "(IIII)Z"⟩, prog_6_method_72_code, 5, (some FieldType.boolean), 5, 114),
   (4, ⟨"EnvyRustModel", "deals", "(III)I"⟩, prog_6_method_75_code, 4, (some FieldType.int), 7, 163),
   (4, ⟨"EnvyRustModel", "dealsOf", "(III)I"⟩, prog_6_method_73_code, 6, (some FieldType.int), 6, 138),
   (4, ⟨"EnvyRustModel", "lesser", "(III)I"⟩, prog_6_method_76_code, 8, (some FieldType.int), 5, 114),
   (4, ⟨"EnvyRustModel", "envious", "()I"⟩, prog_6_method_77_code, 4, (some FieldType.int), 5, 114)],
  [(4, ⟨"EnvyRustModel", "fits", "(III)I"⟩, prog_6_method_81_code, 4, (some FieldType.int), 9, 209),
   (4, ⟨"EnvyRustModel", "lacks", "(I)I"⟩, prog_6_method_78_code, 2, (some FieldType.int), 2, 42),
   (4, ⟨"EnvyRustModel", "isSheet", "(I)Z"⟩, prog_6_method_103_code, 1, (some FieldType.boolean), 1, 22),
   (4, ⟨"EnvyRustModel", "fitting", "(III)I"⟩, prog_6_method_80_code, 8, (some FieldType.int), 8, 182),
   (4, ⟨"EnvyRustModel", "isWornSo", "(II)Z"⟩, prog_6_method_79_code, 6, (some FieldType.boolean), 7, 157),
   (4, ⟨"EnvyRustModel", "likes", "(III)I"⟩, prog_6_method_82_code, 6, (some FieldType.int), 9, 209),
   (4, ⟨"EnvyRustModel", "strolls", "(I)I"⟩, prog_6_method_84_code, 5, (some FieldType.int), 7, 157),
   (4, ⟨"EnvyRustModel", "drawn", "()I"⟩, prog_6_method_83_code, 1, (some FieldType.int), 0, 0),
   (4, ⟨"EnvyRustModel", "odds", "(II)J"⟩, prog_6_method_85_code, 9, (some FieldType.long), 2, 43),
   (4, ⟨"EnvyRustModel", "seed", "(I)I"⟩, prog_6_method_86_code, 2, (some FieldType.int), 1, 23),
   (4, ⟨"EnvyRustModel", "feed", "(II)I"⟩, prog_6_method_87_code, 4, (some FieldType.int), 1, 22),
   (4, ⟨"EnvyRustModel", "wipe", "()I"⟩, prog_6_method_88_code, 2, (some FieldType.int), 0, 0),
   (4, ⟨"EnvyRustModel", "text", "()I"⟩, prog_6_method_99_code, 3, (some FieldType.int), 8, 195),
   (4, ⟨"EnvyRustModel", "next", "()V"⟩, prog_6_method_90_code, 2, (none), 1, 22),
   (4, ⟨"EnvyRustModel", "byteAt", "(I)I"⟩, prog_6_method_89_code, 2, (some FieldType.int), 0, 0),
   (4, ⟨"EnvyRustModel", "readItem", "()V"⟩, prog_6_method_97_code, 8, (none), 7, 168)],
  [(4, ⟨"EnvyRustModel", "kindTold", "()I"⟩, prog_6_method_95_code, 3, (some FieldType.int), 6, 144),
   (4, ⟨"EnvyRustModel", "isWord", "(Ljava/lang/String;)Z"⟩, prog_6_method_91_code, 4, (some FieldType.boolean), 5, 121),
   (4, ⟨"EnvyRustModel", "must", "(Z)V"⟩, prog_6_method_92_code, 2, (none), 2, 43),
   (4, ⟨"EnvyRustModel", "afterWord", "(Ljava/lang/String;III)I"⟩, prog_6_method_96_code, 5, (some FieldType.int), 6, 144),
   (4, ⟨"EnvyRustModel", "number", "(II)I"⟩, prog_6_method_93_code, 4, (some FieldType.int), 3, 64),
   (4, ⟨"EnvyRustModel", "item", "(IIIIIII)V"⟩, prog_6_method_94_code, 9, (none), 0, 0),
   (4, ⟨"EnvyRustModel", "isToldSo", "(I)I"⟩, prog_6_method_98_code, 4, (some FieldType.int), 2, 48),
   (4, ⟨"EnvyRustModel", "hold", "(II)I"⟩, prog_6_method_101_code, 3, (some FieldType.int), 2, 43),
   (4, ⟨"EnvyRustModel", "isSpot", "(I)Z"⟩, prog_6_method_100_code, 1, (some FieldType.boolean), 1, 22),
   (4, ⟨"EnvyRustModel", "as", "(II)I"⟩, prog_6_method_102_code, 4, (some FieldType.int), 2, 43),
   (4, ⟨"EnvyRustModel", "sheet", "(III)I"⟩, prog_6_method_105_code, 5, (some FieldType.int), 2, 42),
   (4, ⟨"EnvyRustModel", "write", "(III)I"⟩, prog_6_method_106_code, 4, (some FieldType.int), 2, 42),
   (4, ⟨"EnvyRustModel", "cutTo", "(II)I"⟩, prog_6_method_104_code, 2, (some FieldType.int), 0, 0),
   (4, ⟨"EnvyRustModel", "copy", "(IIIII)I"⟩, prog_6_method_107_code, 7, (some FieldType.int), 2, 42),
   (4, ⟨"EnvyRustModel", "load", "(I)I"⟩, prog_6_method_108_code, 3, (some FieldType.int), 3, 63),
   (4, ⟨"EnvyRustModel", "judge", "(I)I"⟩, prog_6_method_109_code, 5, (some FieldType.int), 3, 63)],
  [(4, ⟨"EnvyRustModel", "image", "()I"⟩, prog_6_method_110_code, 1, (some FieldType.int), 1, 22),
   (4, ⟨"EnvyRustModel", "undo", "()I"⟩, prog_6_method_111_code, 1, (some FieldType.int), 1, 22),
   (4, ⟨"EnvyRustModel", "tear", "()I"⟩, prog_6_method_112_code, 2, (some FieldType.int), 0, 0),
   (4, ⟨"EnvyRustModel", "count", "(I)I"⟩, prog_6_method_113_code, 4, (some FieldType.int), 4, 86),
   (4, ⟨"EnvyRustModel", "status", "(I)I"⟩, prog_6_method_114_code, 2, (some FieldType.int), 1, 22),
   (5, x, code, 4, ret, 11, 252)]]
noncomputable def mMet (i : Nat) : Option mRow := (mMs[i / 16]?).bind fun l => l[i % 16]?
noncomputable def mCode (i : Nat) : Option (List (List (Option mEnt))) := (mKs[i / 16]?).bind fun l => l[i % 16]?
noncomputable def mFetch (i pc : Nat) : Option mEnt := (mCode i).bind fun k => (k[pc / 32]?).bind fun l => (l[pc % 32]?).bind id
noncomputable def mLT : List mLnk := [(5, 7, 4, 3, 0, 0),
  (5, 9, 14, 0, 1, 0),
  (3, 1, 20, 0, 0, 0),
  (3, 7, 4, 2, 0, 0),
  (3, 9, 15, 2, 1, 0),
  (2, 3, 20, 0, 0, 0),
  (2, 11, 6, 3, 0, 0),
  (2, 13, 0, 2, 0, 0),
  (3, 75, 1, 2, 0, 0),
  (1, 99, 1, 2, 0, 0),
  (2, 16, 0, 2, 1, 0),
  (1, 78, 1, 2, 1, 0),
  (3, 102, 1, 2, 1, 0),
  (2, 19, 0, 2, 2, 0),
  (3, 244, 1, 2, 2, 0),
  (2, 23, 0, 2, 3, 0),
  (3, 59, 1, 2, 3, 0),
  (1, 56, 1, 2, 3, 0),
  (2, 27, 0, 2, 4, 0),
  (1, 41, 1, 2, 4, 0),
  (3, 93, 1, 2, 4, 0),
  (2, 30, 0, 2, 5, 0),
  (3, 111, 1, 2, 5, 0),
  (2, 33, 0, 2, 6, 0),
  (3, 227, 1, 2, 6, 0),
  (2, 36, 0, 2, 7, 0),
  (3, 154, 1, 2, 7, 0),
  (3, 22, 4, 1, 0, 0),
  (3, 24, 15, 3, 1, 0),
  (1, 3, 20, 0, 0, 0),
  (1, 9, 0, 1, 0, 0),
  (1, 15, 0, 1, 1, 0),
  (3, 230, 1, 1, 1, 0),
  (1, 19, 0, 1, 2, 0),
  (1, 22, 0, 1, 3, 0),
  (1, 25, 0, 1, 4, 0),
  (1, 28, 0, 1, 5, 0),
  (1, 31, 0, 1, 6, 0),
  (3, 241, 1, 1, 6, 0),
  (3, 29, 5, 2, 0, 0),
  (3, 29, 4, 0, 0, 0),
  (3, 49, 15, 4, 1, 0),
  (0, 3, 20, 0, 0, 0),
  (0, 9, 0, 0, 0, 0),
  (3, 218, 1, 0, 0, 0),
  (0, 15, 0, 0, 1, 0),
  (3, 266, 1, 0, 1, 0),
  (0, 19, 0, 0, 2, 0),
  (3, 215, 1, 0, 2, 0),
  (3, 10, 0, 3, 0, 0),
  (3, 16, 0, 3, 1, 0),
  (3, 19, 0, 3, 2, 0),
  (3, 25, 0, 3, 3, 0),
  (3, 31, 0, 3, 4, 0),
  (3, 35, 0, 3, 5, 0),
  (3, 39, 0, 3, 6, 0),
  (3, 43, 0, 3, 7, 0),
  (3, 46, 0, 3, 8, 0),
  (5, 13, 10, 5, 3, 0),
  (3, 50, 12, 6, 3, 0),
  (3, 54, 2, 0, 0, (-1000001)),
  (3, 55, 10, 7, 2, 0),
  (3, 63, 2, 0, 0, (-1000002)),
  (3, 64, 11, 8, 3, 0),
  (5, 18, 10, 9, 3, 0),
  (3, 68, 11, 10, 2, 0),
  (2, 45, 13, 6, 3, 0),
  (3, 72, 11, 11, 2, 0),
  (2, 70, 10, 12, 3, 0),
  (2, 53, 10, 13, 4, 0),
  (2, 57, 13, 14, 2, 0),
  (3, 279, 7, 0, 0, 0),
  (2, 61, 24, 0, 0, 0),
  (2, 73, 25, 0, 0, 0),
  (5, 22, 10, 17, 4, 0),
  (3, 79, 10, 18, 4, 0),
  (3, 90, 11, 19, 2, 0),
  (3, 82, 11, 20, 2, 0),
  (2, 67, 13, 21, 2, 0),
  (3, 85, 12, 21, 2, 0),
  (3, 89, 2, 0, 0, (-1000005)),
  (5, 27, 10, 22, 3, 0),
  (3, 96, 11, 23, 3, 0),
  (5, 31, 10, 24, 3, 0),
  (3, 99, 11, 25, 2, 0),
  (5, 35, 10, 26, 4, 0),
  (3, 105, 12, 27, 2, 0),
  (5, 39, 10, 28, 3, 0),
  (3, 108, 11, 12, 3, 0),
  (5, 43, 10, 29, 2, 0),
  (3, 114, 2, 0, 0, 99999),
  (3, 115, 11, 30, 2, 0),
  (2, 76, 10, 11, 2, 0),
  (2, 80, 10, 31, 1, 0),
  (2, 86, 10, 32, 2, 0),
  (2, 83, 10, 33, 1, 0),
  (2, 90, 13, 34, 2, 0),
  (3, 119, 11, 35, 1, 0),
  (3, 123, 12, 36, 1, 0),
  (6, 265, 2, 0, 0, 1431655765),
  (6, 266, 2, 0, 0, 858993459),
  (6, 267, 2, 0, 0, 252645135),
  (5, 48, 10, 37, 2, 0),
  (3, 128, 11, 38, 1, 0),
  (3, 131, 11, 39, 1, 0),
  (3, 134, 11, 40, 1, 0),
  (5, 52, 10, 41, 3, 0),
  (3, 137, 10, 42, 1, 0),
  (3, 181, 11, 43, 2, 0),
  (2, 39, 21, 0, 0, 0),
  (5, 56, 10, 44, 2, 0),
  (3, 140, 11, 32, 2, 0),
  (3, 143, 2, 0, 0, (-1000004)),
  (5, 60, 10, 45, 2, 0),
  (5, 64, 10, 46, 2, 0),
  (5, 68, 10, 47, 3, 0),
  (3, 144, 12, 34, 2, 0),
  (5, 72, 10, 48, 3, 0),
  (3, 147, 10, 49, 5, 0),
  (5, 76, 10, 50, 3, 0),
  (5, 80, 10, 51, 3, 0),
  (3, 151, 10, 52, 5, 0),
  (5, 84, 10, 53, 3, 0),
  (5, 88, 10, 54, 2, 0),
  (5, 92, 10, 55, 3, 0),
  (3, 157, 25, 0, 0, 0),
  (3, 162, 10, 56, 4, 0),
  (3, 172, 21, 0, 0, 0),
  (3, 166, 11, 57, 1, 0),
  (3, 169, 10, 58, 2, 0),
  (3, 178, 11, 31, 1, 0),
  (5, 96, 10, 59, 3, 0),
  (5, 100, 10, 60, 2, 0),
  (5, 104, 10, 61, 2, 0),
  (3, 185, 11, 62, 2, 0),
  (5, 108, 10, 63, 1, 0),
  (5, 113, 10, 64, 1, 0),
  (5, 117, 10, 65, 3, 0),
  (3, 188, 11, 66, 2, 0),
  (2, 49, 10, 57, 1, 0),
  (3, 191, 11, 67, 3, 0),
  (5, 121, 10, 68, 4, 0),
  (3, 194, 10, 69, 4, 0),
  (3, 197, 12, 70, 2, 0),
  (3, 200, 10, 71, 5, 0),
  (5, 125, 10, 72, 4, 0),
  (5, 129, 10, 73, 4, 0),
  (5, 133, 10, 74, 1, 0),
  (5, 137, 10, 75, 4, 0),
  (3, 204, 10, 76, 4, 0),
  (3, 212, 10, 77, 2, 0),
  (3, 252, 12, 78, 1, 0),
  (3, 262, 11, 79, 1, 0),
  (3, 247, 2, 0, 0, (-1000006)),
  (3, 208, 10, 80, 5, 0),
  (5, 141, 10, 81, 4, 0),
  (5, 145, 10, 82, 2, 0),
  (3, 221, 11, 83, 1, 0),
  (2, 93, 2, 0, 0, 1103515245),
  (5, 149, 10, 84, 3, 0),
  (3, 224, 11, 85, 1, 0),
  (5, 154, 10, 86, 2, 0),
  (5, 158, 10, 87, 3, 0),
  (3, 233, 11, 88, 2, 0),
  (5, 162, 10, 89, 1, 0),
  (5, 166, 10, 90, 1, 0),
  (3, 237, 11, 91, 2, 0),
  (1, 34, 10, 92, 1, 0),
  (1, 129, 12, 93, 1, 0),
  (1, 133, 12, 94, 1, 0),
  (1, 136, 25, 0, 0, 0),
  (1, 37, 10, 95, 1, 0),
  (1, 102, 12, 96, 1, 0),
  (1, 106, 3, 0, 1, 0),
  (1, 108, 3, 0, 2, 0),
  (1, 110, 3, 0, 3, 0),
  (1, 112, 3, 0, 4, 0),
  (1, 114, 3, 0, 5, 0),
  (1, 116, 3, 0, 6, 0),
  (1, 118, 3, 0, 7, 0),
  (1, 52, 10, 97, 2, 0),
  (1, 120, 22, 0, 0, 0),
  (1, 125, 23, 0, 0, 0),
  (1, 46, 10, 109, 3, 0),
  (1, 66, 3, 0, 8, 0),
  (1, 68, 10, 110, 4, 0),
  (1, 84, 10, 111, 2, 0),
  (1, 63, 10, 112, 1, 0),
  (1, 72, 3, 0, 9, 0),
  (1, 74, 11, 23, 3, 0),
  (1, 82, 3, 0, 10, 0),
  (1, 50, 3, 0, 0, 0),
  (1, 59, 10, 113, 2, 0),
  (1, 88, 3, 0, 11, 0),
  (1, 90, 3, 0, 12, 0),
  (1, 92, 3, 0, 13, 0),
  (1, 94, 3, 0, 14, 0),
  (1, 96, 11, 8, 3, 0),
  (5, 170, 10, 114, 3, 0),
  (5, 174, 10, 115, 3, 0),
  (3, 248, 12, 14, 2, 0),
  (3, 251, 2, 0, 0, (-1000003)),
  (5, 178, 10, 116, 4, 0),
  (3, 255, 2, 0, 0, (-1000007)),
  (3, 256, 11, 117, 3, 0),
  (5, 182, 10, 118, 4, 0),
  (3, 260, 11, 119, 3, 0),
  (5, 186, 10, 120, 6, 0),
  (3, 269, 11, 121, 3, 0),
  (5, 191, 10, 122, 2, 0),
  (5, 195, 10, 123, 2, 0),
  (3, 272, 10, 124, 3, 0),
  (5, 199, 10, 125, 1, 0),
  (5, 203, 10, 126, 1, 0),
  (5, 207, 10, 127, 1, 0),
  (5, 211, 10, 128, 2, 0),
  (3, 276, 11, 129, 1, 0),
  (5, 215, 10, 130, 2, 0),
  (5, 10, 4, 4, 0, 0),
  (5, 12, 14, 131, 1, 0),
  (4, 1, 20, 0, 0, 0),
  (4, 35, 5, 4, 0, 0),
  (4, 37, 3, 0, 7, 0),
  (4, 39, 3, 0, 1, 0),
  (4, 41, 3, 0, 2, 0),
  (4, 43, 3, 0, 3, 0),
  (4, 45, 3, 0, 4, 0),
  (4, 47, 3, 0, 5, 0),
  (4, 49, 3, 0, 6, 0),
  (4, 9, 0, 4, 0, 0),
  (4, 13, 0, 4, 1, 0),
  (4, 16, 0, 4, 2, 0),
  (4, 346, 0, 4, 3, 0),
  (4, 19, 0, 4, 4, 0),
  (4, 22, 0, 4, 5, 0),
  (4, 25, 0, 4, 6, 0),
  (4, 29, 0, 4, 7, 0),
  (4, 32, 0, 4, 8, 0),
  (4, 254, 0, 4, 9, 0),
  (4, 260, 0, 4, 10, 0),
  (4, 257, 0, 4, 11, 0),
  (4, 269, 0, 4, 12, 0),
  (4, 266, 0, 4, 13, 0),
  (4, 279, 0, 4, 14, 0),
  (4, 51, 0, 4, 15, 0),
  (4, 55, 0, 4, 16, 0),
  (4, 290, 0, 4, 17, 0),
  (4, 321, 0, 4, 18, 0),
  (4, 303, 0, 4, 19, 0),
  (4, 58, 0, 4, 20, 0),
  (4, 61, 0, 4, 21, 0),
  (4, 64, 0, 4, 22, 0),
  (4, 67, 0, 4, 23, 0),
  (5, 17, 10, 132, 3, 0),
  (4, 80, 12, 133, 3, 0),
  (4, 91, 12, 134, 1, 0),
  (4, 70, 2, 0, 0, (-1000001)),
  (4, 76, 10, 135, 2, 0),
  (4, 95, 2, 0, 0, (-1000002)),
  (4, 96, 10, 136, 7, 0),
  (4, 84, 12, 137, 2, 0),
  (5, 21, 10, 138, 3, 0),
  (4, 131, 10, 139, 2, 0),
  (4, 134, 10, 140, 2, 0),
  (4, 109, 10, 141, 3, 0),
  (4, 88, 12, 142, 2, 0),
  (4, 103, 10, 143, 3, 0),
  (4, 125, 10, 144, 3, 0),
  (4, 121, 10, 145, 4, 0),
  (4, 106, 10, 146, 2, 0),
  (4, 112, 12, 147, 2, 0),
  (4, 100, 12, 148, 1, 0),
  (4, 116, 24, 0, 0, 0),
  (4, 128, 25, 0, 0, 0),
  (5, 26, 10, 149, 4, 0),
  (4, 146, 10, 150, 4, 0),
  (4, 137, 12, 151, 1, 0),
  (4, 140, 12, 152, 1, 0),
  (4, 143, 10, 153, 2, 0),
  (4, 149, 10, 154, 3, 0),
  (4, 152, 2, 0, 0, (-1000005)),
  (4, 153, 10, 155, 3, 0),
  (5, 30, 10, 156, 3, 0),
  (4, 156, 12, 157, 1, 0),
  (4, 159, 10, 158, 4, 0),
  (5, 34, 10, 159, 3, 0),
  (4, 162, 10, 160, 2, 0),
  (5, 38, 10, 161, 4, 0),
  (5, 42, 10, 162, 3, 0),
  (5, 47, 10, 163, 2, 0),
  (4, 172, 2, 0, 0, 99999),
  (4, 173, 10, 164, 2, 0),
  (4, 169, 10, 165, 1, 0),
  (4, 165, 10, 166, 1, 0),
  (4, 177, 10, 167, 1, 0),
  (4, 181, 12, 168, 1, 0),
  (5, 51, 10, 169, 2, 0),
  (4, 184, 10, 170, 1, 0),
  (4, 187, 10, 171, 2, 0),
  (5, 55, 10, 172, 3, 0),
  (4, 193, 10, 173, 3, 0),
  (4, 71, 12, 174, 2, 0),
  (4, 190, 10, 175, 2, 0),
  (5, 59, 10, 176, 2, 0),
  (4, 196, 10, 177, 2, 0),
  (4, 75, 2, 0, 0, (-1000004)),
  (5, 63, 10, 178, 2, 0),
  (5, 67, 10, 179, 2, 0),
  (4, 199, 10, 180, 2, 0),
  (5, 71, 10, 181, 3, 0),
  (5, 75, 10, 182, 3, 0),
  (4, 205, 10, 183, 4, 0),
  (4, 204, 2, 0, 0, 2147483647),
  (5, 79, 10, 184, 3, 0),
  (5, 83, 10, 185, 3, 0),
  (4, 208, 10, 186, 5, 0),
  (5, 87, 10, 187, 3, 0),
  (5, 91, 10, 188, 2, 0),
  (5, 95, 10, 189, 3, 0),
  (4, 215, 10, 190, 3, 0),
  (4, 212, 12, 191, 2, 0),
  (5, 99, 10, 192, 3, 0),
  (5, 103, 10, 193, 2, 0),
  (4, 218, 10, 194, 2, 0),
  (5, 107, 10, 195, 2, 0),
  (5, 112, 10, 196, 1, 0),
  (5, 116, 10, 197, 1, 0),
  (5, 120, 10, 198, 3, 0),
  (4, 221, 10, 199, 2, 0),
  (4, 224, 10, 200, 3, 0),
  (5, 124, 10, 201, 4, 0),
  (4, 231, 10, 202, 4, 0),
  (4, 227, 10, 203, 5, 0),
  (5, 128, 10, 204, 4, 0),
  (4, 234, 10, 205, 4, 0),
  (5, 132, 10, 206, 4, 0),
  (5, 136, 10, 207, 1, 0),
  (5, 140, 10, 208, 4, 0),
  (4, 244, 10, 209, 2, 0),
  (4, 237, 12, 210, 1, 0),
  (4, 240, 2, 0, 0, (-1000006)),
  (4, 247, 10, 211, 4, 0),
  (4, 241, 10, 212, 3, 0),
  (5, 144, 10, 213, 4, 0),
  (5, 148, 10, 214, 2, 0),
  (4, 251, 10, 215, 1, 0),
  (4, 250, 2, 0, 0, 1103515245),
  (5, 153, 10, 216, 3, 0),
  (5, 157, 10, 217, 2, 0),
  (5, 161, 10, 218, 3, 0),
  (5, 165, 10, 219, 1, 0),
  (5, 169, 10, 220, 1, 0),
  (4, 283, 10, 221, 1, 0),
  (4, 263, 10, 222, 2, 0),
  (4, 332, 10, 223, 1, 0),
  (4, 300, 10, 224, 1, 0),
  (4, 293, 10, 225, 2, 0),
  (4, 272, 22, 0, 0, 0),
  (4, 275, 23, 0, 0, 0),
  (4, 286, 10, 226, 2, 0),
  (4, 306, 3, 0, 8, 0),
  (4, 307, 10, 227, 5, 0),
  (4, 297, 10, 228, 3, 0),
  (4, 311, 3, 0, 9, 0),
  (4, 313, 3, 0, 10, 0),
  (4, 315, 10, 229, 8, 0),
  (4, 319, 3, 0, 0, 0),
  (4, 324, 3, 0, 11, 0),
  (4, 326, 3, 0, 12, 0),
  (4, 328, 3, 0, 13, 0),
  (4, 330, 3, 0, 14, 0),
  (4, 335, 10, 230, 2, 0),
  (5, 173, 10, 231, 3, 0),
  (4, 338, 12, 232, 1, 0),
  (5, 177, 10, 233, 3, 0),
  (4, 341, 2, 0, 0, (-1000003)),
  (5, 181, 10, 234, 4, 0),
  (4, 342, 2, 0, 0, (-1000007)),
  (5, 185, 10, 235, 4, 0),
  (4, 343, 12, 236, 2, 0),
  (5, 190, 10, 237, 6, 0),
  (5, 194, 10, 238, 2, 0),
  (5, 198, 10, 239, 2, 0),
  (5, 202, 10, 240, 1, 0),
  (5, 206, 10, 241, 1, 0),
  (5, 210, 10, 242, 1, 0),
  (5, 214, 10, 243, 2, 0),
  (5, 218, 10, 244, 2, 0)]
noncomputable def mLH : List Nat := [13, 15, 18, 21, 23, 26, 27, 29, 30, 31, 32, 33, 34, 35, 36, 37, 38, 39, 40, 41, 42, 43, 44, 45, 46, 47, 48, 67, 69, 72, 73, 74, 75, 76, 77, 78, 79, 80, 81, 98, 98, 101, 104, 105, 106, 107, 108, 109, 110, 118, 119, 120, 121, 122, 123, 124, 125, 126, 146, 150, 153, 154, 158, 159, 163, 167, 171, 172, 176, 180, 184, 187, 189, 192, 195, 199, 203, 207, 211, 214, 215, 216, 220, 224, 228, 232, 236, 239, 243, 244, 248, 249, 253, 254, 258, 262, 266, 269, 273, 276, 277, 278, 279, 283, 287, 291, 295, 299, 303, 307, 310, 314, 315, 316, 320, 324, 328, 329, 333, 337, 341, 345, 349, 353, 357, 361, 362, 366, 367, 371, 375, 376, 380, 384, 388, 392, 396, 400, 404, 408, 409, 413, 417, 421, 424, 428, 432, 436, 440, 444, 448, 452, 455, 459, 460, 464, 468, 472, 476, 477, 481, 485, 489, 493, 497, 501, 505, 509, 513, 516, 519, 520, 524, 527, 528, 529, 530, 531, 532, 533, 534, 538, 548, 586, 590, 591, 595, 599, 603, 604, 605, 606, 607, 611, 612, 613, 614, 615, 616, 620, 624, 625, 626, 630, 631, 635, 639, 643, 647, 651, 655, 659, 663, 667, 671, 675, 679, 683, 687, 689, 692, 693, 695, 696, 697, 698, 699, 700, 701, 702, 703, 704, 705, 706, 707, 708, 709, 710, 711, 712, 713, 714, 715, 716, 717, 718, 719, 720, 721, 722, 723, 724, 725, 775, 779, 782, 785, 786, 790, 791, 795, 798, 802, 806, 810, 814, 817, 821, 825, 829, 833, 836, 839, 840, 841, 845, 849, 852, 855, 859, 863, 864, 868, 872, 875, 879, 883, 887, 891, 895, 899, 900, 904, 908, 912, 916, 919, 923, 927, 931, 935, 939, 942, 946, 950, 954, 955, 959, 963, 967, 971, 975, 979, 980, 984, 988, 992, 996, 1000, 1004, 1008, 1011, 1015, 1019, 1023, 1027, 1031, 1035, 1039, 1043, 1047, 1051, 1055, 1059, 1063, 1067, 1071, 1075, 1079, 1083, 1086, 1087, 1091, 1095, 1099, 1103, 1107, 1108, 1112, 1116, 1120, 1124, 1128, 1132, 1136, 1140, 1144, 1148, 1149, 1150, 1154, 1155, 1159, 1163, 1164, 1165, 1169, 1170, 1171, 1172, 1173, 1174, 1178, 1182, 1185, 1189, 1190, 1194, 1195, 1199, 1202, 1206, 1210, 1214, 1218, 1222, 1226, 1230]
noncomputable def mTx : List (List Nat) := [[116, 104, 105, 110, 103], [109, 111, 100, 101, 115, 116], [114, 105, 118, 97, 108], [112, 114, 97, 105, 115, 101, 114], [116, 104, 105, 101, 102], [99, 104, 105, 108, 100], [98, 101, 103, 103, 97, 114], [108, 111, 111, 107, 101, 114], [97, 116], [119, 97, 108, 107, 115], [108, 105, 107, 101, 115], [116, 104, 105, 99, 107], [112, 97, 105, 110, 116], [111, 102], [111, 110]]
noncomputable def mTs : List String := ["thing", "modest", "rival", "praiser", "thief", "child", "beggar", "looker", "at", "walks", "likes", "thick", "paint", "of", "on"]
noncomputable def mIS : List (Nat × Nat × Nat) := [(16, 0, 0), (24, 2, 0), (70, 3, 0), (102, 4, 0), (147, 5, 0), (151, 6, 1), (156, 7, 0), (161, 8, 0), (164, 9, 0), (169, 10, 0), (174, 11, 0), (178, 12, 0), (182, 13, 0), (185, 14, 1), (196, 17, 0), (201, 18, 0), (205, 19, 0), (209, 20, 0), (212, 21, 1), (217, 22, 0), (222, 23, 0), (225, 24, 0), (230, 25, 0), (233, 26, 0), (237, 27, 1), (240, 28, 0), (245, 29, 0), (251, 30, 0), (256, 31, 0), (260, 32, 0), (264, 33, 0), (267, 34, 1), (271, 35, 0), (274, 36, 1), (280, 37, 0), (285, 38, 0), (289, 39, 0), (293, 40, 0), (296, 41, 0), (301, 42, 0), (305, 43, 0), (311, 44, 0), (317, 45, 0), (321, 46, 0), (325, 47, 0), (330, 48, 0), (335, 49, 0), (338, 50, 0), (342, 51, 0), (347, 52, 0), (350, 53, 0), (354, 54, 0), (358, 55, 0), (364, 56, 0), (369, 57, 0), (373, 58, 0), (377, 59, 0), (381, 60, 0), (385, 61, 0), (390, 62, 0), (393, 63, 0), (397, 64, 0), (401, 65, 0), (406, 66, 0), (411, 67, 0), (414, 68, 0), (419, 69, 0), (422, 70, 1), (426, 71, 0), (429, 72, 0), (433, 73, 0), (437, 74, 0), (441, 75, 0), (446, 76, 0), (450, 77, 0), (453, 78, 1), (457, 79, 0), (462, 80, 0), (465, 81, 0), (469, 82, 0), (474, 83, 0), (478, 84, 0), (483, 85, 0), (486, 86, 0), (490, 87, 0), (495, 88, 0), (498, 89, 0), (502, 90, 0), (507, 91, 0), (511, 92, 0), (514, 93, 1), (517, 94, 1), (522, 95, 0), (525, 96, 1), (536, 97, 0), (588, 109, 0), (593, 110, 0), (597, 111, 0), (601, 112, 0), (609, 113, 0), (617, 114, 0), (621, 115, 0), (627, 116, 0), (633, 117, 0), (636, 118, 0), (641, 119, 0), (644, 120, 0), (649, 121, 0), (652, 122, 0), (656, 123, 0), (661, 124, 0), (664, 125, 0), (668, 126, 0), (672, 127, 0), (676, 128, 0), (681, 129, 0), (684, 130, 0), (690, 131, 0), (776, 132, 0), (780, 133, 1), (783, 134, 1), (788, 135, 0), (793, 136, 0), (796, 137, 1), (799, 138, 0), (804, 139, 0), (808, 140, 0), (812, 141, 0), (815, 142, 1), (819, 143, 0), (823, 144, 0), (827, 145, 0), (831, 146, 0), (834, 147, 1), (837, 148, 1), (842, 149, 0), (847, 150, 0), (850, 151, 1), (853, 152, 1), (857, 153, 0), (861, 154, 0), (866, 155, 0), (869, 156, 0), (873, 157, 1), (877, 158, 0), (880, 159, 0), (885, 160, 0), (888, 161, 0), (892, 162, 0), (896, 163, 0), (902, 164, 0), (906, 165, 0), (910, 166, 0), (914, 167, 0), (917, 168, 1), (920, 169, 0), (925, 170, 0), (929, 171, 0), (932, 172, 0), (937, 173, 0), (940, 174, 1), (944, 175, 0), (947, 176, 0), (952, 177, 0), (956, 178, 0), (960, 179, 0), (965, 180, 0), (968, 181, 0), (972, 182, 0), (977, 183, 0), (981, 184, 0), (985, 185, 0), (990, 186, 0), (993, 187, 0), (997, 188, 0), (1001, 189, 0), (1006, 190, 0), (1009, 191, 1), (1012, 192, 0), (1016, 193, 0), (1021, 194, 0), (1024, 195, 0), (1028, 196, 0), (1032, 197, 0), (1036, 198, 0), (1041, 199, 0), (1045, 200, 0), (1048, 201, 0), (1053, 202, 0), (1057, 203, 0), (1060, 204, 0), (1065, 205, 0), (1068, 206, 0), (1072, 207, 0), (1076, 208, 0), (1081, 209, 0), (1084, 210, 1), (1089, 211, 0), (1093, 212, 0), (1096, 213, 0), (1100, 214, 0), (1105, 215, 0), (1109, 216, 0), (1113, 217, 0), (1117, 218, 0), (1121, 219, 0), (1125, 220, 0), (1130, 221, 0), (1134, 222, 0), (1138, 223, 0), (1142, 224, 0), (1146, 225, 0), (1152, 226, 0), (1157, 227, 0), (1161, 228, 0), (1167, 229, 0), (1176, 230, 0), (1179, 231, 0), (1183, 232, 1), (1186, 233, 0), (1191, 234, 0), (1196, 235, 0), (1200, 236, 1), (1203, 237, 0), (1207, 238, 0), (1211, 239, 0), (1215, 240, 0), (1219, 241, 0), (1223, 242, 0), (1227, 243, 0), (1231, 244, 0)]
noncomputable def mSE1 : List (Nat × Nat) := [(0, 7), (1, 8), (2, 10), (3, 11), (4, 12), (5, 13), (6, 18), (7, 19), (8, 20), (9, 23), (10, 25), (11, 30), (12, 31), (13, 32), (14, 33), (15, 35), (16, 38), (17, 39), (18, 40), (19, 42), (20, 43), (21, 49), (22, 52), (23, 56), (24, 57), (25, 58), (26, 62), (27, 66), (28, 67), (29, 69), (30, 71), (31, 76), (32, 77), (33, 79), (34, 80), (35, 83), (36, 85), (37, 88), (38, 91), (39, 92), (40, 95), (41, 97), (42, 109), (43, 110), (44, 111), (45, 112), (46, 113), (47, 117), (48, 119), (49, 121), (50, 124), (51, 129), (52, 135), (53, 136), (54, 139), (55, 140), (56, 141), (57, 143), (58, 144), (59, 145), (60, 146), (61, 150), (62, 153), (63, 154), (64, 155), (65, 158), (66, 160), (67, 164), (68, 165), (69, 166), (70, 167), (71, 170), (72, 171), (73, 173), (74, 175), (75, 177), (76, 180), (77, 183), (78, 186), (79, 190), (80, 194), (81, 199), (82, 200), (83, 202), (84, 203), (85, 205), (86, 209), (87, 211), (88, 212), (89, 215), (90, 221), (91, 222), (92, 223), (93, 224), (94, 225), (95, 226), (96, 227), (97, 228), (98, 229), (99, 230)]
noncomputable def mSE2 : List (Nat × Nat) := [(148, 5), (165, 9), (197, 17), (218, 22), (226, 24), (234, 26), (241, 28), (246, 29), (281, 37), (297, 41), (312, 44), (318, 45), (322, 46), (326, 47), (331, 48), (339, 50), (343, 51), (351, 53), (355, 54), (359, 55), (378, 59), (382, 60), (386, 61), (394, 63), (398, 64), (402, 65), (415, 68), (430, 72), (434, 73), (438, 74), (442, 75), (466, 81), (470, 82), (479, 84), (487, 86), (491, 87), (499, 89), (503, 90), (618, 114), (622, 115), (628, 116), (637, 118), (645, 120), (653, 122), (657, 123), (665, 125), (669, 126), (673, 127), (677, 128), (685, 130), (777, 132), (800, 138), (843, 149), (870, 156), (881, 159), (889, 161), (893, 162), (897, 163), (921, 169), (933, 172), (948, 176), (957, 178), (961, 179), (969, 181), (973, 182), (982, 184), (986, 185), (994, 187), (998, 188), (1002, 189), (1013, 192), (1017, 193), (1025, 195), (1029, 196), (1033, 197), (1037, 198), (1049, 201), (1061, 204), (1069, 206), (1073, 207), (1077, 208), (1097, 213), (1101, 214), (1110, 216), (1114, 217), (1118, 218), (1122, 219), (1126, 220), (1180, 231), (1187, 233), (1192, 234), (1197, 235), (1204, 237), (1208, 238), (1212, 239), (1216, 240), (1220, 241), (1224, 242), (1228, 243), (1232, 244)]
noncomputable def mIN : List (Nat × Nat) := [(0, 5), (1, 3), (2, 2), (3, 1), (4, 0), (5, 4), (7, 6)]
noncomputable def mUL : List (Nat × Nat × Nat) := [(49, 2, 0), (51, 2, 1), (53, 2, 2), (55, 2, 3), (57, 2, 4), (59, 2, 5), (61, 2, 6), (63, 2, 7), (82, 1, 0), (84, 1, 1), (86, 1, 2), (88, 1, 3), (90, 1, 4), (92, 1, 5), (94, 1, 6), (111, 0, 0), (113, 0, 1), (115, 0, 2), (127, 3, 0), (129, 3, 1), (131, 3, 2), (133, 3, 3), (135, 3, 4), (137, 3, 5), (139, 3, 6), (141, 3, 7), (143, 3, 8), (726, 4, 0), (728, 4, 1), (730, 4, 2), (732, 4, 3), (734, 4, 4), (736, 4, 5), (738, 4, 6), (740, 4, 7), (742, 4, 8), (744, 4, 9), (746, 4, 10), (748, 4, 11), (750, 4, 12), (752, 4, 13), (754, 4, 14), (756, 4, 15), (758, 4, 16), (760, 4, 17), (762, 4, 18), (764, 4, 19), (766, 4, 20), (768, 4, 21), (770, 4, 22), (772, 4, 23)]
noncomputable def mNI : List (Nat × Nat) := [(14, 3), (22, 2), (68, 1), (100, 0), (688, 4)]
noncomputable def mTk : List Nat := [50, 106, 108, 110, 112, 114, 116, 118, 66, 72, 82, 88, 90, 92, 94]
noncomputable def mTk4 : List Nat := [319, 39, 41, 43, 45, 47, 49, 37, 306, 311, 313, 324, 326, 328, 330]
noncomputable def mNr : List (Nat × Nat × Nat × Nat) := [(19, 0, 1, 0), (20, 1, 1, 0), (21, 2, 1, 0), (22, 3, 1, 0), (23, 4, 1, 0), (24, 4, 1, 1), (25, 4, 1, 2), (26, 4, 1, 3), (27, 4, 1, 4), (28, 4, 1, 5), (29, 0, 2, 0), (30, 1, 2, 0), (31, 2, 2, 0), (32, 3, 2, 0), (33, 4, 2, 0), (34, 4, 2, 1), (35, 4, 2, 2), (36, 4, 2, 3), (37, 4, 2, 4), (38, 0, 3, 0), (39, 1, 3, 0), (40, 2, 3, 0), (41, 3, 3, 0), (42, 4, 3, 0), (43, 4, 3, 1), (44, 4, 3, 2), (45, 4, 3, 3), (46, 4, 3, 4), (47, 4, 3, 5), (48, 4, 3, 6), (49, 0, 4, 0), (50, 1, 4, 0), (51, 2, 4, 0), (52, 3, 4, 0), (53, 4, 4, 0), (54, 4, 4, 1), (55, 4, 4, 2), (56, 4, 4, 3), (57, 4, 4, 4), (58, 0, 5, 0), (59, 1, 5, 0), (60, 2, 5, 0), (61, 3, 5, 0), (62, 4, 5, 0), (63, 4, 5, 1), (64, 4, 5, 2), (65, 4, 5, 3), (66, 4, 5, 4), (67, 0, 6, 0), (68, 1, 6, 0), (69, 2, 6, 0), (70, 3, 6, 0), (71, 4, 6, 0), (72, 4, 6, 1), (73, 4, 6, 2), (74, 4, 6, 3), (75, 4, 6, 4), (76, 4, 6, 5), (77, 0, 7, 0), (78, 1, 7, 0), (79, 2, 7, 0), (80, 3, 7, 0), (81, 4, 7, 0), (82, 4, 7, 1), (83, 4, 7, 2), (84, 4, 7, 3), (85, 4, 7, 4), (86, 4, 7, 5), (87, 0, 8, 0), (88, 1, 8, 0), (89, 2, 8, 0), (90, 3, 8, 0), (91, 4, 8, 0), (92, 4, 8, 1), (93, 0, 9, 0), (94, 1, 9, 0), (95, 2, 9, 0), (96, 3, 9, 0), (97, 4, 9, 0), (98, 4, 9, 1), (99, 4, 9, 2), (100, 4, 9, 3), (101, 4, 9, 4), (102, 0, 10, 0), (103, 1, 10, 0), (104, 2, 10, 0), (105, 3, 10, 0), (106, 4, 10, 0), (107, 4, 10, 1), (108, 4, 10, 2), (109, 4, 10, 3), (110, 4, 10, 4), (111, 0, 0, 0), (112, 1, 0, 0), (113, 2, 0, 0), (114, 3, 0, 0), (115, 4, 0, 0), (116, 4, 0, 1), (117, 4, 0, 2), (118, 4, 0, 3), (119, 4, 0, 4), (120, 0, 11, 0), (121, 1, 11, 0), (122, 2, 11, 0), (123, 3, 11, 0), (124, 4, 11, 0), (125, 4, 11, 1), (126, 4, 11, 2), (127, 4, 11, 3), (128, 4, 11, 4), (129, 0, 12, 0), (130, 1, 12, 0), (131, 2, 12, 0), (132, 3, 12, 0), (133, 4, 12, 0), (134, 4, 12, 1), (135, 4, 12, 2), (136, 4, 12, 3), (137, 4, 12, 4), (138, 0, 13, 0), (139, 1, 13, 0), (140, 2, 13, 0), (141, 3, 13, 0), (142, 4, 13, 0), (143, 4, 13, 1), (144, 0, 14, 0), (145, 1, 14, 0), (146, 2, 14, 0), (147, 3, 14, 0), (148, 4, 14, 0), (149, 4, 14, 1), (160, 5, 7, 37), (171, 5, 1, 39), (181, 5, 2, 41), (193, 5, 3, 43), (203, 5, 4, 45), (213, 5, 5, 47), (224, 5, 6, 49), (231, 5, 8, 306), (241, 5, 9, 311), (251, 5, 10, 313), (261, 5, 0, 319), (271, 5, 11, 324), (281, 5, 12, 326), (288, 5, 13, 328), (295, 5, 14, 330)]
abbrev mIdLaw : Nat := 245
abbrev mIdLen : Nat := 98
abbrev mIdChr : Nat := 100
abbrev mIdCod : Nat := 99
abbrev mIdLat : Nat := 101
abbrev mIdChk : Nat := 103
abbrev mIdLch : Nat := 102
abbrev mIdPre : Nat := 104
abbrev mNM : Nat := 246
noncomputable def mDf (k : Nat) : List Value := ([[.null, .int 0, .int 0],
  [.null, .int 0, .int 0, .int 0, .int 0, .int 0, .int 0],
  [.null, .null, .null, .int 0, .int 0, .int 0, .int 0, .int 0],
  [.null, .null, .null, .null, .null, .null, .int 0, .null, .null],
  [.null, .null, .null, .int 0, .null, .null, .int 0, .null, .null, .int 0, .int 0, .int 0, .int 0, .int 0, .int 0, .null, .null, .int 0, .int 0, .int 0, .null, .null, .null, .null]] : List (List Value)).getD k []
noncomputable def mFT (k : Nat) : u_T := match k with
  | 0 => TX0
  | 1 => TX1
  | 2 => TX2
  | 3 => TX3
  | _ => TX4
noncomputable def mFy (k : Nat) : (Nat → FieldType) := match k with
  | 0 => tyX0
  | 1 => tyX1
  | 2 => tyX2
  | 3 => tyX3
  | _ => tyX4
noncomputable def mFN (k : Nat) : Nat := match k with
  | 0 => 3
  | 1 => 7
  | 2 => 8
  | 3 => 9
  | _ => 24
end
section
/-! ===== a small machine over worlds: a cell is a place in a list, a reference is such a place ===== -/
abbrev mLoc : Type := List (Option Value)
abbrev mHp : Type := List va_E
abbrev mSc : Type := Nat × (Nat → Int32)
abbrev mRes : Type := (Nat × mLoc × List Value × mHp) ⊕ (Option Value ⊕ (Nat × List Value × List Value))
noncomputable def mSz (c : va_E) : Nat := match c with
  | .inl a => a.2.1
  | .inr o => o.2.length
noncomputable def mSl (D : mHp) : Nat := (D.map mSz).sum
noncomputable def mOk (ls : mLoc) (i : Nat) : Bool := match i with
  | 0 => true
  | j + 1 => match ls[j]? with
    | some (some w) => Nat.beq w.category 1
    | _ => true
noncomputable def mS1 (ls : mLoc) (i : Nat) (v : Value) : Option mLoc := cond (Nat.blt i ls.length && mOk ls i) (some (ls.set i (some v))) none
noncomputable def mS2 (ls : mLoc) (i : Nat) (v : Value) : Option mLoc := cond (Nat.blt (i + 1) ls.length && mOk ls i) (some ((ls.set i (some v)).set (i + 1) none)) none
noncomputable def mTo (pc : Nat) (off : Int) : Option Nat := if (0 : Int) ≤ (pc : Int) + off then some ((pc : Int) + off).toNat else none
noncomputable def mGo (pc : Nat) (off : Int) (ls : mLoc) (st : List Value) (D : mHp) : Option mRes := (mTo pc off).map fun t => .inl (t, ls, st, D)
noncomputable def mBr (b : Bool) (pc : Nat) (off : Int) (ls : mLoc) (st : List Value) (D : mHp) : Option mRes := (mTo pc off).map fun t => .inl (cond b t (pc + 3), ls, st, D)
noncomputable def mNx (pc : Nat) (ls : mLoc) (st : List Value) (D : mHp) : Option mRes := some (.inl (pc, ls, st, D))
noncomputable def mKA : Nat → Int32 := fun j => ([-1, 0, 0, 2, 3, 0, 1] : List Int32).getD j 0
noncomputable def mRo (X : mSc) (i : Nat) : Option (Nat × (Nat → Int32)) := cond (Nat.beq i 1000100) (some (7, mKA)) (cond (Nat.beq i 1000200) (some X) none)
noncomputable def mOut (j : Int32) (n : Nat) : Bool := decide (j < 0 ∨ n ≤ j.toNatClampNeg)
/-- an element of an array of whole numbers, of type code t -/
noncomputable def mLd (X : mSc) (t : Nat) (D : mHp) (i : Nat) (j : Int32) : Option Value := match D[i]? with
  | some (.inl (t', n, .inl f)) => cond (Nat.beq t' t && !mOut j n) (some (.int (f j.toNatClampNeg))) none
  | some _ => none
  | none => cond (Nat.beq t 0) (match mRo X i with
    | some (n, f) => cond (!mOut j n) (some (.int (f j.toNatClampNeg))) none
    | none => none) none
noncomputable def mLdq (D : mHp) (i : Nat) (j : Int32) : Option Value := match D[i]? with
  | some (.inl (t, n, .inr (.inr (.inr (.inr f))))) => cond (Nat.ble 2 t && Nat.ble t 4 && !mOut j n) (some (va_rf (f j.toNatClampNeg))) none
  | _ => none
noncomputable def mNar (t : Nat) (x : Int32) : Int32 := match t with
  | 0 => x
  | _ => x.toInt8.toInt32
noncomputable def mStI (t : Nat) (D : mHp) (i : Nat) (j x : Int32) : Option mHp := match D[i]? with
  | some (.inl (t', n, .inl f)) => cond (Nat.beq t' t && !mOut j n) (some (D.set i (.inl (t', n, .inl (upd f j.toNatClampNeg (mNar t x)))))) none
  | _ => none
/-- a reference's class suits the array's type code: 2 sheets, 4 texts -/
noncomputable def mAk (D : mHp) (t v : Nat) : Bool := match t with
  | 2 => match D[v]? with
    | some (.inr (c, _)) => Nat.beq c 0
    | _ => false
  | 4 => Nat.ble 1000000 v && Nat.blt v 1000015
  | _ => false
noncomputable def mStQ (D : mHp) (i : Nat) (j : Int32) (v : Nat) : Option mHp := match D[i]? with
  | some (.inl (t, n, .inr (.inr (.inr (.inr f))))) => cond (mAk D t v && !mOut j n) (some (D.set i (.inl (t, n, .inr (.inr (.inr (.inr (va_up f j.toNatClampNeg (some v))))))))) none
  | _ => none
noncomputable def mLen (X : mSc) (D : mHp) (i : Nat) : Option Int32 := match D[i]? with
  | some (.inl (t, a)) => cond (Nat.ble t 4) (some (Int32.ofNat a.1)) none
  | some _ => none
  | none => (mRo X i).map fun q => Int32.ofNat q.1
noncomputable def mGet (D : mHp) (i a b : Nat) : Option Value := match D[i]? with
  | some (.inr (c, fs)) => cond (Nat.beq c a) (fs[b]?) none
  | _ => none
noncomputable def mFit (ty : FieldType) (v : Value) : Bool := match v with
  | .int x => decide (narrow ty (.int x) = .int x) && fits ty (.int x)
  | .ref _ => match ty with
    | .object _ => true
    | .array _ => true
    | _ => false
  | _ => false
noncomputable def mPut (row : mRow) (kd : Nat) (D : mHp) (i a b : Nat) (v : Value) : Option mHp := match D[i]? with
  | some (.inr (c, fs)) => cond (Nat.beq c a && Nat.blt b (mFN a) && Nat.blt b fs.length && mFit (mFy a b) v && (!(mFT a b).2.2.2 || Nat.beq kd 0 && decide (row.2.1.name = "<init>" ∧ (mFT a b).1 = mNm row.1))) (some (D.set i (.inr (c, fs.set b v)))) none
  | _ => none
noncomputable def mWt (r : List Value) : Nat := (r.map fun v => v.category).sum
noncomputable def mC1 (as : List Value) : Bool := as.all fun v => Nat.beq v.category 1
/-- the receiver's class is the method's -/
noncomputable def mRcv (D : mHp) (as : List Value) (mid : Nat) : Bool := match as with
  | .ref i :: _ => match D[i]?, mMet mid with
    | some (.inr (c, _)), some r => Nat.beq c r.1
    | _, _ => false
  | _ => false
noncomputable def mChr (i : Nat) : Option (List Nat) := cond (Nat.ble 1000000 i) (mTx[i - 1000000]?) none
noncomputable def mCall (e : mEnt) (v : Bool) (pc : Nat) (ls : mLoc) (st : List Value) (D : mHp) : Option mRes := match e.2.2.2.1 with
  | 20 => match st with
    | .ref _ :: r => cond (Nat.ble (mWt r) 8) (mNx (pc + 3) ls r D) none
    | _ => none
  | 21 => match st with
    | .int n :: .int dp :: .ref i1 :: .int sp :: .ref i0 :: r => match D[i0]?, D[i1]? with
      | some (.inl (t0, n0, .inl f)), some (.inl (t1, n1, .inl g)) => cond (Nat.beq t0 0 && Nat.beq t1 0 && !decide (sp < 0) && !decide (dp < 0) && !decide (n < 0) && Nat.ble (sp.toNatClampNeg + n.toNatClampNeg) n0 && Nat.ble (dp.toNatClampNeg + n.toNatClampNeg) n1 && Nat.ble (mWt r) 8)
          (mNx (pc + 3) ls r (D.set i1 (.inl (t1, n1, .inl (va_cpy f g sp.toNatClampNeg dp.toNatClampNeg n.toNatClampNeg))))) none
      | _, _ => none
    | _ => none
  | 22 => match st with
    | .ref i :: r => match mChr i with
      | some tx => cond (Nat.ble (mWt r) 8) (mNx (pc + 3) ls (.int (nI tx.length) :: r) D) none
      | none => none
    | _ => none
  | 23 => match st with
    | .int k :: .ref i :: r => match mChr i with
      | some tx => cond (Nat.ble (mWt r) 8 && !mOut k tx.length) (mNx (pc + 3) ls (.int (nI (tx.getD k.toNatClampNeg 0)) :: r) D) none
      | none => none
    | _ => none
  | 24 => match st with
    | .int y :: .int x :: r => cond (Nat.ble (mWt r) 8) (mNx (pc + 3) ls (.int (if x < y then y else x) :: r) D) none
    | _ => none
  | 25 => match st with
    | .int y :: .int x :: r => cond (Nat.ble (mWt r) 8) (mNx (pc + 3) ls (.int (if y < x then y else x) :: r) D) none
    | _ => none
  | _ => cond (Nat.ble e.2.2.2.2.2.1 st.length && mC1 (st.take e.2.2.2.2.2.1) && Nat.ble (mWt (st.drop e.2.2.2.2.2.1)) 8 && (!v || mRcv D (st.take e.2.2.2.2.2.1).reverse e.2.2.2.2.1)) (some (.inr (.inr (e.2.2.2.2.1, (st.take e.2.2.2.2.2.1).reverse, st.drop e.2.2.2.2.2.1)))) none
noncomputable def mStep (X : mSc) (row : mRow) (e : mEnt) (pc : Nat) (ls : mLoc) (st : List Value) (D : mHp) : Option mRes := match e.1 with
  | .iconst n => mNx (pc + 1) ls (.int (Int32.ofInt n) :: st) D
  | .bipush n => mNx (pc + 2) ls (.int (Int8.ofInt n).toInt32 :: st) D
  | .sipush n => mNx (pc + 3) ls (.int (Int16.ofInt n).toInt32 :: st) D
  | .lconst n => mNx (pc + 1) ls (.long (Int64.ofNat n.val) :: st) D
  | .ldc _ => match e.2.2.2.1 with
    | 2 => mNx (pc + 2) ls (.int (Int32.ofInt e.2.2.2.2.2.2) :: st) D
    | 3 => mNx (pc + 2) ls (.ref (1000000 + e.2.2.2.2.2.1) :: st) D
    | _ => none
  | .ldc_w _ => match e.2.2.2.1 with
    | 2 => mNx (pc + 3) ls (.int (Int32.ofInt e.2.2.2.2.2.2) :: st) D
    | 3 => mNx (pc + 3) ls (.ref (1000000 + e.2.2.2.2.2.1) :: st) D
    | _ => none
  | .iload_n k => match ls[k.val]? with
    | some (some (.int x)) => mNx (pc + 1) ls (.int x :: st) D
    | _ => none
  | .iload i => match ls[i]? with
    | some (some (.int x)) => mNx (pc + 2) ls (.int x :: st) D
    | _ => none
  | .lload_n k => match ls[k.val]? with
    | some (some (.long x)) => mNx (pc + 1) ls (.long x :: st) D
    | _ => none
  | .lload i => match ls[i]? with
    | some (some (.long x)) => mNx (pc + 2) ls (.long x :: st) D
    | _ => none
  | .aload_n k => match ls[k.val]? with
    | some (some (.ref x)) => mNx (pc + 1) ls (.ref x :: st) D
    | _ => none
  | .aload i => match ls[i]? with
    | some (some (.ref x)) => mNx (pc + 2) ls (.ref x :: st) D
    | _ => none
  | .istore_n k => match st with
    | .int x :: r => (mS1 ls k.val (.int x)).bind fun l => mNx (pc + 1) l r D
    | _ => none
  | .istore i => match st with
    | .int x :: r => (mS1 ls i (.int x)).bind fun l => mNx (pc + 2) l r D
    | _ => none
  | .lstore_n k => match st with
    | .long x :: r => (mS2 ls k.val (.long x)).bind fun l => mNx (pc + 1) l r D
    | _ => none
  | .lstore i => match st with
    | .long x :: r => (mS2 ls i (.long x)).bind fun l => mNx (pc + 2) l r D
    | _ => none
  | .astore_n k => match st with
    | .ref x :: r => (mS1 ls k.val (.ref x)).bind fun l => mNx (pc + 1) l r D
    | _ => none
  | .astore i => match st with
    | .ref x :: r => (mS1 ls i (.ref x)).bind fun l => mNx (pc + 2) l r D
    | _ => none
  | .iinc i n => match ls[i]? with
    | some (some (.int x)) => (mS1 ls i (.int (x + Int32.ofInt n))).bind fun l => mNx (pc + 3) l st D
    | _ => none
  | .iadd => match st with
    | .int y :: .int x :: r => mNx (pc + 1) ls (.int (x + y) :: r) D
    | _ => none
  | .isub => match st with
    | .int y :: .int x :: r => mNx (pc + 1) ls (.int (x - y) :: r) D
    | _ => none
  | .imul => match st with
    | .int y :: .int x :: r => mNx (pc + 1) ls (.int (x * y) :: r) D
    | _ => none
  | .iand => match st with
    | .int y :: .int x :: r => mNx (pc + 1) ls (.int (x &&& y) :: r) D
    | _ => none
  | .ior => match st with
    | .int y :: .int x :: r => mNx (pc + 1) ls (.int (x ||| y) :: r) D
    | _ => none
  | .ixor => match st with
    | .int y :: .int x :: r => mNx (pc + 1) ls (.int (x ^^^ y) :: r) D
    | _ => none
  | .idiv => match st with
    | .int y :: .int x :: r => if y = 0 then none else mNx (pc + 1) ls (.int (x / y) :: r) D
    | _ => none
  | .irem => match st with
    | .int y :: .int x :: r => if y = 0 then none else mNx (pc + 1) ls (.int (x - x / y * y) :: r) D
    | _ => none
  | .ishl => match st with
    | .int y :: .int x :: r => mNx (pc + 1) ls (.int (x <<< (y &&& 31)) :: r) D
    | _ => none
  | .ishr => match st with
    | .int y :: .int x :: r => mNx (pc + 1) ls (.int (x >>> (y &&& 31)) :: r) D
    | _ => none
  | .iushr => match st with
    | .int y :: .int x :: r => mNx (pc + 1) ls (.int (x.toUInt32 >>> (y.toUInt32 &&& Int32.toUInt32 31)).toInt32 :: r) D
    | _ => none
  | .i2l => match st with
    | .int x :: r => mNx (pc + 1) ls (.long x.toInt64 :: r) D
    | _ => none
  | .i2b => match st with
    | .int x :: r => mNx (pc + 1) ls (.int x.toInt8.toInt32 :: r) D
    | _ => none
  | .i2s => match st with
    | .int x :: r => mNx (pc + 1) ls (.int x.toInt16.toInt32 :: r) D
    | _ => none
  | .ladd => match st with
    | .long y :: .long x :: r => mNx (pc + 1) ls (.long (x + y) :: r) D
    | _ => none
  | .lmul => match st with
    | .long y :: .long x :: r => mNx (pc + 1) ls (.long (x * y) :: r) D
    | _ => none
  | .lcmp => match st with
    | .long y :: .long x :: r => mNx (pc + 1) ls (.int (lg_cmp x y) :: r) D
    | _ => none
  | .dup => match st with
    | v :: r => cond (Nat.beq v.category 1) (mNx (pc + 1) ls (v :: v :: r) D) none
    | _ => none
  | .pop => match st with
    | v :: r => cond (Nat.beq v.category 1) (mNx (pc + 1) ls r D) none
    | _ => none
  | .dup2 => match st with
    | v :: w :: r => cond (Nat.beq v.category 1 && Nat.beq w.category 1) (mNx (pc + 1) ls (v :: w :: v :: w :: r) D) none
    | _ => none
  | .pop2 => match st with
    | .long _ :: r => mNx (pc + 1) ls r D
    | _ => none
  | .ifCond .eq off => match st with
    | .int x :: r => mBr (decide (x = 0)) pc off ls r D
    | _ => none
  | .ifCond .ne off => match st with
    | .int x :: r => mBr (!decide (x = 0)) pc off ls r D
    | _ => none
  | .ifCond .lt off => match st with
    | .int x :: r => mBr (decide (x < 0)) pc off ls r D
    | _ => none
  | .ifCond .ge off => match st with
    | .int x :: r => mBr (decide (0 ≤ x)) pc off ls r D
    | _ => none
  | .ifCond .gt off => match st with
    | .int x :: r => mBr (decide (0 < x)) pc off ls r D
    | _ => none
  | .ifCond .le off => match st with
    | .int x :: r => mBr (decide (x ≤ 0)) pc off ls r D
    | _ => none
  | .if_icmp .eq off => match st with
    | .int y :: .int x :: r => mBr (decide (x = y)) pc off ls r D
    | _ => none
  | .if_icmp .ne off => match st with
    | .int y :: .int x :: r => mBr (!decide (x = y)) pc off ls r D
    | _ => none
  | .if_icmp .lt off => match st with
    | .int y :: .int x :: r => mBr (decide (x < y)) pc off ls r D
    | _ => none
  | .if_icmp .ge off => match st with
    | .int y :: .int x :: r => mBr (decide (y ≤ x)) pc off ls r D
    | _ => none
  | .if_icmp .gt off => match st with
    | .int y :: .int x :: r => mBr (decide (y < x)) pc off ls r D
    | _ => none
  | .if_icmp .le off => match st with
    | .int y :: .int x :: r => mBr (decide (x ≤ y)) pc off ls r D
    | _ => none
  | .goto off => mGo pc off ls st D
  | .tableswitch dflt lo hi offs => match st with
    | .int x :: r => if x.toInt < lo ∨ hi < x.toInt then mGo pc dflt ls r D else match offs[(x.toInt - lo).toNat]? with
      | some off => mGo pc off ls r D
      | none => none
    | _ => none
  | .getfield _ => match st with
    | .ref i :: r => (mGet D i e.2.2.2.2.1 e.2.2.2.2.2.1).bind fun v => mNx (pc + 3) ls (v :: r) D
    | _ => none
  | .putfield _ => match st with
    | v :: .ref i :: r => (mPut row e.2.2.2.1 D i e.2.2.2.2.1 e.2.2.2.2.2.1 v).bind fun D1 => mNx (pc + 3) ls r D1
    | _ => none
  | .getstatic _ => mNx (pc + 3) ls (.ref 1000100 :: st) D
  | .iaload => match st with
    | .int j :: .ref i :: r => (mLd X 0 D i j).bind fun v => mNx (pc + 1) ls (v :: r) D
    | _ => none
  | .baload => match st with
    | .int j :: .ref i :: r => (mLd X 1 D i j).bind fun v => mNx (pc + 1) ls (v :: r) D
    | _ => none
  | .aaload => match st with
    | .int j :: .ref i :: r => (mLdq D i j).bind fun v => mNx (pc + 1) ls (v :: r) D
    | _ => none
  | .iastore => match st with
    | .int x :: .int j :: .ref i :: r => (mStI 0 D i j x).bind fun D1 => mNx (pc + 1) ls r D1
    | _ => none
  | .bastore => match st with
    | .int x :: .int j :: .ref i :: r => (mStI 1 D i j x).bind fun D1 => mNx (pc + 1) ls r D1
    | _ => none
  | .aastore => match st with
    | .ref v :: .int j :: .ref i :: r => (mStQ D i j v).bind fun D1 => mNx (pc + 1) ls r D1
    | _ => none
  | .arraylength => match st with
    | .ref i :: r => (mLen X D i).bind fun n => mNx (pc + 1) ls (.int n :: r) D
    | _ => none
  | .newarray .int => match st with
    | .int n :: r => if n < 0 ∨ 1000 < n.toNatClampNeg then none else mNx (pc + 2) ls (.ref D.length :: r) (D ++ [.inl (0, n.toNatClampNeg, .inl (fun _ => 0))])
    | _ => none
  | .newarray .byte => match st with
    | .int n :: r => if n < 0 ∨ 1000 < n.toNatClampNeg then none else mNx (pc + 2) ls (.ref D.length :: r) (D ++ [.inl (1, n.toNatClampNeg, .inl (fun _ => 0))])
    | _ => none
  | .anewarray _ => match st with
    | .int n :: r => if n < 0 ∨ 1000 < n.toNatClampNeg then none else mNx (pc + 3) ls (.ref D.length :: r) (D ++ [.inl (e.2.2.2.2.1, n.toNatClampNeg, .inr (.inr (.inr (.inr (fun _ => none)))))])
    | _ => none
  | .multianewarray _ 2 => match st with
    | .int k :: .int n :: r => if n < 0 ∨ k < 0 ∨ 1000 < n.toNatClampNeg ∨ 1000 < k.toNatClampNeg then none else mNx (pc + 4) ls (.ref D.length :: r)
        (D ++ (.inl (3, n.toNatClampNeg, .inr (.inr (.inr (.inr (fun i => if i < n.toNatClampNeg then some (D.length + 1 + i) else none))))) :: List.replicate n.toNatClampNeg (.inl (0, k.toNatClampNeg, .inl (fun _ => 0)))))
    | _ => none
  | .new _ => mNx (pc + 3) ls (.ref D.length :: st) (D ++ [.inr (e.2.2.2.2.1, mDf e.2.2.2.2.1)])
  | .ireturn => match st with
    | [.int v] => match row.2.2.2.2.1 with
      | some ty => cond (decide (narrow ty (.int v) = .int v)) (some (.inr (.inl (some (.int v))))) none
      | none => none
    | _ => none
  | .lreturn => match st with
    | [.long v] => cond (decide (row.2.2.2.2.1 = some .long)) (some (.inr (.inl (some (.long v))))) none
    | _ => none
  | .areturn => match st with
    | [.ref v] => match row.2.2.2.2.1 with
      | some (.object _) => some (.inr (.inl (some (.ref v))))
      | _ => none
    | _ => none
  | .return_ => match st with
    | [] => cond (decide (row.2.2.2.2.1 = none)) (some (.inr (.inl none))) none
    | _ => none
  | .invokestatic _ => mCall e false pc ls st D
  | .invokespecial _ => mCall e true pc ls st D
  | .invokevirtual _ => mCall e true pc ls st D
  | _ => none
noncomputable def mEnv (maxL : Nat) (as : List Value) : mLoc := as.map some ++ List.replicate (maxL - as.length) none
noncomputable def mRun (X : mSc) : Nat → Nat → Nat → mLoc → List Value → mHp → Option (Option Value × mHp)
  | 0, _, _, _, _, _ => none
  | n + 1, mid, pc, ls, st, D => match mMet mid, mFetch mid pc with
    | some row, some e => match mStep X row e pc ls st D with
      | some (.inl q) => mRun X n mid q.1 q.2.1 q.2.2.1 q.2.2.2
      | some (.inr (.inl v)) => some (v, D)
      | some (.inr (.inr q)) => match mMet q.1 with
        | some r => cond (Nat.ble q.2.1.length r.2.2.2.1) (match mRun X n q.1 0 (mEnv r.2.2.2.1 q.2.1) [] D with
          | some z => mRun X n mid (pc + 3) ls (z.1.toList ++ q.2.2) z.2
          | none => none) none
        | none => none
      | none => none
    | _, _ => none
end
section
/-! ===== the small machine's worlds in the real heap ===== -/
abbrev mG : Type := Nat × (Nat → Nat) × va_G × (Nat → ClassId) × mSc
def mAd (G : mG) (i : Nat) : Nat := if i < 1000000 then G.1 + i else G.2.1 (i - 1000000)
def mV (G : mG) (v : Value) : Value := match v with
  | .ref i => .ref (mAd G i)
  | v => v
def mCA (G : mG) (a : vp_A) : vp_A := match a with
  | (n, .inr (.inr (.inr (.inr f)))) => (n, .inr (.inr (.inr (.inr (fun i => (f i).map (mAd G))))))
  | a => a
def mCE (G : mG) (c : va_E) : va_E := match c with
  | .inl a => .inl (G.2.2.2.1 a.1, mCA G a.2)
  | .inr o => .inr (o.1, o.2.map (mV G))
def mW (G : mG) : Nat → mHp → va_W
  | _, [] => []
  | k, c :: D => (G.1 + k, mCE G c) :: mW G (k + 1) D
theorem mV_cat (G : mG) (v : Value) : (mV G v).category = v.category := by cases v <;> rfl
theorem mV_rf (G : mG) (r : Option Nat) : mV G (va_rf r) = va_rf (r.map (mAd G)) := by cases r <;> rfl
theorem mAd_lt {G : mG} {i : Nat} (h : i < 1000000) : mAd G i = G.1 + i := if_pos h
theorem mW_get (G : mG) : ∀ (D : mHp) (k i : Nat), (mW G k D)[i]? = (D[i]?).map (fun c => (G.1 + (k + i), mCE G c)) := by
  intro D
  induction D with
  | nil => intro k i; simp [mW]
  | cons c D ih =>
    intro k i
    cases i with
    | zero => simp [mW]
    | succ i =>
      simp only [mW, List.getElem?_cons_succ]
      rw [ih, show k + 1 + i = k + (i + 1) by omega]
theorem mW_at {G : mG} {D : mHp} {i : Nat} {c : va_E} (h : D[i]? = some c) : (mW G 0 D)[i]? = some (G.1 + i, mCE G c) := by
  rw [mW_get, h, Option.map_some, Nat.zero_add]
theorem mW_set (G : mG) (c : va_E) : ∀ (D : mHp) (k i : Nat), mW G k (D.set i c) = (mW G k D).set i (G.1 + (k + i), mCE G c) := by
  intro D
  induction D with
  | nil => intro k i; simp [mW]
  | cons d D ih =>
    intro k i
    cases i with
    | zero => simp [mW]
    | succ i =>
      simp only [mW, List.set_cons_succ]
      rw [ih, show k + 1 + i = k + (i + 1) by omega]
theorem mW_set0 (G : mG) (D : mHp) (i : Nat) (c : va_E) : mW G 0 (D.set i c) = (mW G 0 D).set i (G.1 + i, mCE G c) := by rw [mW_set, Nat.zero_add]
theorem mW_app (G : mG) (E : mHp) : ∀ (D : mHp) (k : Nat), mW G k (D ++ E) = mW G k D ++ mW G (k + D.length) E := by
  intro D
  induction D with
  | nil => intro k; simp [mW]
  | cons d D ih =>
    intro k
    simp only [List.cons_append, mW, List.length_cons]
    rw [ih, show k + 1 + D.length = k + (D.length + 1) by omega]
abbrev mA (G : mG) : Nat → Prop := fun q => G.1 ≤ q
theorem mW_D (G : mG) (D : mHp) : va_D (mA G) (mW G 0 D) := by
  refine ⟨fun i j p q hi hj h => ?_, fun k q hk => ?_⟩
  · rw [mW_get] at hi hj
    obtain ⟨c, -, rfl⟩ := Option.map_eq_some_iff.mp hi
    obtain ⟨d, -, rfl⟩ := Option.map_eq_some_iff.mp hj
    have h9 : G.1 + (0 + i) = G.1 + (0 + j) := h
    omega
  · rw [mW_get] at hk
    obtain ⟨c, -, rfl⟩ := Option.map_eq_some_iff.mp hk
    show G.1 ≤ G.1 + (0 + k)
    omega
def mMS (G : mG) (D : mHp) (H : Heap) : Prop := va_P G.2.2.1 vwCl (mW G 0 D) H
theorem mMS.low {G : mG} {D : mHp} {H : Heap} (h : mMS G D H) (h0 : G.1 ≤ H.size) : G.1 + D.length ≤ H.size := by
  cases hD : D.length with
  | zero => omega
  | succ n =>
    obtain ⟨c, hc⟩ : ∃ c, D[n]? = some c := ⟨D[n]'(by omega), List.getElem?_eq_getElem (by omega)⟩
    have := (h n _ (mW_at hc)).lt
    have h9 : G.1 + n < H.size := this
    omega
abbrev mTys (G : mG) : List (ClassId × FieldType) := [(G.2.2.2.1 0, .int), (G.2.2.2.1 1, .byte), (G.2.2.2.1 2, .object "EnvyRust$Sheet"), (G.2.2.2.1 3, .array .int), (G.2.2.2.1 4, .object "java/lang/String")]
/-- the words that every table keeps -/
noncomputable def mGW : List Cond := lw_tbl.filter goodWord
def mNest (w : Cond) : Bool := match w with
  | .fieldLinkNest .. => true
  | .methodLinkNest .. => true
  | _ => false
noncomputable def mNW : List Cond := lw_tbl.filter mNest
theorem mGW_good : GoodIn mGW mGW := fun w h => ⟨h, good_of_word (List.mem_filter.mp h).2⟩
theorem mGW_in {i : Nat} {w : Cond} (h : lw_tbl[i]? = some w) (hg : goodWord w = true) : w ∈ mGW := List.mem_filter.mpr ⟨List.mem_of_getElem? h, hg⟩
theorem mNW_in {i : Nat} {w : Cond} (h : lw_tbl[i]? = some w) (hg : mNest w = true) : w ∈ mNW := List.mem_filter.mpr ⟨List.mem_of_getElem? h, hg⟩
/-- what holds of the tables and of the cells that nobody writes: classes, links, texts, the kinds' table, the script -/
noncomputable def mE (G : mG) (U : State) (H : Heap) : Prop :=
  va_K G.2.2.1 vwCl (mTys G) U ∧ (∀ w ∈ mNW, va_Nw w U) ∧ (va_AO "EnvyRust$Sheet" U ∧ va_AO "java/lang/String" U ∧ (Cond.arrayOver (.array .int)).before #[] U = true) ∧
  (∀ t, t < 15 → va_O "java/lang/String" (G.2.1 t) (mA G) U H ∧ va_OF "java/lang/String" "coder" "B" (.int 0) (G.2.1 t) (mA G) U H ∧ va_OF "java/lang/String" "value" "[B" (.ref (G.2.1 (300 + t))) (G.2.1 t) (mA G) U H ∧ va_T .byte (G.2.1 (300 + t)) (mTx.getD t []).length (fun j => .int (nI ((mTx.getD t []).getD j 0))) (mA G) U H) ∧ (∀ q ∈ mLT, q.2.2.1 = 3 → vk_R (mNm q.1) q.2.1 (mTs.getD q.2.2.2.2.1 "") (G.2.1 q.2.2.2.2.1) U) ∧
  va_Z "EnvyRust" "KIND_ABOVE" "[I" (.ref (G.2.1 100)) (mA G) U H ∧ va_T .int (G.2.1 100) 7 (fun j => .int (mKA j)) (mA G) U H ∧ va_T .int (G.2.1 200) G.2.2.2.2.1 (fun j => .int (G.2.2.2.2.2 j)) (mA G) U H ∧
  (va_Z "java/lang/String" "COMPACT_STRINGS" "Z" (.int 1) (mA G) U H ∧ va_Zq "jdk/internal/util/Preconditions" "SIOOBE_FORMATTER" "Ljava/util/function/BiFunction;" (mA G) U H)
theorem mAO_moved {t : FieldType} {u U : State} (hvm : u.vm.Alike U.vm) (h : (Cond.arrayOver (.array t)).before #[] u = true) : (Cond.arrayOver (.array t)).before #[] U = true := by
  have h0 : (Cond.arrayOver (.array t)).before #[] u = true := h
  simp only [Cond.before, Cond.holds, Cond.value, beq_iff_eq] at h
  cases hc : u.vm.findClass (FieldType.array t).toString with
  | none => simp [hc] at h
  | some comp =>
    simp only [hc, Option.bind_some, Option.bind_eq_some_iff, Option.map_eq_some_iff] at h
    obtain ⟨c, h2, k, h3, hb⟩ := h
    obtain ⟨k', hk', he⟩ := hvm.2.2 _ _ h3
    have hi := (va_idx_bare U.vm comp).symm.trans ((congrArg (fun b : Vm => (b.classes.findIdx? fun (x : Class) => match x.kind with | .array component _ => component == comp | _ => false)) hvm.bare_eq).trans ((va_idx_bare u.vm comp).trans h2))
    have hkind : k'.kind = k.kind := by rw [he]
    have f1 : U.vm.findClass (FieldType.array t).toString = some comp := by rw [hvm.findClass]; exact hc
    unfold Cond.before Cond.holds
    simp only [Cond.value]
    rw [f1, Option.bind_some]
    refine (congrArg (fun o : Option Nat => (o.bind (fun c => (U.vm.classes[c]?).map fun (k : Class) => match k.kind with | .array _ ty => decide (ty = FieldType.array t) && decide (U.vm.findClass ("[" ++ (FieldType.array t).toString) = some c) | _ => false) == some true)) hi).trans ?_
    cases hkk : k.kind with
    | array c0 ty =>
      rw [hkk] at hb hkind
      simp only [Bool.and_eq_true, decide_eq_true_eq] at hb
      simp [hk', hkind, hvm.findClass, hb.1, hb.2]
    | _ => rw [hkk] at hb; simp at hb
theorem mE_to {G : mG} {s U : State} {H H1 : Heap} (hA : s.vm.Alike U.vm) (hN : ∀ w ∈ mNW, va_Nw w s → va_Nw w U) (hR : ∀ own k tx a, vk_R own k tx a s → vk_R own k tx a U) (hq : ∀ a : Nat, a < H.size → ¬ mA G a → H1[a]? = H[a]?) (h : mE G s H) : mE G U H1 := by
  obtain ⟨h1, h2, ⟨h3, h4, h5⟩, h6, h7, h8, h9, h10, h11, h12⟩ := h
  exact ⟨h1.moved hA, fun w hw => hN w hw (h2 w hw), ⟨h3.moved hA, h4.moved hA, mAO_moved hA h5⟩, fun t ht => ⟨((h6 t ht).1.moved hA).kept hq, ((h6 t ht).2.1.moved hA).kept hq, ((h6 t ht).2.2.1.moved hA).kept hq, ((h6 t ht).2.2.2.moved hA).kept hq⟩, fun q hq hk => hR _ _ _ _ (h7 q hq hk), (h8.moved hA).kept hq, (h9.moved hA).kept hq, (h10.moved hA).kept hq, (h11.moved hA).kept hq, (h12.moved hA).kept hq⟩
theorem mE_call {G : mG} {s U : State} {H : Heap} {locs : List Loc} (h : mE G s s.heap) (hW : s.WarmedH U.vm) (hU : U.heap = H) (hS : va_S (mA G) s.heap H locs) : mE G U U.heap := by
  rw [hU]
  refine mE_to hW.alike (fun w hw hn => ?_) (fun _ _ _ _ => vk_R.warm hW) (fun a ha hna => hS.2.1 a ha hna) h
  have hk := (List.mem_filter.mp hw).2
  unfold mNest at hk
  split at hk
  · exact va_Nw.warmF hW hn
  · exact va_Nw.warmM hW hn
  · cases hk
theorem mE_calling {G : mG} {U : State} {g : JFrame} {mk : MethodId} {a : Array Value} (h : mE G U U.heap) : mE G (U.calling g mk a) (U.calling g mk a).heap := by
  refine mE_to (H := U.heap) (H1 := U.heap) (Vm.Alike.refl U.vm) (fun w hw hn => ?_) (fun _ _ _ _ h => vk_R.same (u := U) rfl h) (fun _ _ _ => rfl) h
  have hk := (List.mem_filter.mp hw).2
  unfold mNest at hk
  split at hk
  · exact va_Nw.same rfl (u := U) rfl hn
  · exact va_Nw.same rfl (u := U) rfl hn
  · cases hk
/-- the locals -/
def mLR (G : mG) (ls : Array Slot) (nL : Nat) (L : mLoc) : Prop := L.length = nL ∧ ls.size = nL ∧ lv_wf ls ∧ ∀ (i : Nat) (v : Value), L[i]? = some (some v) → ls[i]? = some (.val (mV G v))
def mPr (G : mG) (L : mLoc) : List (Nat × Value) := (List.range L.length).filterMap fun i => match L[i]? with
  | some (some v) => some (i, mV G v)
  | _ => none
theorem mPr_mem {G : mG} {L : mLoc} {i : Nat} {v : Value} (h : L[i]? = some (some v)) : (i, mV G v) ∈ mPr G L := by
  refine List.mem_filterMap.mpr ⟨i, List.mem_range.mpr (List.getElem?_eq_some_iff.mp h).1, ?_⟩
  rw [h]
theorem mLR.has {G : mG} {ls : Array Slot} {nL : Nat} {L : mLoc} (h : mLR G ls nL L) : lv_has ls nL (mPr G L) := by
  refine ⟨h.2.1, h.2.2.1, fun q hq => ?_⟩
  obtain ⟨i, -, hi⟩ := List.mem_filterMap.mp hq
  split at hi
  · rename_i v hv
    cases hi
    exact h.2.2.2 i v hv
  · cases hi
theorem mS1_spec {L L' : mLoc} {i : Nat} {v : Value} (h : mS1 L i v = some L') : i < L.length ∧ mOk L i = true ∧ L' = L.set i (some v) := by
  unfold mS1 at h
  cases hb : (Nat.blt i L.length && mOk L i) with
  | false => rw [hb] at h; cases h
  | true =>
    rw [hb] at h
    simp only [Bool.and_eq_true] at hb
    exact ⟨Nat.blt_eq.mp hb.1, hb.2, (Option.some.inj h).symm⟩
theorem mS2_spec {L L' : mLoc} {i : Nat} {v : Value} (h : mS2 L i v = some L') : i + 1 < L.length ∧ mOk L i = true ∧ L' = (L.set i (some v)).set (i + 1) none := by
  unfold mS2 at h
  cases hb : (Nat.blt (i + 1) L.length && mOk L i) with
  | false => rw [hb] at h; cases h
  | true =>
    rw [hb] at h
    simp only [Bool.and_eq_true] at hb
    exact ⟨Nat.blt_eq.mp hb.1, hb.2, (Option.some.inj h).symm⟩
theorem mOk_cat {L : mLoc} {i j : Nat} {w : Value} (h : mOk L i = true) (hj : L[j]? = some (some w)) (hji : j + 1 = i) : w.category = 1 := by
  subst hji
  unfold mOk at h
  simp only [hj] at h
  exact Nat.eq_of_beq_eq_true h
theorem mLR.put1 {G : mG} {ls ls' : Array Slot} {nL : Nat} {L L' : mLoc} {i : Nat} {v : Value} (h : mLR G ls nL L) (hs : mS1 L i v = some L') (hl : lv_has ls' nL ((i, mV G v) :: (mPr G L).filter (fun q => !(q.1 == i) && !(q.1 + 1 == i && q.2.category == 2)))) : mLR G ls' nL L' := by
  obtain ⟨h1, h2, rfl⟩ := mS1_spec hs
  refine ⟨by rw [List.length_set]; exact h.1, hl.1, hl.2.1, fun j w hj => ?_⟩
  by_cases hji : i = j
  · subst hji
    rw [List.getElem?_set_self h1] at hj
    cases hj
    exact hl.2.2 _ List.mem_cons_self
  · rw [List.getElem?_set_ne hji] at hj
    refine hl.2.2 (j, mV G w) (List.mem_cons_of_mem _ (List.mem_filter.mpr ⟨mPr_mem hj, ?_⟩))
    have e1 : (j == i) = false := by simpa using fun e => hji e.symm
    have e2 : (j + 1 == i && (mV G w).category == 2) = false := by
      by_cases hk : j + 1 = i
      · rw [mV_cat, mOk_cat h2 hj hk]; simp
      · simp [hk]
    show (!(j == i) && !(j + 1 == i && (mV G w).category == 2)) = true
    rw [e1, e2]; rfl
theorem mLR.put2 {G : mG} {ls ls' : Array Slot} {nL : Nat} {L L' : mLoc} {i : Nat} {v : Value} (h : mLR G ls nL L) (hs : mS2 L i v = some L') (hl : lv_has ls' nL ((i, mV G v) :: (mPr G L).filter (fun q => !(q.1 == i) && (!(q.1 == i + 1) && !(q.1 + 1 == i && q.2.category == 2))))) : mLR G ls' nL L' := by
  obtain ⟨h1, h2, rfl⟩ := mS2_spec hs
  refine ⟨by rw [List.length_set, List.length_set]; exact h.1, hl.1, hl.2.1, fun j w hj => ?_⟩
  by_cases hj1 : i + 1 = j
  · subst hj1
    rw [List.getElem?_set_self (by rw [List.length_set]; exact h1)] at hj
    cases hj
  · rw [List.getElem?_set_ne hj1] at hj
    by_cases hji : i = j
    · subst hji
      rw [List.getElem?_set_self (by omega)] at hj
      cases hj
      exact hl.2.2 _ List.mem_cons_self
    · rw [List.getElem?_set_ne hji] at hj
      refine hl.2.2 (j, mV G w) (List.mem_cons_of_mem _ (List.mem_filter.mpr ⟨mPr_mem hj, ?_⟩))
      have e1 : (j == i) = false := by simpa using fun e => hji e.symm
      have e3 : (j == i + 1) = false := by simpa using fun e => hj1 e.symm
      have e2 : (j + 1 == i && (mV G w).category == 2) = false := by
        by_cases hk : j + 1 = i
        · rw [mV_cat, mOk_cat h2 hj hk]; simp
        · simp [hk]
      show (!(j == i) && (!(j == i + 1) && !(j + 1 == i && (mV G w).category == 2))) = true
      rw [e1, e2, e3]; rfl
theorem mSl_set {D : mHp} {i : Nat} {c c' : va_E} (h : D[i]? = some c) (hz : mSz c' = mSz c) : mSl (D.set i c') = mSl D := by
  induction D generalizing i with
  | nil => simp at h
  | cons d D ih =>
    cases i with
    | zero =>
      simp only [List.getElem?_cons_zero, Option.some.injEq] at h
      subst h
      simp [mSl, hz]
    | succ i =>
      simp only [List.getElem?_cons_succ] at h
      have := ih h
      simp only [mSl, List.set_cons_succ, List.map_cons, List.sum_cons] at this ⊢
      omega
theorem mSl_app (D E : mHp) : mSl (D ++ E) = mSl D + mSl E := by simp [mSl]
end
section
/-! ===== what a program decides of the tables ===== -/
/-- of the pairs at the list's head all that have the number k name the word w; the rest -/
def mTake (k : Nat) (w : Cond) : List (Nat × Cond) → Option (List (Nat × Cond))
  | [] => some []
  | q :: r => cond (Nat.beq q.1 k) (cond (decide (q.2 = w)) (mTake k w r) none) (some (q :: r))
def mWalk : Nat → List Cond → List (Nat × Cond) → Bool
  | _, [], r => r.isEmpty
  | k, w :: ws, r => match mTake k w r with
    | some r' => mWalk (k + 1) ws r'
    | none => false
theorem mTake_spec {k : Nat} {w : Cond} : ∀ {r r' : List (Nat × Cond)}, mTake k w r = some r' → ∀ q ∈ r, q.2 = w ∨ q ∈ r' := by
  intro r
  induction r with
  | nil => intro r' _ q hq; cases hq
  | cons d r ih =>
    intro r' h q hq
    unfold mTake at h
    cases hb : Nat.beq d.1 k with
    | false =>
      rw [hb] at h
      cases h
      exact Or.inr hq
    | true =>
      rw [hb] at h
      by_cases hw : d.2 = w
      · simp only [hw, decide_true, cond_true] at h
        rcases List.mem_cons.mp hq with rfl | hq
        · exact Or.inl hw
        · exact ih h q hq
      · simp [hw] at h
theorem mWalk_spec : ∀ {ws : List Cond} {k : Nat} {r : List (Nat × Cond)}, mWalk k ws r = true → ∀ q ∈ r, q.2 ∈ ws := by
  intro ws
  induction ws with
  | nil =>
    intro k r h q hq
    have : r = [] := by simpa [mWalk] using h
    subst this
    cases hq
  | cons w ws ih =>
    intro k r h q hq
    unfold mWalk at h
    cases ht : mTake k w r with
    | none => rw [ht] at h; cases h
    | some r' =>
      rw [ht] at h
      rcases mTake_spec ht q hq with h1 | h1
      · rw [h1]; exact List.mem_cons_self
      · exact List.mem_cons_of_mem _ (ih h q h1)
noncomputable def mY (i : Nat) : MethodName := ((mMet i).map fun r => r.2.1).getD ⟨"", "", ""⟩
def mCo (t : Nat) : String := match t with
  | 2 => "EnvyRust$Sheet"
  | _ => "java/lang/String"
def mStrLen : MethodName := ⟨"java/lang/String", "length", "()I"⟩
def mStrChr : MethodName := ⟨"java/lang/String", "charAt", "(I)C"⟩
noncomputable def mLwd (q : mLnk) : Cond := match q.2.2.1 with
  | 0 => .fieldLink (mNm q.1) q.2.1 (mNm q.2.2.2.1) (mFT q.2.2.2.1 q.2.2.2.2.1).2.1 (mFT q.2.2.2.1 q.2.2.2.2.1).2.2.1
  | 1 => .fieldLinkNest (mNm q.1) q.2.1 (mNm q.2.2.2.1) (mFT q.2.2.2.1 q.2.2.2.2.1).2.1 (mFT q.2.2.2.1 q.2.2.2.2.1).2.2.1 "EnvyRust"
  | 2 => .constant (mNm q.1) q.2.1 (Int32.ofInt q.2.2.2.2.2)
  | 3 => .stringRef (mNm q.1) q.2.1 (mTs.getD q.2.2.2.2.1 "")
  | 4 => .classLink (mNm q.1) q.2.1 (mNm q.2.2.2.1)
  | 5 => .classLink (mNm q.1) q.2.1 (mCo q.2.2.2.1)
  | 6 => .classLink (mNm q.1) q.2.1 "[[I"
  | 7 => .fieldLink (mNm q.1) q.2.1 "EnvyRust" "KIND_ABOVE" "[I"
  | 10 => .methodLink (mNm q.1) q.2.1 (mY q.2.2.2.1)
  | 12 => .methodLink (mNm q.1) q.2.1 (mY q.2.2.2.1)
  | 14 => .methodLink (mNm q.1) q.2.1 (mY q.2.2.2.1)
  | 11 => .methodLinkNest (mNm q.1) q.2.1 (mY q.2.2.2.1) "EnvyRust"
  | 13 => .methodLinkNest (mNm q.1) q.2.1 (mY q.2.2.2.1) "EnvyRust"
  | 15 => .methodLinkNest (mNm q.1) q.2.1 (mY q.2.2.2.1) "EnvyRust"
  | 20 => .methodLink (mNm q.1) q.2.1 Lib.objectInit
  | 21 => .methodLink (mNm q.1) q.2.1 arraycopyName
  | 22 => .methodLink (mNm q.1) q.2.1 mStrLen
  | 24 => .methodLink (mNm q.1) q.2.1 Lib.Math.max.name
  | 25 => .methodLink (mNm q.1) q.2.1 Lib.Math.min.name
  | _ => .methodLink (mNm q.1) q.2.1 mStrChr
noncomputable def mLck (q : mLnk) : Bool := match q.2.2.1 with
  | 0 => goodWord (mLwd q) && Nat.blt q.2.2.2.1 5 && Nat.blt q.2.2.2.2.1 (mFN q.2.2.2.1) && decide ((mFT q.2.2.2.1 q.2.2.2.2.1).1 = mNm q.2.2.2.1)
  | 1 => mNest (mLwd q) && Nat.blt q.2.2.2.1 5 && Nat.blt q.2.2.2.2.1 (mFN q.2.2.2.1) && decide ((mFT q.2.2.2.1 q.2.2.2.2.1).1 = mNm q.2.2.2.1)
  | 3 => Nat.blt q.2.2.2.2.1 15
  | 4 => goodWord (mLwd q) && Nat.blt q.2.2.2.1 5
  | 5 => goodWord (mLwd q) && (Nat.beq q.2.2.2.1 2 || Nat.beq q.2.2.2.1 4)
  | 10 => goodWord (mLwd q) && decide ((parseMethodDescriptor (mY q.2.2.2.1).desc).map (fun d => d.parameters.length + 1) = some q.2.2.2.2.1)
  | 11 => mNest (mLwd q) && decide ((parseMethodDescriptor (mY q.2.2.2.1).desc).map (fun d => d.parameters.length + 1) = some q.2.2.2.2.1)
  | 12 => goodWord (mLwd q) && decide ((parseMethodDescriptor (mY q.2.2.2.1).desc).map (fun d => d.parameters.length) = some q.2.2.2.2.1)
  | 13 => mNest (mLwd q) && decide ((parseMethodDescriptor (mY q.2.2.2.1).desc).map (fun d => d.parameters.length) = some q.2.2.2.2.1)
  | 14 => goodWord (mLwd q) && decide ((parseMethodDescriptor (mY q.2.2.2.1).desc).map (fun d => d.parameters.length + 1) = some q.2.2.2.2.1) && decide ((mY q.2.2.2.1).name = "<init>")
  | 15 => mNest (mLwd q) && decide ((parseMethodDescriptor (mY q.2.2.2.1).desc).map (fun d => d.parameters.length + 1) = some q.2.2.2.2.1) && decide ((mY q.2.2.2.1).name = "<init>")
  | _ => goodWord (mLwd q)
theorem mLT_ck : mLT.all mLck = true := by decide +kernel
theorem mLT_wk : mWalk 0 tables_1 (mLH.zip (mLT.map mLwd)) = true := by decide +kernel
theorem mLT_len : mLT.length = mLH.length := by decide +kernel
theorem mTb_in {w : Cond} (h : w ∈ tables_1) : w ∈ lw_tbl := List.mem_append_right _ h
theorem mTb_gw {w : Cond} (h : w ∈ tables_1) (hg : goodWord w = true) : w ∈ mGW := List.mem_filter.mpr ⟨mTb_in h, hg⟩
theorem mTb_nw {w : Cond} (h : w ∈ tables_1) (hg : mNest w = true) : w ∈ mNW := List.mem_filter.mpr ⟨mTb_in h, hg⟩
theorem mLT_at {j : Nat} {q : mLnk} (h : mLT[j]? = some q) : mLwd q ∈ tables_1 ∧ mLck q = true := by
  have hj : j < mLT.length := (List.getElem?_eq_some_iff.mp h).1
  have hk : j < mLH.length := by rw [← mLT_len]; exact hj
  refine ⟨?_, List.all_eq_true.mp mLT_ck _ (List.mem_of_getElem? h)⟩
  refine mWalk_spec mLT_wk (mLH[j], mLwd q) (List.mem_of_getElem? (i := j) ?_)
  rw [List.getElem?_zip_eq_some]
  exact ⟨List.getElem?_eq_getElem hk, by rw [List.getElem?_map, h]; rfl⟩
noncomputable def mCw (r : mRow) : MethodName × ByteArray × Nat × Option FieldType := (r.2.1, r.2.2.1, r.2.2.2.1, r.2.2.2.2.1)
set_option maxRecDepth 100000 in
theorem mM_cw : tables_1.filterMap (fun w => match w with
    | .code y b n r => some (y, b, n, r)
    | _ => none) = mMs.flatten.dropLast.map mCw := by rfl
end
section
theorem mIS_wk : mWalk 0 tables_1 (mIS.map fun q => (q.1, cond (Nat.beq q.2.2 1) (.static (mY q.2.1)) (.instanceMethod (mY q.2.1)))) = true := by decide +kernel
theorem mSE2_wk : mWalk 0 tables_1 (mSE2.map fun q => (q.1, .selects (mY q.2).cls (mY q.2) (mY q.2))) = true := by decide +kernel
theorem mSE1_wk : mWalk 0 (k2_sels lw_privs) (mSE1.map fun q => (q.1, .selects (mY q.2).cls (mY q.2) (mY q.2))) = true := by decide +kernel
theorem mIN_wk : mWalk 0 tables_1 (mIN.map fun q => (q.1, .initialized (mNm q.2))) = true := by decide +kernel
noncomputable def mMck (i : Nat) (r : mRow) : Bool := Nat.beq r.1 5 || Nat.ble 7 r.1 || (plainName r.2.1.cls && decide (r.2.1.cls = mNm r.1) && decide (r.2.1.cls ≠ "java/lang/invoke/MethodHandle" ∧ r.2.1.cls ≠ "java/lang/invoke/VarHandle")
  && mIN.any (fun q => Nat.beq q.2 r.1) && (mIS.any (fun q => Nat.beq q.2.1 i && Nat.beq q.2.2 1) || (mIS.any (fun q => Nat.beq q.2.1 i && !Nat.beq q.2.2 1) && (decide (r.2.1.name = "<init>") || mSE1.any (fun q => Nat.beq q.2 i) || mSE2.any (fun q => Nat.beq q.2 i)))))
theorem mM_ck : (List.range 256).all (fun i => match mMet i with
    | some r => mMck i r
    | none => true) = true := by decide +kernel
theorem mMs_len : mMs.length ≤ 16 := by decide +kernel
theorem mMs_last : mMs.flatten.getLast?.map (fun r => r.1) = some 5 := by decide +kernel
theorem mMet_lt {i : Nat} {r : mRow} (h : mMet i = some r) : i < 256 := by
  unfold mMet at h
  cases hl : mMs[i / 16]? with
  | none => rw [hl] at h; cases h
  | some l =>
    have := (List.getElem?_eq_some_iff.mp hl).1
    have := mMs_len
    omega
theorem mMet_in {i : Nat} {r : mRow} (h : mMet i = some r) : r ∈ mMs.flatten := by
  unfold mMet at h
  cases hl : mMs[i / 16]? with
  | none => rw [hl] at h; cases h
  | some l =>
    rw [hl, Option.bind_some] at h
    exact List.mem_flatten.mpr ⟨l, List.mem_of_getElem? hl, List.mem_of_getElem? h⟩
theorem mY_of {i : Nat} {r : mRow} (h : mMet i = some r) : mY i = r.2.1 := by unfold mY; rw [h]; rfl
theorem mM_code {i : Nat} {r : mRow} (h : mMet i = some r) (h5 : r.1 ≠ 5) : Cond.code r.2.1 r.2.2.1 r.2.2.2.1 r.2.2.2.2.1 ∈ tables_1 := by
  have hr := mMet_in h
  have hd : r ∈ mMs.flatten.dropLast := by
    have hn : mMs.flatten ≠ [] := fun e => by rw [e] at hr; cases hr
    rw [← List.dropLast_concat_getLast hn] at hr
    rcases List.mem_append.mp hr with q | q
    · exact q
    · exfalso
      have hl := mMs_last
      rw [List.getLast?_eq_some_getLast hn] at hl
      rw [List.mem_singleton.mp q] at h5
      exact h5 (Option.some.inj hl)
  have hm : mCw r ∈ mMs.flatten.dropLast.map mCw := List.mem_map.mpr ⟨r, hd, rfl⟩
  rw [← mM_cw] at hm
  obtain ⟨w, hw, he⟩ := List.mem_filterMap.mp hm
  split at he
  · cases he
    exact hw
  · cases he
theorem mM_at {i : Nat} {r : mRow} (h : mMet i = some r) (h5 : Nat.ble r.1 6 = true) (h6 : r.1 ≠ 5) : plainName r.2.1.cls = true ∧ r.2.1.cls = mNm r.1 ∧ (r.2.1.cls ≠ "java/lang/invoke/MethodHandle" ∧ r.2.1.cls ≠ "java/lang/invoke/VarHandle")
    ∧ Cond.initialized r.2.1.cls ∈ tables_1 ∧ (Cond.static r.2.1 ∈ tables_1 ∨ (Cond.instanceMethod r.2.1 ∈ tables_1 ∧ (r.2.1.name = "<init>" ∨ Cond.selects r.2.1.cls r.2.1 r.2.1 ∈ lw_tbl))) := by
  have hc := List.all_eq_true.mp mM_ck i (List.mem_range.mpr (mMet_lt h))
  simp only [h] at hc
  unfold mMck at hc
  have e5 : Nat.beq r.1 5 = false := by
    cases hb : Nat.beq r.1 5 with
    | false => rfl
    | true => exact absurd (Nat.eq_of_beq_eq_true hb) h6
  have e7 : Nat.ble 7 r.1 = false := by
    cases hb : Nat.ble 7 r.1 with
    | false => rfl
    | true =>
      have := Nat.le_of_ble_eq_true hb
      have := Nat.le_of_ble_eq_true h5
      omega
  rw [e5, e7] at hc
  simp only [Bool.false_or, Bool.and_eq_true, decide_eq_true_eq, Bool.or_eq_true, List.any_eq_true] at hc
  obtain ⟨⟨⟨⟨h1, h2⟩, h3⟩, qi, hqi, hqe⟩, h8⟩ := hc
  have hY := mY_of h
  refine ⟨h1, h2, h3, ?_, ?_⟩
  · have hm := mWalk_spec mIN_wk _ (List.mem_map.mpr ⟨qi, hqi, rfl⟩)
    rw [h2]
    have : qi.2 = r.1 := Nat.eq_of_beq_eq_true hqe
    rw [← this]
    exact hm
  · rcases h8 with ⟨q, hq, hqa, hqb⟩ | ⟨⟨q, hq, hqa, hqb⟩, h9⟩
    · left
      have hm := mWalk_spec mIS_wk _ (List.mem_map.mpr ⟨q, hq, rfl⟩)
      simp only [hqb, cond_true] at hm
      rw [Nat.eq_of_beq_eq_true hqa, hY] at hm
      exact hm
    · right
      refine ⟨?_, ?_⟩
      · have hm := mWalk_spec mIS_wk _ (List.mem_map.mpr ⟨q, hq, rfl⟩)
        have hqb' : Nat.beq q.2.2 1 = false := by simpa using hqb
        simp only [hqb', cond_false] at hm
        rw [Nat.eq_of_beq_eq_true hqa, hY] at hm
        exact hm
      · rcases h9 with (h9 | ⟨q, hq, hqa⟩) | ⟨q, hq, hqa⟩
        · exact Or.inl h9
        · right
          have hm := mWalk_spec mSE1_wk _ (List.mem_map.mpr ⟨q, hq, rfl⟩)
          simp only [Nat.eq_of_beq_eq_true hqa, hY] at hm
          exact List.mem_append_left _ hm
        · right
          have hm := mWalk_spec mSE2_wk _ (List.mem_map.mpr ⟨q, hq, rfl⟩)
          simp only [Nat.eq_of_beq_eq_true hqa, hY] at hm
          exact mTb_in hm
def mKi (i : Instr) : Option Nat := match i with
  | .getfield k => some k
  | .putfield k => some k
  | .getstatic k => some k
  | .ldc k => some k
  | .ldc_w k => some k
  | .new k => some k
  | .anewarray k => some k
  | .multianewarray k _ => some k
  | .invokestatic k => some k
  | .invokevirtual k => some k
  | .invokespecial k => some k
  | _ => none
def mKd (i : Instr) (k : Nat) : Bool := match i with
  | .getfield _ => Nat.ble k 1
  | .putfield _ => Nat.ble k 1
  | .getstatic _ => Nat.beq k 7
  | .ldc _ => Nat.beq k 2 || Nat.beq k 3
  | .ldc_w _ => Nat.beq k 2 || Nat.beq k 3
  | .new _ => Nat.beq k 4
  | .anewarray _ => Nat.beq k 5
  | .multianewarray _ _ => Nat.beq k 6
  | .invokestatic _ => Nat.beq k 12 || Nat.beq k 13 || Nat.beq k 21 || Nat.beq k 24 || Nat.beq k 25
  | .invokevirtual _ => Nat.beq k 10 || Nat.beq k 11 || Nat.beq k 22 || Nat.beq k 23
  | .invokespecial _ => Nat.beq k 14 || Nat.beq k 15 || Nat.beq k 20
  | _ => true
/-- the callee's room fits, and it is no law -/
noncomputable def mRm (row : mRow) (k a : Nat) : Bool := match k with
  | 20 => Nat.ble 1 row.2.2.2.2.2.1 && Nat.ble 20 row.2.2.2.2.2.2
  | 21 => Nat.ble 1 row.2.2.2.2.2.1 && Nat.ble 30 row.2.2.2.2.2.2
  | 22 => Nat.ble 2 row.2.2.2.2.2.1 && Nat.ble 40 row.2.2.2.2.2.2
  | 23 => Nat.ble 5 row.2.2.2.2.2.1 && Nat.ble 121 row.2.2.2.2.2.2
  | 24 => Nat.ble 1 row.2.2.2.2.2.1 && Nat.ble 21 row.2.2.2.2.2.2
  | 25 => Nat.ble 1 row.2.2.2.2.2.1 && Nat.ble 21 row.2.2.2.2.2.2
  | _ => match mMet a with
    | some r => Nat.ble (r.2.2.2.2.2.1 + 1) row.2.2.2.2.2.1 && Nat.ble (8 + (r.2.2.2.1 + 11) + r.2.2.2.2.2.2) row.2.2.2.2.2.2 && !Nat.beq r.1 5 && Nat.ble r.1 6
    | none => false
def mLn (i : Instr) : Nat := match i with
  | .bipush _ => 2
  | .sipush _ => 3
  | .ldc _ => 2
  | .ldc_w _ => 3
  | .iload _ => 2
  | .lload _ => 2
  | .aload _ => 2
  | .istore _ => 2
  | .lstore _ => 2
  | .astore _ => 2
  | .iinc _ _ => 3
  | .ifCond _ _ => 3
  | .if_icmp _ _ => 3
  | .goto _ => 3
  | .getfield _ => 3
  | .putfield _ => 3
  | .getstatic _ => 3
  | .invokestatic _ => 3
  | .invokevirtual _ => 3
  | .invokespecial _ => 3
  | .new _ => 3
  | .newarray _ => 2
  | .anewarray _ => 3
  | .multianewarray _ _ => 4
  | _ => 1
def mLnk' (i : Instr) (n : Nat) : Bool := match i with
  | .tableswitch _ _ _ _ => true
  | i => Nat.beq n (mLn i)
noncomputable def mEck (row : mRow) (e : mEnt) : Bool := mLnk' e.1 e.2.1 && match mKi e.1 with
  | none => true
  | some idx => mKd e.1 e.2.2.2.1 && decide (mLT[e.2.2.1]? = some (row.1, idx, e.2.2.2.1, e.2.2.2.2.1, e.2.2.2.2.2.1, e.2.2.2.2.2.2)) && (Nat.blt e.2.2.2.1 10 || mRm row e.2.2.2.1 e.2.2.2.2.1)
/-- the code read in a line, by windows -/
noncomputable def mLin : List UInt8 → Nat → List (Option mEnt) → Bool
  | _, _, [] => true
  | l, pc, none :: t => mLin l.tail (pc + 1) t
  | l, pc, some e :: t => (!l.isEmpty && match Decoder.instr pc (Jvm.Free.DS.win l pc e.2.1) (pc % 4) with
    | .ok (j, q) => decide (j = e.1) && Nat.beq q (pc % 4 + e.2.1)
    | .error _ => false) && mLin l.tail (pc + 1) t
noncomputable def mLinC : List UInt8 → Nat → List (List (Option mEnt)) → Bool
  | _, _, [] => true
  | l, k, c :: t => mLin l (32 * k) c && mLinC (l.drop 32) (k + 1) t
noncomputable def mCd (i : Nat) : Bool := match mMet i, mCode i with
  | some row, some k => mLinC row.2.2.1.data.toList 0 k
  | none, none => true
  | _, _ => false
noncomputable def mCe (i : Nat) : Bool := match mMet i, mCode i with
  | some row, some k => k.all fun c => c.all fun e => match e with
    | none => true
    | some e => mEck row e
  | none, none => true
  | _, _ => false
noncomputable def mCk (i : Nat) : Bool := mCd i && mCe i
theorem mLin_at {code : ByteArray} : ∀ (t : List (Option mEnt)) (l : List UInt8) (pc i : Nat) (e : mEnt), mLin l pc t = true → (∀ j, l[j]? = code.data.toList[pc + j]?) → t[i]? = some (some e) → decode code (pc + i) = .ok (e.1, e.2.1) := by
  intro t
  induction t with
  | nil => intro l pc i e h hl hi; simp at hi
  | cons d t ih =>
    intro l pc i e h hl hi
    have hl2 : ∀ j, l.tail[j]? = code.data.toList[pc + 1 + j]? := fun j => by
      rw [List.getElem?_tail, hl]
      congr 1
      omega
    have hnx : mLin l.tail (pc + 1) t = true := by
      cases d with
      | none => exact h
      | some d =>
        have h' : ((!l.isEmpty && match Decoder.instr pc (Jvm.Free.DS.win l pc d.2.1) (pc % 4) with
          | .ok (j, q) => decide (j = d.1) && Nat.beq q (pc % 4 + d.2.1)
          | .error _ => false) && mLin l.tail (pc + 1) t) = true := h
        rw [Bool.and_eq_true] at h'
        exact h'.2
    cases i with
    | succ i =>
      rw [List.getElem?_cons_succ] at hi
      have := ih _ _ i e hnx hl2 hi
      rwa [show pc + 1 + i = pc + (i + 1) by omega] at this
    | zero =>
      rw [List.getElem?_cons_zero, Option.some.injEq] at hi
      subst hi
      have h' : ((!l.isEmpty && match Decoder.instr pc (Jvm.Free.DS.win l pc e.2.1) (pc % 4) with
        | .ok (j, q) => decide (j = e.1) && Nat.beq q (pc % 4 + e.2.1)
        | .error _ => false) && mLin l.tail (pc + 1) t) = true := h
      rw [Bool.and_eq_true, Bool.and_eq_true] at h'
      obtain ⟨⟨h0, h1⟩, -⟩ := h'
      have hp : pc ≤ code.size := by
        have h2 : l ≠ [] := fun q => by subst q; cases h0
        have h3 := hl 0
        rw [List.getElem?_eq_getElem (List.length_pos_iff.mpr h2)] at h3
        have h4 := (List.getElem?_eq_some_iff.mp h3.symm).1
        have h5 : code.data.toList.length = code.size := by simp
        omega
      cases hr : Decoder.instr pc (Jvm.Free.DS.win l pc e.2.1) (pc % 4) with
      | error x => rw [hr] at h1; cases h1
      | ok jq =>
        obtain ⟨j, q⟩ := jq
        rw [hr] at h1
        have h1' : (decide (j = e.1) && Nat.beq q (pc % 4 + e.2.1)) = true := h1
        rw [Bool.and_eq_true, decide_eq_true_eq] at h1'
        obtain ⟨rfl, h6⟩ := h1'
        obtain rfl := Nat.eq_of_beq_eq_true h6
        have := Jvm.Free.DS.shift (Jvm.Free.DS.win_agree (n := e.2.1) hl hp) hr
        rw [Nat.add_sub_cancel_left] at this
        exact this
theorem mLinC_at {code : ByteArray} : ∀ (t : List (List (Option mEnt))) (l : List UInt8) (k i : Nat) (c : List (Option mEnt)), mLinC l k t = true → (∀ j, l[j]? = code.data.toList[32 * k + j]?) → t[i]? = some c → ∃ l', mLin l' (32 * (k + i)) c = true ∧ ∀ j, l'[j]? = code.data.toList[32 * (k + i) + j]? := by
  intro t
  induction t with
  | nil => intro l k i c h hl hi; simp at hi
  | cons d t ih =>
    intro l k i c h hl hi
    simp only [mLinC, Bool.and_eq_true] at h
    cases i with
    | zero =>
      rw [List.getElem?_cons_zero, Option.some.injEq] at hi
      subst hi
      exact ⟨l, h.1, hl⟩
    | succ i =>
      rw [List.getElem?_cons_succ] at hi
      have := ih (l.drop 32) (k + 1) i c h.2 (fun j => by
        rw [List.getElem?_drop, hl]
        congr 1
        omega) hi
      rwa [show k + 1 + i = k + (i + 1) by omega] at this
theorem mCk_at {i pc : Nat} {row : mRow} {e : mEnt} (h : mCk i = true) (hr : mMet i = some row) (he : mFetch i pc = some e) : decode row.2.2.1 pc = .ok (e.1, e.2.1) ∧ mEck row e = true := by
  unfold mCk at h
  rw [Bool.and_eq_true] at h
  obtain ⟨hd, hE⟩ := h
  unfold mFetch at he
  cases hk : mCode i with
  | none => rw [hk] at he; cases he
  | some k =>
    rw [hk] at he
    simp only [mCd, hr, hk] at hd
    simp only [mCe, hr, hk] at hE
    simp only [Option.bind_some, Option.bind_eq_some_iff] at he
    obtain ⟨c, hc, o, ho, ho2⟩ := he
    have ho3 : o = some e := ho2
    subst ho3
    obtain ⟨l', h1, h2⟩ := mLinC_at (code := row.2.2.1) k _ 0 (pc / 32) c hd (fun j => by rw [Nat.mul_zero, Nat.zero_add]) hc
    refine ⟨?_, ?_⟩
    · have := mLin_at c l' _ (pc % 32) e h1 h2 ho
      rwa [show 32 * (0 + pc / 32) + pc % 32 = pc by omega] at this
    · have := List.all_eq_true.mp (List.all_eq_true.mp hE c (List.mem_of_getElem? hc)) _ (List.mem_of_getElem? ho)
      exact this
end
section
theorem mCd_0 : (List.range 16).all (fun j => mCd (16 * 0 + j)) = true := by decide +kernel
theorem mCe_0 : (List.range 16).all (fun j => mCe (16 * 0 + j)) = true := by decide +kernel
theorem mCd_1 : (List.range 16).all (fun j => mCd (16 * 1 + j)) = true := by decide +kernel
theorem mCe_1 : (List.range 16).all (fun j => mCe (16 * 1 + j)) = true := by decide +kernel
theorem mCd_2 : (List.range 16).all (fun j => mCd (16 * 2 + j)) = true := by decide +kernel
theorem mCe_2 : (List.range 16).all (fun j => mCe (16 * 2 + j)) = true := by decide +kernel
theorem mCd_3 : (List.range 16).all (fun j => mCd (16 * 3 + j)) = true := by decide +kernel
theorem mCe_3 : (List.range 16).all (fun j => mCe (16 * 3 + j)) = true := by decide +kernel
theorem mCd_4 : (List.range 16).all (fun j => mCd (16 * 4 + j)) = true := by decide +kernel
theorem mCe_4 : (List.range 16).all (fun j => mCe (16 * 4 + j)) = true := by decide +kernel
theorem mCd_5 : (List.range 16).all (fun j => mCd (16 * 5 + j)) = true := by decide +kernel
theorem mCe_5 : (List.range 16).all (fun j => mCe (16 * 5 + j)) = true := by decide +kernel
theorem mCd_6 : (List.range 16).all (fun j => mCd (16 * 6 + j)) = true := by decide +kernel
theorem mCe_6 : (List.range 16).all (fun j => mCe (16 * 6 + j)) = true := by decide +kernel
theorem mCd_7 : (List.range 16).all (fun j => mCd (16 * 7 + j)) = true := by decide +kernel
theorem mCe_7 : (List.range 16).all (fun j => mCe (16 * 7 + j)) = true := by decide +kernel
theorem mCd_8 : (List.range 16).all (fun j => mCd (16 * 8 + j)) = true := by decide +kernel
theorem mCe_8 : (List.range 16).all (fun j => mCe (16 * 8 + j)) = true := by decide +kernel
theorem mCd_9 : (List.range 16).all (fun j => mCd (16 * 9 + j)) = true := by decide +kernel
theorem mCe_9 : (List.range 16).all (fun j => mCe (16 * 9 + j)) = true := by decide +kernel
theorem mCd_10 : (List.range 16).all (fun j => mCd (16 * 10 + j)) = true := by decide +kernel
theorem mCe_10 : (List.range 16).all (fun j => mCe (16 * 10 + j)) = true := by decide +kernel
theorem mCd_11 : (List.range 16).all (fun j => mCd (16 * 11 + j)) = true := by decide +kernel
theorem mCe_11 : (List.range 16).all (fun j => mCe (16 * 11 + j)) = true := by decide +kernel
theorem mCd_12 : (List.range 16).all (fun j => mCd (16 * 12 + j)) = true := by decide +kernel
theorem mCe_12 : (List.range 16).all (fun j => mCe (16 * 12 + j)) = true := by decide +kernel
theorem mCd_13 : (List.range 16).all (fun j => mCd (16 * 13 + j)) = true := by decide +kernel
theorem mCe_13 : (List.range 16).all (fun j => mCe (16 * 13 + j)) = true := by decide +kernel
theorem mCd_14 : (List.range 16).all (fun j => mCd (16 * 14 + j)) = true := by decide +kernel
theorem mCe_14 : (List.range 16).all (fun j => mCe (16 * 14 + j)) = true := by decide +kernel
theorem mCd_15 : (List.range 16).all (fun j => mCd (16 * 15 + j)) = true := by decide +kernel
theorem mCe_15 : (List.range 16).all (fun j => mCe (16 * 15 + j)) = true := by decide +kernel
theorem mCk_all (i : Nat) (h : i < 256) : mCk i = true := by
  have hj : i % 16 ∈ List.range 16 := List.mem_range.mpr (Nat.mod_lt _ (by decide))
  have e : i = 16 * (i / 16) + i % 16 := (Nat.div_add_mod i 16).symm
  unfold mCk
  rw [Bool.and_eq_true, e]
  rcases (by omega : i / 16 = 0 ∨ i / 16 = 1 ∨ i / 16 = 2 ∨ i / 16 = 3 ∨ i / 16 = 4 ∨ i / 16 = 5 ∨ i / 16 = 6 ∨ i / 16 = 7 ∨ i / 16 = 8 ∨ i / 16 = 9 ∨ i / 16 = 10 ∨ i / 16 = 11 ∨ i / 16 = 12 ∨ i / 16 = 13 ∨ i / 16 = 14 ∨ i / 16 = 15) with h1 | h1 | h1 | h1 | h1 | h1 | h1 | h1 | h1 | h1 | h1 | h1 | h1 | h1 | h1 | h1 <;> rw [h1]
  · exact ⟨List.all_eq_true.mp mCd_0 _ hj, List.all_eq_true.mp mCe_0 _ hj⟩
  · exact ⟨List.all_eq_true.mp mCd_1 _ hj, List.all_eq_true.mp mCe_1 _ hj⟩
  · exact ⟨List.all_eq_true.mp mCd_2 _ hj, List.all_eq_true.mp mCe_2 _ hj⟩
  · exact ⟨List.all_eq_true.mp mCd_3 _ hj, List.all_eq_true.mp mCe_3 _ hj⟩
  · exact ⟨List.all_eq_true.mp mCd_4 _ hj, List.all_eq_true.mp mCe_4 _ hj⟩
  · exact ⟨List.all_eq_true.mp mCd_5 _ hj, List.all_eq_true.mp mCe_5 _ hj⟩
  · exact ⟨List.all_eq_true.mp mCd_6 _ hj, List.all_eq_true.mp mCe_6 _ hj⟩
  · exact ⟨List.all_eq_true.mp mCd_7 _ hj, List.all_eq_true.mp mCe_7 _ hj⟩
  · exact ⟨List.all_eq_true.mp mCd_8 _ hj, List.all_eq_true.mp mCe_8 _ hj⟩
  · exact ⟨List.all_eq_true.mp mCd_9 _ hj, List.all_eq_true.mp mCe_9 _ hj⟩
  · exact ⟨List.all_eq_true.mp mCd_10 _ hj, List.all_eq_true.mp mCe_10 _ hj⟩
  · exact ⟨List.all_eq_true.mp mCd_11 _ hj, List.all_eq_true.mp mCe_11 _ hj⟩
  · exact ⟨List.all_eq_true.mp mCd_12 _ hj, List.all_eq_true.mp mCe_12 _ hj⟩
  · exact ⟨List.all_eq_true.mp mCd_13 _ hj, List.all_eq_true.mp mCe_13 _ hj⟩
  · exact ⟨List.all_eq_true.mp mCd_14 _ hj, List.all_eq_true.mp mCe_14 _ hj⟩
  · exact ⟨List.all_eq_true.mp mCd_15 _ hj, List.all_eq_true.mp mCe_15 _ hj⟩
end
