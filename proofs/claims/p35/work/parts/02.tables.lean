/-! the tables of the small machine: printed by a program out of the claim's own listing -/
abbrev mEnt : Type := Instr × Nat × Nat × Nat × Nat × Nat × Int
abbrev mRow : Type := Nat × MethodName × ByteArray × Nat × Option FieldType × Nat × Nat
abbrev mLnk : Type := Nat × Nat × Nat × Nat × Nat × Int
abbrev a0 (i : Instr) (n j k a b : Nat) (z : Int) : Option mEnt := some (i, n, j, k, a, b, z)
abbrev a1 (i : Instr) : Option mEnt := some (i, 1, 0, 0, 0, 0, 0)
abbrev a2 (i : Instr) : Option mEnt := some (i, 2, 0, 0, 0, 0, 0)
abbrev a3 (i : Instr) : Option mEnt := some (i, 3, 0, 0, 0, 0, 0)
noncomputable def mNmL : List String := ["EnvyRust$Sheet", "EnvyRust$TextReader", "EnvyRust$Town", "EnvyRust", "EnvyRustModel", "EnvyRustLaw", "java/lang/Integer", "java/lang/Math", "java/lang/String", "java/lang/StringLatin1", "java/lang/StringUTF16", "jdk/internal/util/Preconditions", "java/lang/Object", "java/lang/System"]
noncomputable def mNm (k : Nat) : String := mNmL.getD k ""
/-- 0: EnvyRust.new -/
noncomputable def mk_0 : List (List (Option mEnt)) := [[a1 (.aload_n 0), a0 (.invokespecial 1) 3 2 20 0 0 0, none, none, a1 (.aload_n 0), a0 (.new 7) 3 3 4 2 0 0, none, none, a1 (.dup), a0 (.invokespecial 9) 3 4 15 2 1 0, none, none, a0 (.putfield 10) 3 49 0 3 0 0, none, none, a1 (.aload_n 0), a0 (.new 7) 3 3 4 2 0 0, none, none, a1 (.dup), a0 (.invokespecial 9) 3 4 15 2 1 0, none, none, a0 (.putfield 16) 3 50 0 3 1 0, none, none, a1 (.aload_n 0), a0 (.new 7) 3 3 4 2 0 0, none, none, a1 (.dup), a0 (.invokespecial 9) 3 4 15 2 1 0],
  [none, none, a0 (.putfield 19) 3 51 0 3 2 0, none, none, a1 (.aload_n 0), a0 (.new 22) 3 27 4 1 0 0, none, none, a1 (.dup), a0 (.invokespecial 24) 3 28 15 3 1 0, none, none, a0 (.putfield 25) 3 52 0 3 3 0, none, none, a1 (.aload_n 0), a1 (.iconst 4), a0 (.anewarray 29) 3 39 5 2 0 0, none, none, a0 (.putfield 31) 3 53 0 3 4 0, none, none, a1 (.aload_n 0), a2 (.bipush 7), none, a2 (.newarray .int), none, a0 (.putfield 35) 3 54 0 3 5 0, none, none],
  [a1 (.aload_n 0), a1 (.iconst 0), a0 (.putfield 39) 3 55 0 3 6 0, none, none, a1 (.aload_n 0), a2 (.bipush 8), none, a2 (.newarray .int), none, a0 (.putfield 43) 3 56 0 3 7 0, none, none, a1 (.aload_n 0), a2 (.bipush 8), none, a2 (.newarray .int), none, a0 (.putfield 46) 3 57 0 3 8 0, none, none, a1 (.iconst 0), a1 (.istore_n 1), a1 (.iload_n 1), a1 (.iconst 4), a3 (.if_icmp .ge 22), none, none, a1 (.aload_n 0), a0 (.getfield 31) 3 53 0 3 4 0, none, none],
  [a1 (.iload_n 1), a0 (.new 29) 3 40 4 0 0 0, none, none, a1 (.dup), a0 (.invokespecial 49) 3 41 15 4 1 0, none, none, a1 (.aastore), a3 (.iinc 1 1), none, none, a3 (.goto (-21)), none, none, a1 (.return_)]]
/-- 1: java/lang/Object.new -/
noncomputable def mk_1 : List (List (Option mEnt)) := []
/-- 2: EnvyRust$Town.new -/
noncomputable def mk_2 : List (List (Option mEnt)) := [[a1 (.aload_n 0), a0 (.invokespecial 3) 3 5 20 0 0 0, none, none, a1 (.aload_n 0), a2 (.bipush 6), none, a2 (.bipush 8), none, a0 (.multianewarray 11 2) 4 6 6 3 0 0, none, none, none, a0 (.putfield 13) 3 7 0 2 0 0, none, none, a1 (.aload_n 0), a2 (.bipush 7), none, a2 (.bipush 8), none, a0 (.multianewarray 11 2) 4 6 6 3 0 0, none, none, none, a0 (.putfield 16) 3 10 0 2 1 0, none, none, a1 (.aload_n 0), a2 (.bipush 10), none, a2 (.newarray .int)],
  [none, a0 (.putfield 19) 3 13 0 2 2 0, none, none, a1 (.aload_n 0), a1 (.iconst 0), a0 (.putfield 23) 3 15 0 2 3 0, none, none, a1 (.aload_n 0), a1 (.iconst 0), a0 (.putfield 27) 3 18 0 2 4 0, none, none, a1 (.aload_n 0), a1 (.iconst 0), a0 (.putfield 30) 3 21 0 2 5 0, none, none, a1 (.aload_n 0), a1 (.iconst 1), a0 (.putfield 33) 3 23 0 2 6 0, none, none, a1 (.aload_n 0), a1 (.iconst (-1)), a0 (.putfield 36) 3 25 0 2 7 0, none, none, a1 (.iconst 0), a1 (.istore_n 1), a1 (.iload_n 1)],
  [a2 (.bipush 10), none, a3 (.if_icmp .ge 16), none, none, a1 (.aload_n 0), a0 (.getfield 19) 3 13 0 2 2 0, none, none, a1 (.iload_n 1), a1 (.iconst (-1)), a1 (.iastore), a3 (.iinc 1 1), none, none, a3 (.goto (-16)), none, none, a1 (.return_)]]
/-- 3: EnvyRust$TextReader.new -/
noncomputable def mk_3 : List (List (Option mEnt)) := [[a1 (.aload_n 0), a0 (.invokespecial 3) 3 29 20 0 0 0, none, none, a1 (.aload_n 0), a2 (.bipush 120), none, a2 (.newarray .byte), none, a0 (.putfield 9) 3 30 0 1 0 0, none, none, a1 (.aload_n 0), a1 (.iconst 0), a0 (.putfield 15) 3 31 0 1 1 0, none, none, a1 (.aload_n 0), a1 (.iconst 0), a0 (.putfield 19) 3 33 0 1 2 0, none, none, a1 (.aload_n 0), a1 (.iconst 0), a0 (.putfield 22) 3 34 0 1 3 0, none, none, a1 (.aload_n 0), a1 (.iconst 0), a0 (.putfield 25) 3 35 0 1 4 0, none, none],
  [a1 (.aload_n 0), a1 (.iconst 0), a0 (.putfield 28) 3 36 0 1 5 0, none, none, a1 (.aload_n 0), a1 (.iconst (-1)), a0 (.putfield 31) 3 37 0 1 6 0, none, none, a1 (.return_)]]
/-- 4: EnvyRust$Sheet.new -/
noncomputable def mk_4 : List (List (Option mEnt)) := [[a1 (.aload_n 0), a0 (.invokespecial 3) 3 42 20 0 0 0, none, none, a1 (.aload_n 0), a2 (.bipush 40), none, a2 (.newarray .int), none, a0 (.putfield 9) 3 43 0 0 0 0, none, none, a1 (.aload_n 0), a1 (.iconst 0), a0 (.putfield 15) 3 45 0 0 1 0, none, none, a1 (.aload_n 0), a1 (.iconst 0), a0 (.putfield 19) 3 47 0 0 2 0, none, none, a1 (.return_)]]
/-- 5: EnvyRust.thing -/
noncomputable def mk_5 : List (List (Option mEnt)) := [[a1 (.iload_n 1), a1 (.iconst 0), a1 (.iconst 3), a0 (.invokestatic 50) 3 59 12 6 3 0, none, none, a3 (.ifCond .eq 13), none, none, a1 (.iload_n 2), a1 (.iconst 0), a2 (.bipush 15), none, a0 (.invokestatic 50) 3 59 12 6 3 0, none, none, a3 (.ifCond .ne 10), none, none, a1 (.aload_n 0), a0 (.ldc 54) 2 60 2 0 0 (-1000001), none, a0 (.invokevirtual 55) 3 61 10 7 2 0, none, none, a1 (.ireturn), a1 (.aload_n 0), a0 (.getfield 10) 3 49 0 3 0 0, none, none, a0 (.getfield 59) 3 16 1 2 3 0, none],
  [none, a2 (.bipush 8), none, a3 (.if_icmp .lt 10), none, none, a1 (.aload_n 0), a0 (.ldc 63) 2 62 2 0 0 (-1000002), none, a0 (.invokevirtual 55) 3 61 10 7 2 0, none, none, a1 (.ireturn), a1 (.aload_n 0), a0 (.getfield 10) 3 49 0 3 0 0, none, none, a1 (.iload_n 1), a1 (.iload_n 2), a0 (.invokevirtual 64) 3 63 11 8 3 0, none, none, a1 (.ireturn)]]
/-- 6: EnvyRust.between -/
noncomputable def mk_6 : List (List (Option mEnt)) := [[a1 (.iload_n 0), a1 (.iload_n 1), a3 (.if_icmp .lt 12), none, none, a1 (.iload_n 0), a1 (.iload_n 2), a3 (.if_icmp .gt 7), none, none, a1 (.iconst 1), a3 (.goto 4), none, none, a1 (.iconst 0), a1 (.ireturn)]]
/-- 7: EnvyRust.told -/
noncomputable def mk_7 : List (List (Option mEnt)) := [[a0 (.ldc 54) 2 60 2 0 0 (-1000001), none, a1 (.iload_n 1), a1 (.isub), a1 (.istore_n 2), a1 (.iload_n 2), a1 (.iconst 0), a2 (.bipush 6), none, a0 (.invokestatic 50) 3 59 12 6 3 0, none, none, a3 (.ifCond .eq 13), none, none, a1 (.aload_n 0), a0 (.getfield 35) 3 54 0 3 5 0, none, none, a1 (.iload_n 2), a1 (.dup2), a1 (.iaload), a1 (.iconst 1), a1 (.iadd), a1 (.iastore), a1 (.iload_n 1), a1 (.ireturn)]]
/-- 8: EnvyRust$Town.addThing -/
noncomputable def mk_8 : List (List (Option mEnt)) := [[a1 (.aload_n 0), a0 (.getfield 23) 3 15 0 2 3 0, none, none, a1 (.istore_n 3), a1 (.aload_n 0), a1 (.dup), a0 (.getfield 23) 3 15 0 2 3 0, none, none, a1 (.iconst 1), a1 (.iadd), a0 (.putfield 23) 3 15 0 2 3 0, none, none, a1 (.aload_n 0), a0 (.getfield 13) 3 7 0 2 0 0, none, none, a1 (.iconst 0), a1 (.aaload), a1 (.iload_n 3), a1 (.iload_n 1), a1 (.iastore), a1 (.aload_n 0), a0 (.getfield 13) 3 7 0 2 0 0, none, none, a1 (.iconst 1), a1 (.aaload), a1 (.iload_n 3), a1 (.iload_n 2)],
  [a1 (.iastore), a1 (.aload_n 0), a0 (.getfield 13) 3 7 0 2 0 0, none, none, a1 (.iconst 2), a1 (.aaload), a1 (.iload_n 3), a2 (.bipush 100), none, a1 (.iastore), a1 (.aload_n 0), a0 (.getfield 13) 3 7 0 2 0 0, none, none, a1 (.iconst 3), a1 (.aaload), a1 (.iload_n 3), a1 (.iconst 0), a1 (.iastore), a1 (.aload_n 0), a0 (.getfield 13) 3 7 0 2 0 0, none, none, a1 (.iconst 4), a1 (.aaload), a1 (.iload_n 3), a1 (.iconst (-1)), a1 (.iastore), a1 (.aload_n 0), a0 (.getfield 13) 3 7 0 2 0 0, none],
  [none, a1 (.iconst 5), a1 (.aaload), a1 (.iload_n 3), a1 (.iconst (-1)), a1 (.iastore), a1 (.iload_n 3), a1 (.ireturn)]]
/-- 9: EnvyRust.thingOf -/
noncomputable def mk_9 : List (List (Option mEnt)) := [[a1 (.aload_n 0), a0 (.getfield 10) 3 49 0 3 0 0, none, none, a1 (.iload_n 1), a0 (.invokevirtual 68) 3 65 11 10 2 0, none, none, a3 (.ifCond .eq 13), none, none, a1 (.iload_n 2), a1 (.iconst 0), a2 (.bipush 6), none, a0 (.invokestatic 50) 3 59 12 6 3 0, none, none, a3 (.ifCond .ne 10), none, none, a1 (.aload_n 0), a0 (.ldc 54) 2 60 2 0 0 (-1000001), none, a0 (.invokevirtual 55) 3 61 10 7 2 0, none, none, a1 (.ireturn), a1 (.iload_n 2), a2 (.bipush 6), none, a3 (.if_icmp .ne 14)],
  [none, none, a1 (.aload_n 0), a0 (.getfield 10) 3 49 0 3 0 0, none, none, a1 (.iload_n 1), a0 (.invokevirtual 72) 3 67 11 11 2 0, none, none, a3 (.goto 14), none, none, a1 (.aload_n 0), a0 (.getfield 10) 3 49 0 3 0 0, none, none, a0 (.getfield 75) 3 8 1 2 0 0, none, none, a1 (.iload_n 2), a1 (.aaload), a1 (.iload_n 1), a1 (.iaload), a1 (.ireturn)]]
/-- 10: EnvyRust$Town.isThing -/
noncomputable def mk_10 : List (List (Option mEnt)) := [[a1 (.iload_n 1), a1 (.iconst 0), a1 (.aload_n 0), a0 (.getfield 23) 3 15 0 2 3 0, none, none, a1 (.iconst 1), a1 (.isub), a0 (.invokestatic 45) 3 66 13 6 3 0, none, none, a1 (.ireturn)]]
/-- 11: EnvyRust$Town.wearOf -/
noncomputable def mk_11 : List (List (Option mEnt)) := [[a1 (.iconst 0), a1 (.istore_n 2), a1 (.aload_n 0), a0 (.getfield 13) 3 7 0 2 0 0, none, none, a1 (.iconst 1), a1 (.aaload), a1 (.iload_n 1), a1 (.iaload), a1 (.istore_n 3), a1 (.iconst 0), a2 (.istore 4), none, a2 (.iload 4), none, a1 (.aload_n 0), a0 (.getfield 27) 3 18 0 2 4 0, none, none, a3 (.if_icmp .ge 32), none, none, a1 (.aload_n 0), a0 (.getfield 16) 3 10 0 2 1 0, none, none, a1 (.iconst 1), a1 (.aaload), a2 (.iload 4), none, a1 (.iaload)],
  [a1 (.iload_n 3), a3 (.if_icmp .ne 13), none, none, a1 (.iload_n 2), a1 (.aload_n 0), a2 (.iload 4), none, a1 (.iload_n 1), a0 (.invokevirtual 70) 3 68 10 12 3 0, none, none, a1 (.iadd), a1 (.istore_n 2), a3 (.iinc 4 1), none, none, a3 (.goto (-35)), none, none, a1 (.iload_n 2), a1 (.aload_n 0), a0 (.getfield 13) 3 7 0 2 0 0, none, none, a1 (.iconst 2), a1 (.aaload), a1 (.iload_n 1), a1 (.iaload), a0 (.invokestatic 73) 3 73 25 0 0 0, none, none],
  [a1 (.ireturn)]]
/-- 12: EnvyRust$Town.envyOf -/
noncomputable def mk_12 : List (List (Option mEnt)) := [[a1 (.aload_n 0), a0 (.getfield 13) 3 7 0 2 0 0, none, none, a1 (.iconst 4), a1 (.aaload), a1 (.iload_n 2), a1 (.iaload), a1 (.istore_n 3), a1 (.iload_n 3), a1 (.iload_n 1), a3 (.if_icmp .eq 11), none, none, a1 (.iload_n 1), a1 (.aload_n 0), a0 (.getfield 36) 3 25 0 2 7 0, none, none, a3 (.if_icmp .ne 7), none, none, a1 (.iconst 0), a3 (.goto 10), none, none, a1 (.aload_n 0), a1 (.iload_n 3), a1 (.iload_n 1), a1 (.iload_n 2), a0 (.invokevirtual 53) 3 69 10 13 4 0, none],
  [none, a1 (.ireturn)]]
/-- 13: EnvyRust$Town.envyIfOwnedBy -/
noncomputable def mk_13 : List (List (Option mEnt)) := [[a1 (.aload_n 0), a0 (.getfield 13) 3 7 0 2 0 0, none, none, a1 (.iconst 2), a1 (.aaload), a1 (.iload_n 3), a1 (.iaload), a2 (.istore 4), none, a2 (.iload 4), none, a3 (.ifCond .ne 5), none, none, a1 (.iconst 0), a1 (.ireturn), a1 (.aload_n 0), a0 (.getfield 16) 3 10 0 2 1 0, none, none, a1 (.iconst 3), a1 (.aload_n 0), a0 (.getfield 13) 3 7 0 2 0 0, none, none, a1 (.iconst 0), a1 (.aaload), a1 (.iload_n 3), a1 (.iaload), a1 (.iadd), a1 (.aaload)],
  [a1 (.iload_n 2), a1 (.iaload), a1 (.aload_n 0), a0 (.getfield 13) 3 7 0 2 0 0, none, none, a1 (.iconst 3), a1 (.aaload), a1 (.iload_n 3), a1 (.iaload), a1 (.isub), a2 (.istore 5), none, a1 (.iload_n 1), a1 (.iconst (-1)), a3 (.if_icmp .eq 22), none, none, a1 (.aload_n 0), a0 (.getfield 16) 3 10 0 2 1 0, none, none, a1 (.iconst 0), a1 (.aaload), a1 (.iload_n 1), a1 (.iaload), a1 (.iconst 2), a0 (.invokestatic 57) 3 70 13 14 2 0, none, none, a3 (.ifCond .eq 7), none],
  [none, a1 (.iconst 1), a3 (.goto 4), none, none, a1 (.iconst 0), a2 (.istore 6), none, a2 (.iload 5), none, a2 (.iload 6), none, a3 (.ifCond .eq 7), none, none, a1 (.iconst 2), a3 (.goto 4), none, none, a1 (.iconst 0), a1 (.iadd), a2 (.istore 7), none, a1 (.aload_n 0), a0 (.getfield 16) 3 10 0 2 1 0, none, none, a1 (.iconst 0), a1 (.aaload), a1 (.iload_n 2), a1 (.iaload), a0 (.tableswitch 104 1 6 #[37, 46, 53, 62, 77, 86]) 37 0 0 0 0 0],
  [none, none, none, none, none, none, none, none, none, none, none, none, none, none, none, none, none, none, none, none, none, none, none, none, none, none, none, none, none, none, none, none],
  [none, none, none, none, a1 (.iconst 0), a2 (.iload 5), none, a1 (.iconst 2), a1 (.idiv), a0 (.invokestatic 61) 3 72 24 0 0 0, none, none, a1 (.ireturn), a1 (.iconst 0), a2 (.iload 7), none, a0 (.invokestatic 61) 3 72 24 0 0 0, none, none, a1 (.ireturn), a1 (.iconst 0), a2 (.iload 7), none, a1 (.iconst 3), a1 (.isub), a0 (.invokestatic 61) 3 72 24 0 0 0, none, none, a1 (.ireturn), a1 (.iconst 0), a2 (.iload 7), none],
  [a1 (.iconst 3), a1 (.isub), a2 (.iload 4), none, a2 (.bipush 100), none, a1 (.idiv), a1 (.iadd), a0 (.invokestatic 61) 3 72 24 0 0 0, none, none, a1 (.ireturn), a1 (.iconst 0), a2 (.iload 5), none, a1 (.iconst 2), a1 (.imul), a0 (.invokestatic 61) 3 72 24 0 0 0, none, none, a1 (.ireturn), a1 (.iload_n 1), a1 (.iconst (-1)), a3 (.if_icmp .ne 7), none, none, a1 (.iconst 0), a3 (.goto 11), none, none, a1 (.iconst 0), a2 (.iload 5)],
  [none, a1 (.iconst 2), a1 (.idiv), a0 (.invokestatic 61) 3 72 24 0 0 0, none, none, a1 (.ireturn), a1 (.iconst 0), a2 (.iload 5), none, a0 (.invokestatic 61) 3 72 24 0 0 0, none, none, a1 (.ireturn)]]
/-- 14: EnvyRust.isOrUnder -/
noncomputable def mk_14 : List (List (Option mEnt)) := [[a1 (.iload_n 0), a1 (.istore_n 2), a1 (.iconst 0), a1 (.istore_n 3), a1 (.iload_n 3), a2 (.bipush 7), none, a3 (.if_icmp .ge 32), none, none, a1 (.iload_n 2), a3 (.ifCond .lt 28), none, none, a1 (.iload_n 2), a2 (.bipush 7), none, a3 (.if_icmp .ge 22), none, none, a1 (.iload_n 2), a1 (.iload_n 1), a3 (.if_icmp .ne 5), none, none, a1 (.iconst 1), a1 (.ireturn), a0 (.getstatic 279) 3 71 7 0 0 0, none, none, a1 (.iload_n 2), a1 (.iaload)],
  [a1 (.istore_n 2), a3 (.iinc 3 1), none, none, a3 (.goto (-32)), none, none, a1 (.iconst 0), a1 (.ireturn)]]
/-- 15: java/lang/Math.max -/
noncomputable def mk_15 : List (List (Option mEnt)) := []
/-- 16: java/lang/Math.min -/
noncomputable def mk_16 : List (List (Option mEnt)) := []
/-- 17: EnvyRust.forge -/
noncomputable def mk_17 : List (List (Option mEnt)) := [[a1 (.aload_n 0), a0 (.getfield 10) 3 49 0 3 0 0, none, none, a1 (.iload_n 1), a0 (.invokevirtual 68) 3 65 11 10 2 0, none, none, a3 (.ifCond .eq 13), none, none, a1 (.aload_n 0), a1 (.iload_n 1), a1 (.iload_n 2), a1 (.iload_n 3), a0 (.invokevirtual 79) 3 75 10 18 4 0, none, none, a3 (.ifCond .ne 10), none, none, a1 (.aload_n 0), a0 (.ldc 54) 2 60 2 0 0 (-1000001), none, a0 (.invokevirtual 55) 3 61 10 7 2 0, none, none, a1 (.ireturn), a1 (.iload_n 2), a1 (.iconst 5), a3 (.if_icmp .ne 30), none],
  [none, a1 (.iload_n 3), a1 (.iconst (-1)), a3 (.if_icmp .eq 25), none, none, a1 (.aload_n 0), a0 (.getfield 10) 3 49 0 3 0 0, none, none, a1 (.iload_n 1), a0 (.invokevirtual 82) 3 77 11 20 2 0, none, none, a1 (.iload_n 3), a0 (.invokestatic 85) 3 79 12 21 2 0, none, none, a3 (.ifCond .eq 10), none, none, a1 (.aload_n 0), a0 (.ldc 89) 2 80 2 0 0 (-1000005), none, a0 (.invokevirtual 55) 3 61 10 7 2 0, none, none, a1 (.ireturn), a1 (.aload_n 0), a0 (.getfield 10) 3 49 0 3 0 0, none, none],
  [a0 (.getfield 75) 3 8 1 2 0 0, none, none, a1 (.iload_n 2), a1 (.aaload), a1 (.iload_n 1), a1 (.iaload), a2 (.istore 4), none, a1 (.aload_n 0), a0 (.getfield 10) 3 49 0 3 0 0, none, none, a0 (.getfield 75) 3 8 1 2 0 0, none, none, a1 (.iload_n 2), a1 (.aaload), a1 (.iload_n 1), a1 (.iload_n 3), a1 (.iastore), a2 (.iload 4), none, a1 (.ireturn)]]
/-- 18: EnvyRust.forgeable -/
noncomputable def mk_18 : List (List (Option mEnt)) := [[a1 (.iload_n 2), a0 (.tableswitch 120 0 5 #[39, 46, 54, 63, 71, 93]) 39 0 0 0 0 0, none, none, none, none, none, none, none, none, none, none, none, none, none, none, none, none, none, none, none, none, none, none, none, none, none, none, none, none, none, none],
  [none, none, none, none, none, none, none, none, a1 (.iload_n 3), a1 (.iconst 0), a1 (.iconst 3), a0 (.invokestatic 50) 3 59 12 6 3 0, none, none, a1 (.ireturn), a1 (.iload_n 3), a1 (.iconst 0), a2 (.bipush 15), none, a0 (.invokestatic 50) 3 59 12 6 3 0, none, none, a1 (.ireturn), a1 (.iload_n 3), a1 (.iconst 0), a3 (.sipush 999), none, none, a0 (.invokestatic 50) 3 59 12 6 3 0, none, none, a1 (.ireturn)],
  [a1 (.iload_n 3), a1 (.iconst 0), a2 (.bipush 9), none, a0 (.invokestatic 50) 3 59 12 6 3 0, none, none, a1 (.ireturn), a1 (.iload_n 3), a1 (.iconst (-1)), a3 (.if_icmp .eq 14), none, none, a1 (.aload_n 0), a0 (.getfield 10) 3 49 0 3 0 0, none, none, a1 (.iload_n 3), a0 (.invokevirtual 90) 3 76 11 19 2 0, none, none, a3 (.ifCond .eq 7), none, none, a1 (.iconst 1), a3 (.goto 4), none, none, a1 (.iconst 0), a1 (.ireturn), a1 (.iload_n 3), a1 (.iconst (-1))],
  [a3 (.if_icmp .eq 19), none, none, a1 (.aload_n 0), a0 (.getfield 10) 3 49 0 3 0 0, none, none, a1 (.iload_n 3), a0 (.invokevirtual 68) 3 65 11 10 2 0, none, none, a3 (.ifCond .eq 12), none, none, a1 (.iload_n 3), a1 (.iload_n 1), a3 (.if_icmp .eq 7), none, none, a1 (.iconst 1), a3 (.goto 4), none, none, a1 (.iconst 0), a1 (.ireturn), a1 (.iconst 0), a1 (.ireturn)]]
/-- 19: EnvyRust$Town.isPerson -/
noncomputable def mk_19 : List (List (Option mEnt)) := [[a1 (.iload_n 1), a1 (.iconst 0), a1 (.aload_n 0), a0 (.getfield 27) 3 18 0 2 4 0, none, none, a1 (.iconst 1), a1 (.isub), a0 (.invokestatic 45) 3 66 13 6 3 0, none, none, a1 (.ireturn)]]
/-- 20: EnvyRust$Town.falling -/
noncomputable def mk_20 : List (List (Option mEnt)) := [[a1 (.iconst 1), a1 (.iload_n 1), a1 (.ishl), a1 (.istore_n 2), a1 (.iconst 1), a1 (.istore_n 3), a1 (.iconst 0), a2 (.istore 4), none, a2 (.iload 4), none, a2 (.bipush 8), none, a3 (.if_icmp .ge 77), none, none, a1 (.iload_n 3), a3 (.ifCond .eq 73), none, none, a1 (.iconst 0), a1 (.istore_n 3), a1 (.iconst 0), a2 (.istore 5), none, a2 (.iload 5), none, a1 (.aload_n 0), a0 (.getfield 23) 3 15 0 2 3 0, none, none, a3 (.if_icmp .ge 53)],
  [none, none, a1 (.aload_n 0), a0 (.getfield 13) 3 7 0 2 0 0, none, none, a1 (.iconst 5), a1 (.aaload), a2 (.iload 5), none, a1 (.iaload), a2 (.istore 6), none, a2 (.iload 6), none, a1 (.iconst (-1)), a3 (.if_icmp .eq 30), none, none, a1 (.iload_n 2), a2 (.iload 6), none, a0 (.invokestatic 67) 3 78 13 21 2 0, none, none, a3 (.ifCond .eq 21), none, none, a1 (.iload_n 2), a2 (.iload 5), none, a0 (.invokestatic 67) 3 78 13 21 2 0],
  [none, none, a3 (.ifCond .ne 12), none, none, a1 (.iload_n 2), a1 (.iconst 1), a2 (.iload 5), none, a1 (.ishl), a1 (.ior), a1 (.istore_n 2), a1 (.iconst 1), a1 (.istore_n 3), a3 (.iinc 5 1), none, none, a3 (.goto (-56)), none, none, a3 (.iinc 4 1), none, none, a3 (.goto (-78)), none, none, a1 (.iload_n 2), a1 (.ireturn)]]
/-- 21: EnvyRust.contains -/
noncomputable def mk_21 : List (List (Option mEnt)) := [[a1 (.iload_n 0), a1 (.iload_n 1), a1 (.ishr), a1 (.iconst 1), a1 (.iand), a1 (.iconst 1), a3 (.if_icmp .ne 7), none, none, a1 (.iconst 1), a3 (.goto 4), none, none, a1 (.iconst 0), a1 (.ireturn)]]
/-- 22: EnvyRust.person -/
noncomputable def mk_22 : List (List (Option mEnt)) := [[a1 (.iload_n 1), a1 (.iconst 0), a2 (.bipush 6), none, a0 (.invokestatic 50) 3 59 12 6 3 0, none, none, a3 (.ifCond .eq 13), none, none, a1 (.iload_n 2), a1 (.iconst 0), a2 (.bipush 15), none, a0 (.invokestatic 50) 3 59 12 6 3 0, none, none, a3 (.ifCond .ne 10), none, none, a1 (.aload_n 0), a0 (.ldc 54) 2 60 2 0 0 (-1000001), none, a0 (.invokevirtual 55) 3 61 10 7 2 0, none, none, a1 (.ireturn), a1 (.aload_n 0), a0 (.getfield 10) 3 49 0 3 0 0, none, none, a0 (.getfield 93) 3 20 1 2 4 0],
  [none, none, a2 (.bipush 8), none, a3 (.if_icmp .lt 10), none, none, a1 (.aload_n 0), a0 (.ldc 63) 2 62 2 0 0 (-1000002), none, a0 (.invokevirtual 55) 3 61 10 7 2 0, none, none, a1 (.ireturn), a1 (.aload_n 0), a0 (.getfield 10) 3 49 0 3 0 0, none, none, a1 (.iload_n 1), a1 (.iload_n 2), a0 (.invokevirtual 96) 3 82 11 23 3 0, none, none, a1 (.ireturn)]]
/-- 23: EnvyRust$Town.addPerson -/
noncomputable def mk_23 : List (List (Option mEnt)) := [[a1 (.aload_n 0), a0 (.getfield 27) 3 18 0 2 4 0, none, none, a1 (.istore_n 3), a1 (.aload_n 0), a1 (.dup), a0 (.getfield 27) 3 18 0 2 4 0, none, none, a1 (.iconst 1), a1 (.iadd), a0 (.putfield 27) 3 18 0 2 4 0, none, none, a1 (.aload_n 0), a0 (.getfield 16) 3 10 0 2 1 0, none, none, a1 (.iconst 0), a1 (.aaload), a1 (.iload_n 3), a1 (.iload_n 1), a1 (.iastore), a1 (.aload_n 0), a0 (.getfield 16) 3 10 0 2 1 0, none, none, a1 (.iconst 1), a1 (.aaload), a1 (.iload_n 3), a1 (.iload_n 2)],
  [a1 (.iastore), a1 (.aload_n 0), a0 (.getfield 16) 3 10 0 2 1 0, none, none, a1 (.iconst 2), a1 (.aaload), a1 (.iload_n 3), a1 (.iconst 1), a1 (.iastore), a1 (.iconst 0), a2 (.istore 4), none, a2 (.iload 4), none, a1 (.iconst 4), a3 (.if_icmp .ge 21), none, none, a1 (.aload_n 0), a0 (.getfield 16) 3 10 0 2 1 0, none, none, a1 (.iconst 3), a2 (.iload 4), none, a1 (.iadd), a1 (.aaload), a1 (.iload_n 3), a1 (.iconst 1), a1 (.iastore), a3 (.iinc 4 1)],
  [none, none, a3 (.goto (-21)), none, none, a1 (.iload_n 3), a1 (.ireturn)]]
/-- 24: EnvyRust.of -/
noncomputable def mk_24 : List (List (Option mEnt)) := [[a1 (.aload_n 0), a0 (.getfield 10) 3 49 0 3 0 0, none, none, a1 (.iload_n 1), a0 (.invokevirtual 90) 3 76 11 19 2 0, none, none, a3 (.ifCond .eq 13), none, none, a1 (.iload_n 2), a1 (.iconst 0), a2 (.bipush 7), none, a0 (.invokestatic 50) 3 59 12 6 3 0, none, none, a3 (.ifCond .ne 10), none, none, a1 (.aload_n 0), a0 (.ldc 54) 2 60 2 0 0 (-1000001), none, a0 (.invokevirtual 55) 3 61 10 7 2 0, none, none, a1 (.ireturn), a1 (.iload_n 2), a2 (.bipush 7), none, a3 (.if_icmp .ne 14)],
  [none, none, a1 (.aload_n 0), a0 (.getfield 10) 3 49 0 3 0 0, none, none, a1 (.iload_n 1), a0 (.invokevirtual 99) 3 84 11 25 2 0, none, none, a3 (.goto 14), none, none, a1 (.aload_n 0), a0 (.getfield 10) 3 49 0 3 0 0, none, none, a0 (.getfield 102) 3 12 1 2 1 0, none, none, a1 (.iload_n 2), a1 (.aaload), a1 (.iload_n 1), a1 (.iaload), a1 (.ireturn)]]
/-- 25: EnvyRust$Town.ownedBy -/
noncomputable def mk_25 : List (List (Option mEnt)) := [[a1 (.iconst 0), a1 (.istore_n 2), a1 (.iconst 0), a1 (.istore_n 3), a1 (.iload_n 3), a1 (.aload_n 0), a0 (.getfield 23) 3 15 0 2 3 0, none, none, a3 (.if_icmp .ge 27), none, none, a1 (.aload_n 0), a0 (.getfield 13) 3 7 0 2 0 0, none, none, a1 (.iconst 4), a1 (.aaload), a1 (.iload_n 3), a1 (.iaload), a1 (.iload_n 1), a3 (.if_icmp .ne 9), none, none, a1 (.iload_n 2), a1 (.iconst 1), a1 (.iload_n 3), a1 (.ishl), a1 (.ior), a1 (.istore_n 2), a3 (.iinc 3 1), none],
  [none, a3 (.goto (-29)), none, none, a1 (.iload_n 2), a1 (.ireturn)]]
/-- 26: EnvyRust.change -/
noncomputable def mk_26 : List (List (Option mEnt)) := [[a1 (.aload_n 0), a0 (.getfield 10) 3 49 0 3 0 0, none, none, a1 (.iload_n 1), a0 (.invokevirtual 90) 3 76 11 19 2 0, none, none, a3 (.ifCond .eq 11), none, none, a1 (.iload_n 2), a1 (.iload_n 3), a0 (.invokestatic 105) 3 86 12 27 2 0, none, none, a3 (.ifCond .ne 10), none, none, a1 (.aload_n 0), a0 (.ldc 54) 2 60 2 0 0 (-1000001), none, a0 (.invokevirtual 55) 3 61 10 7 2 0, none, none, a1 (.ireturn), a1 (.aload_n 0), a0 (.getfield 10) 3 49 0 3 0 0, none, none, a0 (.getfield 102) 3 12 1 2 1 0, none],
  [none, a1 (.iload_n 2), a1 (.aaload), a1 (.iload_n 1), a1 (.iaload), a2 (.istore 4), none, a1 (.aload_n 0), a0 (.getfield 10) 3 49 0 3 0 0, none, none, a0 (.getfield 102) 3 12 1 2 1 0, none, none, a1 (.iload_n 2), a1 (.aaload), a1 (.iload_n 1), a1 (.iload_n 3), a1 (.iastore), a2 (.iload 4), none, a1 (.ireturn)]]
/-- 27: EnvyRust.changeable -/
noncomputable def mk_27 : List (List (Option mEnt)) := [[a1 (.iload_n 0), a0 (.tableswitch 43 0 2 #[27, 35, 35]) 27 0 0 0 0 0, none, none, none, none, none, none, none, none, none, none, none, none, none, none, none, none, none, none, none, none, none, none, none, none, none, none, a1 (.iload_n 1), a1 (.iconst 0), a2 (.bipush 6), none],
  [a0 (.invokestatic 50) 3 59 12 6 3 0, none, none, a1 (.ireturn), a1 (.iload_n 1), a1 (.iconst 0), a2 (.bipush 15), none, a0 (.invokestatic 50) 3 59 12 6 3 0, none, none, a1 (.ireturn), a1 (.iload_n 0), a1 (.iconst 3), a2 (.bipush 6), none, a0 (.invokestatic 50) 3 59 12 6 3 0, none, none, a3 (.ifCond .eq 17), none, none, a1 (.iload_n 1), a1 (.iconst 0), a2 (.bipush 9), none, a0 (.invokestatic 50) 3 59 12 6 3 0, none, none, a3 (.ifCond .eq 7), none, none],
  [a1 (.iconst 1), a3 (.goto 4), none, none, a1 (.iconst 0), a1 (.ireturn)]]
/-- 28: EnvyRust.envy -/
noncomputable def mk_28 : List (List (Option mEnt)) := [[a1 (.aload_n 0), a0 (.getfield 10) 3 49 0 3 0 0, none, none, a1 (.iload_n 1), a0 (.invokevirtual 90) 3 76 11 19 2 0, none, none, a3 (.ifCond .eq 14), none, none, a1 (.aload_n 0), a0 (.getfield 10) 3 49 0 3 0 0, none, none, a1 (.iload_n 2), a0 (.invokevirtual 68) 3 65 11 10 2 0, none, none, a3 (.ifCond .ne 10), none, none, a1 (.aload_n 0), a0 (.ldc 54) 2 60 2 0 0 (-1000001), none, a0 (.invokevirtual 55) 3 61 10 7 2 0, none, none, a1 (.ireturn), a1 (.aload_n 0), a0 (.getfield 10) 3 49 0 3 0 0, none],
  [none, a1 (.iload_n 1), a1 (.iload_n 2), a0 (.invokevirtual 108) 3 88 11 12 3 0, none, none, a1 (.ireturn)]]
/-- 29: EnvyRust.go -/
noncomputable def mk_29 : List (List (Option mEnt)) := [[a1 (.iload_n 1), a1 (.iconst 1), a2 (.bipush 60), none, a0 (.invokestatic 50) 3 59 12 6 3 0, none, none, a3 (.ifCond .ne 10), none, none, a1 (.aload_n 0), a0 (.ldc 54) 2 60 2 0 0 (-1000001), none, a0 (.invokevirtual 55) 3 61 10 7 2 0, none, none, a1 (.ireturn), a1 (.aload_n 0), a0 (.getfield 10) 3 49 0 3 0 0, none, none, a0 (.getfield 111) 3 22 1 2 5 0, none, none, a1 (.iload_n 1), a1 (.iadd), a0 (.ldc 114) 2 90 2 0 0 99999, none, a3 (.if_icmp .le 10), none, none, a1 (.aload_n 0)],
  [a0 (.ldc 89) 2 80 2 0 0 (-1000005), none, a0 (.invokevirtual 55) 3 61 10 7 2 0, none, none, a1 (.ireturn), a1 (.aload_n 0), a0 (.getfield 10) 3 49 0 3 0 0, none, none, a1 (.iload_n 1), a0 (.invokevirtual 115) 3 91 11 30 2 0, none, none, a1 (.aload_n 0), a0 (.getfield 10) 3 49 0 3 0 0, none, none, a0 (.invokevirtual 119) 3 97 11 35 1 0, none, none, a0 (.invokestatic 123) 3 98 12 36 1 0, none, none, a1 (.ireturn)]]
/-- 30: EnvyRust$Town.passDays -/
noncomputable def mk_30 : List (List (Option mEnt)) := [[a1 (.iconst 0), a1 (.istore_n 2), a1 (.iload_n 2), a1 (.iload_n 1), a3 (.if_icmp .ge 59), none, none, a1 (.iconst 0), a1 (.istore_n 3), a1 (.iload_n 3), a1 (.aload_n 0), a0 (.getfield 23) 3 15 0 2 3 0, none, none, a3 (.if_icmp .ge 25), none, none, a1 (.aload_n 0), a0 (.getfield 13) 3 7 0 2 0 0, none, none, a1 (.iconst 2), a1 (.aaload), a1 (.iload_n 3), a1 (.dup2), a1 (.iaload), a1 (.aload_n 0), a1 (.iload_n 3), a0 (.invokevirtual 76) 3 92 10 11 2 0, none, none, a1 (.isub)],
  [a1 (.iastore), a3 (.iinc 3 1), none, none, a3 (.goto (-27)), none, none, a1 (.aload_n 0), a0 (.invokevirtual 80) 3 93 10 31 1 0, none, none, a1 (.aload_n 0), a0 (.invokevirtual 83) 3 95 10 33 1 0, none, none, a1 (.aload_n 0), a1 (.dup), a0 (.getfield 30) 3 21 0 2 5 0, none, none, a1 (.iconst 1), a1 (.iadd), a0 (.putfield 30) 3 21 0 2 5 0, none, none, a3 (.iinc 2 1), none, none, a3 (.goto (-58)), none, none, a1 (.return_)]]
/-- 31: EnvyRust$Town.fallAll -/
noncomputable def mk_31 : List (List (Option mEnt)) := [[a1 (.iconst 1), a1 (.istore_n 1), a1 (.iconst 0), a1 (.istore_n 2), a1 (.iload_n 2), a2 (.bipush 8), none, a3 (.if_icmp .ge 75), none, none, a1 (.iload_n 1), a3 (.ifCond .eq 71), none, none, a1 (.iconst 0), a1 (.istore_n 1), a1 (.iconst 0), a1 (.istore_n 3), a1 (.iload_n 3), a1 (.aload_n 0), a0 (.getfield 23) 3 15 0 2 3 0, none, none, a3 (.if_icmp .ge 53), none, none, a1 (.aload_n 0), a0 (.getfield 13) 3 7 0 2 0 0, none, none, a1 (.iconst 5), a1 (.aaload)],
  [a1 (.iload_n 3), a1 (.iaload), a2 (.istore 4), none, a2 (.iload 4), none, a1 (.iconst (-1)), a3 (.if_icmp .eq 31), none, none, a1 (.aload_n 0), a2 (.iload 4), none, a0 (.invokevirtual 86) 3 94 10 32 2 0, none, none, a3 (.ifCond .eq 22), none, none, a1 (.aload_n 0), a1 (.iload_n 3), a0 (.invokevirtual 86) 3 94 10 32 2 0, none, none, a3 (.ifCond .ne 14), none, none, a1 (.aload_n 0), a0 (.getfield 13) 3 7 0 2 0 0, none, none, a1 (.iconst 2)],
  [a1 (.aaload), a1 (.iload_n 3), a1 (.iconst 0), a1 (.iastore), a1 (.iconst 1), a1 (.istore_n 1), a3 (.iinc 3 1), none, none, a3 (.goto (-55)), none, none, a3 (.iinc 2 1), none, none, a3 (.goto (-75)), none, none, a1 (.return_)]]
/-- 32: EnvyRust$Town.isGone -/
noncomputable def mk_32 : List (List (Option mEnt)) := [[a1 (.aload_n 0), a0 (.getfield 13) 3 7 0 2 0 0, none, none, a1 (.iconst 2), a1 (.aaload), a1 (.iload_n 1), a1 (.iaload), a3 (.ifCond .ne 7), none, none, a1 (.iconst 1), a3 (.goto 4), none, none, a1 (.iconst 0), a1 (.ireturn)]]
/-- 33: EnvyRust$Town.walkAll -/
noncomputable def mk_33 : List (List (Option mEnt)) := [[a1 (.iconst 0), a1 (.istore_n 1), a1 (.iload_n 1), a1 (.aload_n 0), a0 (.getfield 27) 3 18 0 2 4 0, none, none, a3 (.if_icmp .ge 36), none, none, a1 (.aload_n 0), a0 (.getfield 16) 3 10 0 2 1 0, none, none, a1 (.iconst 1), a1 (.aaload), a1 (.iload_n 1), a1 (.aload_n 0), a0 (.getfield 16) 3 10 0 2 1 0, none, none, a1 (.iconst 1), a1 (.aaload), a1 (.iload_n 1), a1 (.iaload), a1 (.aload_n 0), a0 (.getfield 16) 3 10 0 2 1 0, none, none, a1 (.iconst 2), a1 (.aaload), a1 (.iload_n 1)],
  [a1 (.iaload), a0 (.invokestatic 90) 3 96 13 34 2 0, none, none, a1 (.iastore), a3 (.iinc 1 1), none, none, a3 (.goto (-38)), none, none, a1 (.return_)]]
/-- 34: EnvyRust.onward -/
noncomputable def mk_34 : List (List (Option mEnt)) := [[a1 (.iload_n 0), a1 (.iload_n 1), a1 (.iadd), a2 (.bipush 16), none, a1 (.irem), a1 (.ireturn)]]
/-- 35: EnvyRust$Town.goneSet -/
noncomputable def mk_35 : List (List (Option mEnt)) := [[a1 (.iconst 0), a1 (.istore_n 1), a1 (.iconst 0), a1 (.istore_n 2), a1 (.iload_n 2), a1 (.aload_n 0), a0 (.getfield 23) 3 15 0 2 3 0, none, none, a3 (.if_icmp .ge 23), none, none, a1 (.aload_n 0), a1 (.iload_n 2), a0 (.invokevirtual 86) 3 94 10 32 2 0, none, none, a3 (.ifCond .eq 9), none, none, a1 (.iload_n 1), a1 (.iconst 1), a1 (.iload_n 2), a1 (.ishl), a1 (.ior), a1 (.istore_n 1), a3 (.iinc 2 1), none, none, a3 (.goto (-25)), none, none],
  [a1 (.iload_n 1), a1 (.ireturn)]]
/-- 36: java/lang/Integer.bitCount -/
noncomputable def mk_36 : List (List (Option mEnt)) := [[a1 (.iload_n 0), a1 (.iload_n 0), a1 (.iconst 1), a1 (.iushr), a0 (.ldc_w 265) 3 99 2 0 0 1431655765, none, none, a1 (.iand), a1 (.isub), a1 (.istore_n 0), a1 (.iload_n 0), a0 (.ldc_w 266) 3 100 2 0 0 858993459, none, none, a1 (.iand), a1 (.iload_n 0), a1 (.iconst 2), a1 (.iushr), a0 (.ldc_w 266) 3 100 2 0 0 858993459, none, none, a1 (.iand), a1 (.iadd), a1 (.istore_n 0), a1 (.iload_n 0), a1 (.iload_n 0), a1 (.iconst 4), a1 (.iushr), a1 (.iadd), a0 (.ldc_w 267) 3 101 2 0 0 252645135, none, none],
  [a1 (.iand), a1 (.istore_n 0), a1 (.iload_n 0), a1 (.iload_n 0), a2 (.bipush 8), none, a1 (.iushr), a1 (.iadd), a1 (.istore_n 0), a1 (.iload_n 0), a1 (.iload_n 0), a2 (.bipush 16), none, a1 (.iushr), a1 (.iadd), a1 (.istore_n 0), a1 (.iload_n 0), a2 (.bipush 63), none, a1 (.iand), a1 (.ireturn)]]
/-- 37: EnvyRust.now -/
noncomputable def mk_37 : List (List (Option mEnt)) := [[a1 (.iload_n 1), a0 (.tableswitch 75 0 4 #[35, 43, 51, 59, 67]) 35 0 0 0 0 0, none, none, none, none, none, none, none, none, none, none, none, none, none, none, none, none, none, none, none, none, none, none, none, none, none, none, none, none, none, none],
  [none, none, none, none, a1 (.aload_n 0), a0 (.getfield 10) 3 49 0 3 0 0, none, none, a0 (.getfield 111) 3 22 1 2 5 0, none, none, a1 (.ireturn), a1 (.aload_n 0), a0 (.getfield 10) 3 49 0 3 0 0, none, none, a0 (.invokevirtual 119) 3 97 11 35 1 0, none, none, a1 (.ireturn), a1 (.aload_n 0), a0 (.getfield 10) 3 49 0 3 0 0, none, none, a0 (.invokevirtual 128) 3 103 11 38 1 0, none, none, a1 (.ireturn), a1 (.aload_n 0), a0 (.getfield 10) 3 49 0 3 0 0, none, none],
  [a0 (.invokevirtual 131) 3 104 11 39 1 0, none, none, a1 (.ireturn), a1 (.aload_n 0), a0 (.getfield 10) 3 49 0 3 0 0, none, none, a0 (.invokevirtual 134) 3 105 11 40 1 0, none, none, a1 (.ireturn), a1 (.aload_n 0), a0 (.ldc 54) 2 60 2 0 0 (-1000001), none, a0 (.invokevirtual 55) 3 61 10 7 2 0, none, none, a1 (.ireturn)]]
/-- 38: EnvyRust$Town.allThick -/
noncomputable def mk_38 : List (List (Option mEnt)) := [[a1 (.iconst 0), a1 (.istore_n 1), a1 (.iconst 0), a1 (.istore_n 2), a1 (.iload_n 2), a1 (.aload_n 0), a0 (.getfield 23) 3 15 0 2 3 0, none, none, a3 (.if_icmp .ge 20), none, none, a1 (.iload_n 1), a1 (.aload_n 0), a0 (.getfield 13) 3 7 0 2 0 0, none, none, a1 (.iconst 2), a1 (.aaload), a1 (.iload_n 2), a1 (.iaload), a1 (.iadd), a1 (.istore_n 1), a3 (.iinc 2 1), none, none, a3 (.goto (-22)), none, none, a1 (.iload_n 1), a1 (.ireturn)]]
/-- 39: EnvyRust$Town.allWear -/
noncomputable def mk_39 : List (List (Option mEnt)) := [[a1 (.iconst 0), a1 (.istore_n 1), a1 (.iconst 0), a1 (.istore_n 2), a1 (.iload_n 2), a1 (.aload_n 0), a0 (.getfield 23) 3 15 0 2 3 0, none, none, a3 (.if_icmp .ge 17), none, none, a1 (.iload_n 1), a1 (.aload_n 0), a1 (.iload_n 2), a0 (.invokevirtual 76) 3 92 10 11 2 0, none, none, a1 (.iadd), a1 (.istore_n 1), a3 (.iinc 2 1), none, none, a3 (.goto (-19)), none, none, a1 (.iload_n 1), a1 (.ireturn)]]
/-- 40: EnvyRust$Town.visited -/
noncomputable def mk_40 : List (List (Option mEnt)) := [[a1 (.iconst 0), a1 (.istore_n 1), a1 (.iconst 0), a1 (.istore_n 2), a1 (.iload_n 2), a1 (.aload_n 0), a0 (.getfield 27) 3 18 0 2 4 0, none, none, a3 (.if_icmp .ge 22), none, none, a1 (.iload_n 1), a1 (.iconst 1), a1 (.aload_n 0), a0 (.getfield 16) 3 10 0 2 1 0, none, none, a1 (.iconst 1), a1 (.aaload), a1 (.iload_n 2), a1 (.iaload), a1 (.ishl), a1 (.ior), a1 (.istore_n 1), a3 (.iinc 2 1), none, none, a3 (.goto (-24)), none, none, a1 (.iconst 0)],
  [a1 (.istore_n 2), a1 (.iconst 0), a1 (.istore_n 3), a1 (.iload_n 3), a1 (.aload_n 0), a0 (.getfield 23) 3 15 0 2 3 0, none, none, a3 (.if_icmp .ge 30), none, none, a1 (.iload_n 1), a1 (.aload_n 0), a0 (.getfield 13) 3 7 0 2 0 0, none, none, a1 (.iconst 1), a1 (.aaload), a1 (.iload_n 3), a1 (.iaload), a0 (.invokestatic 67) 3 78 13 21 2 0, none, none, a3 (.ifCond .eq 9), none, none, a1 (.iload_n 2), a1 (.iconst 1), a1 (.iload_n 3), a1 (.ishl), a1 (.ior), a1 (.istore_n 2)],
  [a3 (.iinc 3 1), none, none, a3 (.goto (-32)), none, none, a1 (.iload_n 2), a1 (.ireturn)]]
/-- 41: EnvyRust.ahead -/
noncomputable def mk_41 : List (List (Option mEnt)) := [[a1 (.aload_n 0), a0 (.getfield 10) 3 49 0 3 0 0, none, none, a1 (.iload_n 1), a0 (.invokevirtual 68) 3 65 11 10 2 0, none, none, a3 (.ifCond .eq 13), none, none, a1 (.iload_n 2), a1 (.iconst 0), a2 (.bipush 100), none, a0 (.invokestatic 50) 3 59 12 6 3 0, none, none, a3 (.ifCond .ne 10), none, none, a1 (.aload_n 0), a0 (.ldc 54) 2 60 2 0 0 (-1000001), none, a0 (.invokevirtual 55) 3 61 10 7 2 0, none, none, a1 (.ireturn), a1 (.aload_n 0), a0 (.invokevirtual 137) 3 107 10 42 1 0, none, none],
  [a1 (.aload_n 0), a0 (.getfield 19) 3 51 0 3 2 0, none, none, a1 (.iload_n 2), a0 (.invokevirtual 115) 3 91 11 30 2 0, none, none, a1 (.aload_n 0), a0 (.getfield 19) 3 51 0 3 2 0, none, none, a0 (.getfield 75) 3 8 1 2 0 0, none, none, a1 (.iconst 2), a1 (.aaload), a1 (.iload_n 1), a1 (.iaload), a1 (.ireturn)]]
/-- 42: EnvyRust.startTrial -/
noncomputable def mk_42 : List (List (Option mEnt)) := [[a1 (.aload_n 0), a0 (.getfield 19) 3 51 0 3 2 0, none, none, a1 (.aload_n 0), a0 (.getfield 10) 3 49 0 3 0 0, none, none, a0 (.invokevirtual 181) 3 108 11 43 2 0, none, none, a1 (.return_)]]
/-- 43: EnvyRust$Town.become -/
noncomputable def mk_43 : List (List (Option mEnt)) := [[a1 (.iconst 0), a1 (.istore_n 2), a1 (.iload_n 2), a2 (.bipush 6), none, a3 (.if_icmp .ge 28), none, none, a1 (.aload_n 1), a0 (.getfield 13) 3 7 0 2 0 0, none, none, a1 (.iload_n 2), a1 (.aaload), a1 (.iconst 0), a1 (.aload_n 0), a0 (.getfield 13) 3 7 0 2 0 0, none, none, a1 (.iload_n 2), a1 (.aaload), a1 (.iconst 0), a2 (.bipush 8), none, a0 (.invokestatic 39) 3 109 21 0 0 0, none, none, a3 (.iinc 2 1), none, none, a3 (.goto (-28)), none],
  [none, a1 (.iconst 0), a1 (.istore_n 2), a1 (.iload_n 2), a2 (.bipush 7), none, a3 (.if_icmp .ge 28), none, none, a1 (.aload_n 1), a0 (.getfield 16) 3 10 0 2 1 0, none, none, a1 (.iload_n 2), a1 (.aaload), a1 (.iconst 0), a1 (.aload_n 0), a0 (.getfield 16) 3 10 0 2 1 0, none, none, a1 (.iload_n 2), a1 (.aaload), a1 (.iconst 0), a2 (.bipush 8), none, a0 (.invokestatic 39) 3 109 21 0 0 0, none, none, a3 (.iinc 2 1), none, none, a3 (.goto (-28))],
  [none, none, a1 (.aload_n 1), a0 (.getfield 19) 3 13 0 2 2 0, none, none, a1 (.iconst 0), a1 (.aload_n 0), a0 (.getfield 19) 3 13 0 2 2 0, none, none, a1 (.iconst 0), a2 (.bipush 10), none, a0 (.invokestatic 39) 3 109 21 0 0 0, none, none, a1 (.aload_n 0), a1 (.aload_n 1), a0 (.getfield 23) 3 15 0 2 3 0, none, none, a0 (.putfield 23) 3 15 0 2 3 0, none, none, a1 (.aload_n 0), a1 (.aload_n 1), a0 (.getfield 27) 3 18 0 2 4 0, none, none, a0 (.putfield 27) 3 18 0 2 4 0, none],
  [none, a1 (.aload_n 0), a1 (.aload_n 1), a0 (.getfield 30) 3 21 0 2 5 0, none, none, a0 (.putfield 30) 3 21 0 2 5 0, none, none, a1 (.aload_n 0), a1 (.aload_n 1), a0 (.getfield 33) 3 23 0 2 6 0, none, none, a0 (.putfield 33) 3 23 0 2 6 0, none, none, a1 (.aload_n 0), a1 (.aload_n 1), a0 (.getfield 36) 3 25 0 2 7 0, none, none, a0 (.putfield 36) 3 25 0 2 7 0, none, none, a1 (.return_)]]
/-- 44: EnvyRust.lasts -/
noncomputable def mk_44 : List (List (Option mEnt)) := [[a1 (.aload_n 0), a0 (.getfield 10) 3 49 0 3 0 0, none, none, a1 (.iload_n 1), a0 (.invokevirtual 68) 3 65 11 10 2 0, none, none, a3 (.ifCond .ne 10), none, none, a1 (.aload_n 0), a0 (.ldc 54) 2 60 2 0 0 (-1000001), none, a0 (.invokevirtual 55) 3 61 10 7 2 0, none, none, a1 (.ireturn), a1 (.aload_n 0), a0 (.invokevirtual 137) 3 107 10 42 1 0, none, none, a1 (.iconst 0), a1 (.istore_n 2), a1 (.iload_n 2), a2 (.bipush 100), none, a3 (.if_icmp .gt 30), none, none, a1 (.aload_n 0), a0 (.getfield 19) 3 51 0 3 2 0],
  [none, none, a1 (.iload_n 1), a0 (.invokevirtual 140) 3 111 11 32 2 0, none, none, a3 (.ifCond .eq 5), none, none, a1 (.iload_n 2), a1 (.ireturn), a1 (.aload_n 0), a0 (.getfield 19) 3 51 0 3 2 0, none, none, a1 (.iconst 1), a0 (.invokevirtual 115) 3 91 11 30 2 0, none, none, a3 (.iinc 2 1), none, none, a3 (.goto (-30)), none, none, a1 (.aload_n 0), a0 (.ldc 143) 2 112 2 0 0 (-1000004), none, a0 (.invokevirtual 55) 3 61 10 7 2 0, none, none, a1 (.ireturn)]]
/-- 45: EnvyRust.gone -/
noncomputable def mk_45 : List (List (Option mEnt)) := [[a1 (.iload_n 1), a1 (.iconst 0), a2 (.bipush 100), none, a0 (.invokestatic 50) 3 59 12 6 3 0, none, none, a3 (.ifCond .ne 10), none, none, a1 (.aload_n 0), a0 (.ldc 54) 2 60 2 0 0 (-1000001), none, a0 (.invokevirtual 55) 3 61 10 7 2 0, none, none, a1 (.ireturn), a1 (.aload_n 0), a0 (.invokevirtual 137) 3 107 10 42 1 0, none, none, a1 (.aload_n 0), a0 (.getfield 19) 3 51 0 3 2 0, none, none, a1 (.iload_n 1), a0 (.invokevirtual 115) 3 91 11 30 2 0, none, none, a1 (.aload_n 0), a0 (.getfield 19) 3 51 0 3 2 0, none],
  [none, a0 (.invokevirtual 119) 3 97 11 35 1 0, none, none, a1 (.ireturn)]]
/-- 46: EnvyRust.worn -/
noncomputable def mk_46 : List (List (Option mEnt)) := [[a1 (.iload_n 1), a1 (.iconst 0), a2 (.bipush 100), none, a0 (.invokestatic 50) 3 59 12 6 3 0, none, none, a3 (.ifCond .ne 10), none, none, a1 (.aload_n 0), a0 (.ldc 54) 2 60 2 0 0 (-1000001), none, a0 (.invokevirtual 55) 3 61 10 7 2 0, none, none, a1 (.ireturn), a1 (.aload_n 0), a0 (.invokevirtual 137) 3 107 10 42 1 0, none, none, a1 (.aload_n 0), a0 (.getfield 19) 3 51 0 3 2 0, none, none, a1 (.iload_n 1), a0 (.invokevirtual 115) 3 91 11 30 2 0, none, none, a1 (.aload_n 0), a0 (.getfield 10) 3 49 0 3 0 0, none],
  [none, a0 (.invokevirtual 128) 3 103 11 38 1 0, none, none, a1 (.aload_n 0), a0 (.getfield 19) 3 51 0 3 2 0, none, none, a0 (.invokevirtual 128) 3 103 11 38 1 0, none, none, a1 (.isub), a1 (.ireturn)]]
/-- 47: EnvyRust.sees -/
noncomputable def mk_47 : List (List (Option mEnt)) := [[a1 (.aload_n 0), a0 (.getfield 10) 3 49 0 3 0 0, none, none, a1 (.iload_n 1), a0 (.invokevirtual 90) 3 76 11 19 2 0, none, none, a3 (.ifCond .eq 14), none, none, a1 (.aload_n 0), a0 (.getfield 10) 3 49 0 3 0 0, none, none, a1 (.iload_n 2), a0 (.invokevirtual 68) 3 65 11 10 2 0, none, none, a3 (.ifCond .ne 10), none, none, a1 (.aload_n 0), a0 (.ldc 54) 2 60 2 0 0 (-1000001), none, a0 (.invokevirtual 55) 3 61 10 7 2 0, none, none, a1 (.ireturn), a1 (.aload_n 0), a0 (.getfield 10) 3 49 0 3 0 0, none],
  [none, a0 (.getfield 75) 3 8 1 2 0 0, none, none, a1 (.iconst 1), a1 (.aaload), a1 (.iload_n 2), a1 (.iaload), a1 (.istore_n 3), a1 (.aload_n 0), a0 (.getfield 10) 3 49 0 3 0 0, none, none, a0 (.getfield 102) 3 12 1 2 1 0, none, none, a1 (.iconst 2), a1 (.aaload), a1 (.iload_n 1), a1 (.iaload), a2 (.istore 4), none, a1 (.aload_n 0), a0 (.getfield 10) 3 49 0 3 0 0, none, none, a0 (.getfield 102) 3 12 1 2 1 0, none, none, a1 (.iconst 1), a1 (.aaload), a1 (.iload_n 1)],
  [a1 (.iaload), a2 (.istore 5), none, a1 (.iconst 0), a2 (.istore 6), none, a2 (.iload 6), none, a2 (.bipush 100), none, a3 (.if_icmp .gt 27), none, none, a2 (.iload 5), none, a1 (.iload_n 3), a3 (.if_icmp .ne 6), none, none, a2 (.iload 6), none, a1 (.ireturn), a2 (.iload 5), none, a2 (.iload 4), none, a0 (.invokestatic 144) 3 116 12 34 2 0, none, none, a2 (.istore 5), none, a3 (.iinc 6 1)],
  [none, none, a3 (.goto (-28)), none, none, a1 (.aload_n 0), a0 (.ldc 143) 2 112 2 0 0 (-1000004), none, a0 (.invokevirtual 55) 3 61 10 7 2 0, none, none, a1 (.ireturn)]]
/-- 48: EnvyRust.kindFor -/
noncomputable def mk_48 : List (List (Option mEnt)) := [[a1 (.aload_n 0), a0 (.getfield 10) 3 49 0 3 0 0, none, none, a1 (.iload_n 1), a0 (.invokevirtual 90) 3 76 11 19 2 0, none, none, a3 (.ifCond .eq 13), none, none, a1 (.iload_n 2), a1 (.iconst 0), a2 (.bipush 60), none, a0 (.invokestatic 50) 3 59 12 6 3 0, none, none, a3 (.ifCond .ne 10), none, none, a1 (.aload_n 0), a0 (.ldc 54) 2 60 2 0 0 (-1000001), none, a0 (.invokevirtual 55) 3 61 10 7 2 0, none, none, a1 (.ireturn), a1 (.aload_n 0), a1 (.iload_n 1), a1 (.iconst 0), a2 (.bipush 7)],
  [none, a1 (.iload_n 2), a0 (.invokevirtual 147) 3 118 10 49 5 0, none, none, a1 (.ireturn)]]
/-- 49: EnvyRust.sparingFor -/
noncomputable def mk_49 : List (List (Option mEnt)) := [[a1 (.iconst 0), a2 (.istore 5), none, a1 (.iconst (-1)), a2 (.istore 6), none, a1 (.iconst 0), a2 (.istore 7), none, a2 (.iload 7), none, a1 (.iload_n 3), a3 (.if_icmp .ge 59), none, none, a1 (.aload_n 0), a0 (.invokevirtual 137) 3 107 10 42 1 0, none, none, a1 (.aload_n 0), a0 (.getfield 19) 3 51 0 3 2 0, none, none, a0 (.getfield 102) 3 12 1 2 1 0, none, none, a1 (.iload_n 2), a1 (.aaload), a1 (.iload_n 1), a2 (.iload 7), none, a1 (.iastore)],
  [a1 (.aload_n 0), a0 (.getfield 19) 3 51 0 3 2 0, none, none, a2 (.iload 4), none, a0 (.invokevirtual 115) 3 91 11 30 2 0, none, none, a1 (.aload_n 0), a0 (.getfield 19) 3 51 0 3 2 0, none, none, a0 (.invokevirtual 128) 3 103 11 38 1 0, none, none, a2 (.istore 8), none, a2 (.iload 8), none, a2 (.iload 6), none, a3 (.if_icmp .le 11), none, none, a2 (.iload 8), none, a2 (.istore 6), none, a2 (.iload 7), none, a2 (.istore 5)],
  [none, a3 (.iinc 7 1), none, none, a3 (.goto (-59)), none, none, a2 (.iload 5), none, a1 (.ireturn)]]
/-- 50: EnvyRust.walkFor -/
noncomputable def mk_50 : List (List (Option mEnt)) := [[a1 (.aload_n 0), a0 (.getfield 10) 3 49 0 3 0 0, none, none, a1 (.iload_n 1), a0 (.invokevirtual 90) 3 76 11 19 2 0, none, none, a3 (.ifCond .eq 13), none, none, a1 (.iload_n 2), a1 (.iconst 0), a2 (.bipush 60), none, a0 (.invokestatic 50) 3 59 12 6 3 0, none, none, a3 (.ifCond .ne 10), none, none, a1 (.aload_n 0), a0 (.ldc 54) 2 60 2 0 0 (-1000001), none, a0 (.invokevirtual 55) 3 61 10 7 2 0, none, none, a1 (.ireturn), a1 (.aload_n 0), a1 (.iload_n 1), a1 (.iconst 2), a2 (.bipush 16)],
  [none, a1 (.iload_n 2), a0 (.invokevirtual 147) 3 118 10 49 5 0, none, none, a1 (.ireturn)]]
/-- 51: EnvyRust.placeFor -/
noncomputable def mk_51 : List (List (Option mEnt)) := [[a1 (.aload_n 0), a0 (.getfield 10) 3 49 0 3 0 0, none, none, a1 (.iload_n 1), a0 (.invokevirtual 68) 3 65 11 10 2 0, none, none, a3 (.ifCond .eq 13), none, none, a1 (.iload_n 2), a1 (.iconst 0), a2 (.bipush 60), none, a0 (.invokestatic 50) 3 59 12 6 3 0, none, none, a3 (.ifCond .ne 10), none, none, a1 (.aload_n 0), a0 (.ldc 54) 2 60 2 0 0 (-1000001), none, a0 (.invokevirtual 55) 3 61 10 7 2 0, none, none, a1 (.ireturn), a1 (.aload_n 0), a1 (.iload_n 1), a1 (.iconst 1), a2 (.bipush 16)],
  [none, a1 (.iload_n 2), a0 (.invokevirtual 151) 3 121 10 52 5 0, none, none, a1 (.ireturn)]]
/-- 52: EnvyRust.thickestFor -/
noncomputable def mk_52 : List (List (Option mEnt)) := [[a1 (.iconst 0), a2 (.istore 5), none, a1 (.iconst (-1)), a2 (.istore 6), none, a1 (.iconst 0), a2 (.istore 7), none, a2 (.iload 7), none, a1 (.iload_n 3), a3 (.if_icmp .ge 63), none, none, a1 (.aload_n 0), a0 (.invokevirtual 137) 3 107 10 42 1 0, none, none, a1 (.aload_n 0), a0 (.getfield 19) 3 51 0 3 2 0, none, none, a0 (.getfield 75) 3 8 1 2 0 0, none, none, a1 (.iload_n 2), a1 (.aaload), a1 (.iload_n 1), a2 (.iload 7), none, a1 (.iastore)],
  [a1 (.aload_n 0), a0 (.getfield 19) 3 51 0 3 2 0, none, none, a2 (.iload 4), none, a0 (.invokevirtual 115) 3 91 11 30 2 0, none, none, a1 (.aload_n 0), a0 (.getfield 19) 3 51 0 3 2 0, none, none, a0 (.getfield 75) 3 8 1 2 0 0, none, none, a1 (.iconst 2), a1 (.aaload), a1 (.iload_n 1), a1 (.iaload), a2 (.istore 8), none, a2 (.iload 8), none, a2 (.iload 6), none, a3 (.if_icmp .le 11), none, none, a2 (.iload 8), none, a2 (.istore 6)],
  [none, a2 (.iload 7), none, a2 (.istore 5), none, a3 (.iinc 7 1), none, none, a3 (.goto (-63)), none, none, a2 (.iload 5), none, a1 (.ireturn)]]
/-- 53: EnvyRust.ownerFor -/
noncomputable def mk_53 : List (List (Option mEnt)) := [[a1 (.aload_n 0), a0 (.getfield 10) 3 49 0 3 0 0, none, none, a1 (.iload_n 1), a0 (.invokevirtual 68) 3 65 11 10 2 0, none, none, a3 (.ifCond .eq 13), none, none, a1 (.iload_n 2), a1 (.iconst 0), a2 (.bipush 60), none, a0 (.invokestatic 50) 3 59 12 6 3 0, none, none, a3 (.ifCond .ne 10), none, none, a1 (.aload_n 0), a0 (.ldc 54) 2 60 2 0 0 (-1000001), none, a0 (.invokevirtual 55) 3 61 10 7 2 0, none, none, a1 (.ireturn), a1 (.aload_n 0), a0 (.getfield 10) 3 49 0 3 0 0, none, none],
  [a0 (.getfield 93) 3 20 1 2 4 0, none, none, a3 (.ifCond .ne 10), none, none, a1 (.aload_n 0), a0 (.ldc 143) 2 112 2 0 0 (-1000004), none, a0 (.invokevirtual 55) 3 61 10 7 2 0, none, none, a1 (.ireturn), a1 (.aload_n 0), a1 (.iload_n 1), a1 (.iconst 4), a1 (.aload_n 0), a0 (.getfield 10) 3 49 0 3 0 0, none, none, a0 (.getfield 93) 3 20 1 2 4 0, none, none, a1 (.iload_n 2), a0 (.invokevirtual 151) 3 121 10 52 5 0, none, none, a1 (.ireturn)]]
/-- 54: EnvyRust.worst -/
noncomputable def mk_54 : List (List (Option mEnt)) := [[a1 (.iload_n 1), a1 (.iconst 0), a2 (.bipush 60), none, a0 (.invokestatic 50) 3 59 12 6 3 0, none, none, a3 (.ifCond .ne 10), none, none, a1 (.aload_n 0), a0 (.ldc 54) 2 60 2 0 0 (-1000001), none, a0 (.invokevirtual 55) 3 61 10 7 2 0, none, none, a1 (.ireturn), a1 (.aload_n 0), a0 (.getfield 10) 3 49 0 3 0 0, none, none, a0 (.getfield 93) 3 20 1 2 4 0, none, none, a3 (.ifCond .ne 10), none, none, a1 (.aload_n 0), a0 (.ldc 143) 2 112 2 0 0 (-1000004), none, a0 (.invokevirtual 55) 3 61 10 7 2 0, none],
  [none, a1 (.ireturn), a1 (.iconst 0), a1 (.istore_n 2), a1 (.iconst (-1)), a1 (.istore_n 3), a1 (.iconst 0), a2 (.istore 4), none, a2 (.iload 4), none, a1 (.aload_n 0), a0 (.getfield 10) 3 49 0 3 0 0, none, none, a0 (.getfield 93) 3 20 1 2 4 0, none, none, a3 (.if_icmp .ge 51), none, none, a1 (.aload_n 0), a0 (.invokevirtual 137) 3 107 10 42 1 0, none, none, a1 (.aload_n 0), a0 (.getfield 19) 3 51 0 3 2 0, none, none, a2 (.iload 4), none, a0 (.putfield 154) 3 26 1 2 7 0],
  [none, none, a1 (.aload_n 0), a0 (.getfield 19) 3 51 0 3 2 0, none, none, a1 (.iload_n 1), a0 (.invokevirtual 115) 3 91 11 30 2 0, none, none, a1 (.aload_n 0), a0 (.getfield 19) 3 51 0 3 2 0, none, none, a0 (.invokevirtual 128) 3 103 11 38 1 0, none, none, a2 (.istore 5), none, a2 (.iload 5), none, a1 (.iload_n 3), a3 (.if_icmp .le 9), none, none, a2 (.iload 5), none, a1 (.istore_n 3), a2 (.iload 4), none, a1 (.istore_n 2), a3 (.iinc 4 1)],
  [none, none, a3 (.goto (-57)), none, none, a1 (.iload_n 2), a1 (.ireturn)]]
/-- 55: EnvyRust.paint -/
noncomputable def mk_55 : List (List (Option mEnt)) := [[a1 (.iload_n 1), a1 (.iconst 0), a2 (.bipush 8), none, a0 (.invokestatic 50) 3 59 12 6 3 0, none, none, a3 (.ifCond .eq 13), none, none, a1 (.iload_n 2), a1 (.iconst 0), a2 (.bipush 60), none, a0 (.invokestatic 50) 3 59 12 6 3 0, none, none, a3 (.ifCond .ne 10), none, none, a1 (.aload_n 0), a0 (.ldc 54) 2 60 2 0 0 (-1000001), none, a0 (.invokevirtual 55) 3 61 10 7 2 0, none, none, a1 (.ireturn), a1 (.iload_n 1), a1 (.aload_n 0), a0 (.getfield 10) 3 49 0 3 0 0, none, none],
  [a0 (.getfield 59) 3 16 1 2 3 0, none, none, a0 (.invokestatic 157) 3 125 25 0 0 0, none, none, a1 (.istore_n 3), a1 (.aload_n 0), a1 (.iconst 0), a1 (.iload_n 2), a1 (.aload_n 0), a0 (.getfield 43) 3 56 0 3 7 0, none, none, a0 (.invokevirtual 162) 3 126 10 56 4 0, none, none, a1 (.aload_n 0), a1 (.aload_n 0), a0 (.getfield 10) 3 49 0 3 0 0, none, none, a0 (.invokevirtual 166) 3 128 11 57 1 0, none, none, a1 (.iload_n 2), a1 (.aload_n 0), a0 (.getfield 46) 3 57 0 3 8 0, none, none, a0 (.invokevirtual 162) 3 126 10 56 4 0, none],
  [none, a1 (.aload_n 0), a0 (.invokevirtual 137) 3 107 10 42 1 0, none, none, a1 (.iconst 0), a2 (.istore 4), none, a1 (.iconst (-1)), a2 (.istore 5), none, a1 (.iconst 0), a2 (.istore 6), none, a2 (.iload 6), none, a1 (.aload_n 0), a0 (.getfield 10) 3 49 0 3 0 0, none, none, a0 (.invokevirtual 166) 3 128 11 57 1 0, none, none, a3 (.if_icmp .gt 41), none, none, a2 (.iload 6), none, a0 (.invokestatic 123) 3 98 12 36 1 0, none, none, a1 (.iload_n 3)],
  [a3 (.if_icmp .ne 26), none, none, a1 (.aload_n 0), a2 (.iload 6), none, a0 (.invokevirtual 169) 3 129 10 58 2 0, none, none, a2 (.istore 7), none, a2 (.iload 7), none, a2 (.iload 5), none, a3 (.if_icmp .le 11), none, none, a2 (.iload 7), none, a2 (.istore 5), none, a2 (.iload 6), none, a2 (.istore 4), none, a3 (.iinc 6 1), none, none, a3 (.goto (-47)), none, none],
  [a2 (.iload 4), none, a1 (.ireturn)]]
/-- 56: EnvyRust.wearAlone -/
noncomputable def mk_56 : List (List (Option mEnt)) := [[a1 (.aload_n 0), a0 (.invokevirtual 137) 3 107 10 42 1 0, none, none, a1 (.iconst 0), a2 (.istore 4), none, a2 (.iload 4), none, a1 (.aload_n 0), a0 (.getfield 19) 3 51 0 3 2 0, none, none, a0 (.getfield 59) 3 16 1 2 3 0, none, none, a3 (.if_icmp .ge 45), none, none, a1 (.aload_n 0), a0 (.getfield 19) 3 51 0 3 2 0, none, none, a0 (.getfield 75) 3 8 1 2 0 0, none, none, a1 (.iconst 5), a1 (.aaload), a2 (.iload 4), none, a1 (.iconst (-1)), a1 (.iastore)],
  [a1 (.iload_n 1), a2 (.iload 4), none, a0 (.invokestatic 85) 3 79 12 21 2 0, none, none, a3 (.ifCond .eq 17), none, none, a1 (.aload_n 0), a0 (.getfield 19) 3 51 0 3 2 0, none, none, a0 (.getfield 75) 3 8 1 2 0 0, none, none, a1 (.iconst 3), a1 (.aaload), a2 (.iload 4), none, a2 (.bipush 9), none, a1 (.iastore), a3 (.iinc 4 1), none, none, a3 (.goto (-51)), none, none, a1 (.aload_n 0), a0 (.getfield 19) 3 51 0 3 2 0, none],
  [none, a1 (.iload_n 2), a0 (.invokevirtual 115) 3 91 11 30 2 0, none, none, a1 (.aload_n 0), a0 (.getfield 19) 3 51 0 3 2 0, none, none, a0 (.getfield 75) 3 8 1 2 0 0, none, none, a1 (.iconst 2), a1 (.aaload), a1 (.iconst 0), a1 (.aload_n 3), a1 (.iconst 0), a2 (.bipush 8), none, a0 (.invokestatic 172) 3 127 21 0 0 0, none, none, a1 (.return_)]]
/-- 57: EnvyRust$Town.allThings -/
noncomputable def mk_57 : List (List (Option mEnt)) := [[a1 (.iconst 1), a1 (.aload_n 0), a0 (.getfield 23) 3 15 0 2 3 0, none, none, a1 (.ishl), a1 (.iconst 1), a1 (.isub), a1 (.ireturn)]]
/-- 58: EnvyRust.leftPainted -/
noncomputable def mk_58 : List (List (Option mEnt)) := [[a1 (.iconst 0), a1 (.istore_n 2), a1 (.iload_n 2), a1 (.aload_n 0), a0 (.getfield 19) 3 51 0 3 2 0, none, none, a0 (.getfield 59) 3 16 1 2 3 0, none, none, a3 (.if_icmp .ge 43), none, none, a1 (.aload_n 0), a0 (.getfield 19) 3 51 0 3 2 0, none, none, a0 (.getfield 75) 3 8 1 2 0 0, none, none, a1 (.iconst 2), a1 (.aaload), a1 (.iload_n 2), a1 (.iload_n 1), a1 (.iload_n 2), a0 (.invokestatic 85) 3 79 12 21 2 0, none, none, a3 (.ifCond .eq 12), none, none, a1 (.aload_n 0)],
  [a0 (.getfield 46) 3 57 0 3 8 0, none, none, a1 (.iload_n 2), a1 (.iaload), a3 (.goto 9), none, none, a1 (.aload_n 0), a0 (.getfield 43) 3 56 0 3 7 0, none, none, a1 (.iload_n 2), a1 (.iaload), a1 (.iastore), a3 (.iinc 2 1), none, none, a3 (.goto (-48)), none, none, a1 (.aload_n 0), a0 (.getfield 19) 3 51 0 3 2 0, none, none, a0 (.invokevirtual 178) 3 130 11 31 1 0, none, none, a1 (.aload_n 0), a0 (.getfield 19) 3 51 0 3 2 0, none, none],
  [a0 (.invokevirtual 128) 3 103 11 38 1 0, none, none, a1 (.ireturn)]]
/-- 59: EnvyRust.needs -/
noncomputable def mk_59 : List (List (Option mEnt)) := [[a1 (.aload_n 0), a0 (.getfield 10) 3 49 0 3 0 0, none, none, a1 (.iload_n 1), a0 (.invokevirtual 68) 3 65 11 10 2 0, none, none, a3 (.ifCond .eq 13), none, none, a1 (.iload_n 2), a1 (.iconst 0), a2 (.bipush 60), none, a0 (.invokestatic 50) 3 59 12 6 3 0, none, none, a3 (.ifCond .ne 10), none, none, a1 (.aload_n 0), a0 (.ldc 54) 2 60 2 0 0 (-1000001), none, a0 (.invokevirtual 55) 3 61 10 7 2 0, none, none, a1 (.ireturn), a1 (.iconst 0), a1 (.istore_n 3), a1 (.iload_n 3), a2 (.bipush 9)],
  [none, a3 (.if_icmp .gt 46), none, none, a1 (.aload_n 0), a0 (.invokevirtual 137) 3 107 10 42 1 0, none, none, a1 (.aload_n 0), a0 (.getfield 19) 3 51 0 3 2 0, none, none, a0 (.getfield 75) 3 8 1 2 0 0, none, none, a1 (.iconst 3), a1 (.aaload), a1 (.iload_n 1), a1 (.iload_n 3), a1 (.iastore), a1 (.aload_n 0), a0 (.getfield 19) 3 51 0 3 2 0, none, none, a1 (.iload_n 2), a0 (.invokevirtual 115) 3 91 11 30 2 0, none, none, a1 (.aload_n 0), a0 (.getfield 19) 3 51 0 3 2 0, none, none],
  [a1 (.iload_n 1), a0 (.invokevirtual 140) 3 111 11 32 2 0, none, none, a3 (.ifCond .ne 5), none, none, a1 (.iload_n 3), a1 (.ireturn), a3 (.iinc 3 1), none, none, a3 (.goto (-46)), none, none, a1 (.aload_n 0), a0 (.ldc 143) 2 112 2 0 0 (-1000004), none, a0 (.invokevirtual 55) 3 61 10 7 2 0, none, none, a1 (.ireturn)]]
/-- 60: EnvyRust.fallsWith -/
noncomputable def mk_60 : List (List (Option mEnt)) := [[a1 (.aload_n 0), a0 (.getfield 10) 3 49 0 3 0 0, none, none, a1 (.iload_n 1), a0 (.invokevirtual 68) 3 65 11 10 2 0, none, none, a3 (.ifCond .eq 14), none, none, a1 (.aload_n 0), a0 (.getfield 10) 3 49 0 3 0 0, none, none, a1 (.iload_n 1), a0 (.invokevirtual 82) 3 77 11 20 2 0, none, none, a3 (.goto 9), none, none, a1 (.aload_n 0), a0 (.ldc 54) 2 60 2 0 0 (-1000001), none, a0 (.invokevirtual 55) 3 61 10 7 2 0, none, none, a1 (.ireturn)]]
/-- 61: EnvyRust.depth -/
noncomputable def mk_61 : List (List (Option mEnt)) := [[a1 (.aload_n 0), a0 (.getfield 10) 3 49 0 3 0 0, none, none, a1 (.iload_n 1), a0 (.invokevirtual 68) 3 65 11 10 2 0, none, none, a3 (.ifCond .eq 14), none, none, a1 (.aload_n 0), a0 (.getfield 10) 3 49 0 3 0 0, none, none, a1 (.iload_n 1), a0 (.invokevirtual 185) 3 134 11 62 2 0, none, none, a3 (.goto 9), none, none, a1 (.aload_n 0), a0 (.ldc 54) 2 60 2 0 0 (-1000001), none, a0 (.invokevirtual 55) 3 61 10 7 2 0, none, none, a1 (.ireturn)]]
/-- 62: EnvyRust$Town.hangingDepth -/
noncomputable def mk_62 : List (List (Option mEnt)) := [[a1 (.iconst 0), a1 (.istore_n 2), a1 (.aload_n 0), a0 (.getfield 13) 3 7 0 2 0 0, none, none, a1 (.iconst 5), a1 (.aaload), a1 (.iload_n 1), a1 (.iaload), a1 (.istore_n 3), a1 (.iload_n 2), a2 (.bipush 8), none, a3 (.if_icmp .ge 23), none, none, a1 (.iload_n 3), a1 (.iconst (-1)), a3 (.if_icmp .eq 18), none, none, a3 (.iinc 2 1), none, none, a1 (.aload_n 0), a0 (.getfield 13) 3 7 0 2 0 0, none, none, a1 (.iconst 5), a1 (.aaload), a1 (.iload_n 3)],
  [a1 (.iaload), a1 (.istore_n 3), a3 (.goto (-23)), none, none, a1 (.iload_n 2), a1 (.ireturn)]]
/-- 63: EnvyRust.keystone -/
noncomputable def mk_63 : List (List (Option mEnt)) := [[a1 (.aload_n 0), a0 (.getfield 10) 3 49 0 3 0 0, none, none, a0 (.getfield 59) 3 16 1 2 3 0, none, none, a3 (.ifCond .ne 10), none, none, a1 (.aload_n 0), a0 (.ldc 143) 2 112 2 0 0 (-1000004), none, a0 (.invokevirtual 55) 3 61 10 7 2 0, none, none, a1 (.ireturn), a1 (.iconst 0), a1 (.istore_n 1), a1 (.iconst 0), a1 (.istore_n 2), a1 (.iconst 0), a1 (.istore_n 3), a1 (.iload_n 3), a1 (.aload_n 0), a0 (.getfield 10) 3 49 0 3 0 0, none, none, a0 (.getfield 59) 3 16 1 2 3 0, none, none, a3 (.if_icmp .ge 33)],
  [none, none, a1 (.aload_n 0), a0 (.getfield 10) 3 49 0 3 0 0, none, none, a1 (.iload_n 3), a0 (.invokevirtual 82) 3 77 11 20 2 0, none, none, a0 (.invokestatic 123) 3 98 12 36 1 0, none, none, a2 (.istore 4), none, a2 (.iload 4), none, a1 (.iload_n 2), a3 (.if_icmp .le 8), none, none, a2 (.iload 4), none, a1 (.istore_n 2), a1 (.iload_n 3), a1 (.istore_n 1), a3 (.iinc 3 1), none, none, a3 (.goto (-38)), none, none],
  [a1 (.iload_n 1), a1 (.ireturn)]]
/-- 64: EnvyRust.fells -/
noncomputable def mk_64 : List (List (Option mEnt)) := [[a1 (.iconst 0), a1 (.istore_n 1), a1 (.iconst 0), a1 (.istore_n 2), a1 (.iload_n 2), a1 (.aload_n 0), a0 (.getfield 10) 3 49 0 3 0 0, none, none, a0 (.getfield 59) 3 16 1 2 3 0, none, none, a3 (.if_icmp .ge 30), none, none, a1 (.aload_n 0), a0 (.getfield 10) 3 49 0 3 0 0, none, none, a0 (.getfield 75) 3 8 1 2 0 0, none, none, a1 (.iconst 5), a1 (.aaload), a1 (.iload_n 2), a1 (.iaload), a1 (.iconst (-1)), a3 (.if_icmp .ne 9), none, none, a1 (.iload_n 1), a1 (.iconst 1)],
  [a1 (.iload_n 2), a1 (.ishl), a1 (.ior), a1 (.istore_n 1), a3 (.iinc 2 1), none, none, a3 (.goto (-35)), none, none, a1 (.iload_n 1), a1 (.ireturn)]]
/-- 65: EnvyRust.worth -/
noncomputable def mk_65 : List (List (Option mEnt)) := [[a1 (.aload_n 0), a0 (.getfield 10) 3 49 0 3 0 0, none, none, a1 (.iload_n 1), a0 (.invokevirtual 90) 3 76 11 19 2 0, none, none, a3 (.ifCond .eq 14), none, none, a1 (.aload_n 0), a0 (.getfield 10) 3 49 0 3 0 0, none, none, a1 (.iload_n 2), a0 (.invokevirtual 188) 3 138 11 66 2 0, none, none, a3 (.ifCond .ne 10), none, none, a1 (.aload_n 0), a0 (.ldc 54) 2 60 2 0 0 (-1000001), none, a0 (.invokevirtual 55) 3 61 10 7 2 0, none, none, a1 (.ireturn), a1 (.aload_n 0), a0 (.getfield 10) 3 49 0 3 0 0, none],
  [none, a1 (.iload_n 1), a1 (.iload_n 2), a0 (.invokevirtual 191) 3 140 11 67 3 0, none, none, a1 (.ireturn)]]
/-- 66: EnvyRust$Town.isSet -/
noncomputable def mk_66 : List (List (Option mEnt)) := [[a1 (.iload_n 1), a1 (.iconst 0), a1 (.aload_n 0), a0 (.invokevirtual 49) 3 139 10 57 1 0, none, none, a0 (.invokestatic 45) 3 66 13 6 3 0, none, none, a1 (.ireturn)]]
/-- 67: EnvyRust$Town.worthOf -/
noncomputable def mk_67 : List (List (Option mEnt)) := [[a1 (.iconst 0), a1 (.istore_n 3), a1 (.iconst 0), a2 (.istore 4), none, a2 (.iload 4), none, a1 (.aload_n 0), a0 (.getfield 23) 3 15 0 2 3 0, none, none, a3 (.if_icmp .ge 29), none, none, a1 (.iload_n 2), a2 (.iload 4), none, a0 (.invokestatic 67) 3 78 13 21 2 0, none, none, a3 (.ifCond .eq 14), none, none, a1 (.iload_n 3), a1 (.aload_n 0), a1 (.iconst (-1)), a1 (.iload_n 1), a2 (.iload 4), none, a0 (.invokevirtual 53) 3 69 10 13 4 0, none, none],
  [a1 (.iadd), a1 (.istore_n 3), a3 (.iinc 4 1), none, none, a3 (.goto (-32)), none, none, a1 (.iload_n 3), a1 (.ireturn)]]
/-- 68: EnvyRust.deal -/
noncomputable def mk_68 : List (List (Option mEnt)) := [[a1 (.aload_n 0), a1 (.iload_n 1), a1 (.iload_n 2), a1 (.iload_n 3), a0 (.invokevirtual 194) 3 142 10 69 4 0, none, none, a3 (.ifCond .ne 10), none, none, a1 (.aload_n 0), a0 (.ldc 54) 2 60 2 0 0 (-1000001), none, a0 (.invokevirtual 55) 3 61 10 7 2 0, none, none, a1 (.ireturn), a1 (.iconst 0), a2 (.istore 4), none, a2 (.iload 4), none, a1 (.iload_n 3), a3 (.if_icmp .gt 36), none, none, a2 (.iload 4), none, a1 (.iload_n 3), a0 (.invokestatic 197) 3 143 12 70 2 0, none, none],
  [a3 (.ifCond .eq 21), none, none, a1 (.aload_n 0), a1 (.iload_n 1), a1 (.iload_n 2), a2 (.iload 4), none, a1 (.iload_n 3), a2 (.iload 4), none, a1 (.isub), a0 (.invokevirtual 200) 3 144 10 71 5 0, none, none, a3 (.ifCond .eq 6), none, none, a2 (.iload 4), none, a1 (.ireturn), a3 (.iinc 4 1), none, none, a3 (.goto (-36)), none, none, a1 (.aload_n 0), a0 (.ldc 143) 2 112 2 0 0 (-1000004), none, a0 (.invokevirtual 55) 3 61 10 7 2 0, none],
  [none, a1 (.ireturn)]]
/-- 69: EnvyRust.canDeal -/
noncomputable def mk_69 : List (List (Option mEnt)) := [[a1 (.aload_n 0), a0 (.getfield 10) 3 49 0 3 0 0, none, none, a1 (.iload_n 1), a0 (.invokevirtual 90) 3 76 11 19 2 0, none, none, a3 (.ifCond .eq 34), none, none, a1 (.aload_n 0), a0 (.getfield 10) 3 49 0 3 0 0, none, none, a1 (.iload_n 2), a0 (.invokevirtual 90) 3 76 11 19 2 0, none, none, a3 (.ifCond .eq 23), none, none, a1 (.iload_n 1), a1 (.iload_n 2), a3 (.if_icmp .eq 18), none, none, a1 (.aload_n 0), a0 (.getfield 10) 3 49 0 3 0 0, none, none, a1 (.iload_n 3)],
  [a0 (.invokevirtual 188) 3 138 11 66 2 0, none, none, a3 (.ifCond .eq 7), none, none, a1 (.iconst 1), a3 (.goto 4), none, none, a1 (.iconst 0), a1 (.ireturn)]]
/-- 70: EnvyRust.isPart -/
noncomputable def mk_70 : List (List (Option mEnt)) := [[a1 (.iload_n 0), a1 (.iload_n 1), a1 (.iconst (-1)), a1 (.ixor), a1 (.iand), a3 (.ifCond .ne 7), none, none, a1 (.iconst 1), a3 (.goto 4), none, none, a1 (.iconst 0), a1 (.ireturn)]]
/-- 71: EnvyRust.leavesNoEnvy -/
noncomputable def mk_71 : List (List (Option mEnt)) := [[a1 (.aload_n 0), a0 (.getfield 10) 3 49 0 3 0 0, none, none, a1 (.iload_n 1), a1 (.iload_n 3), a0 (.invokevirtual 191) 3 140 11 67 3 0, none, none, a1 (.aload_n 0), a0 (.getfield 10) 3 49 0 3 0 0, none, none, a1 (.iload_n 1), a2 (.iload 4), none, a0 (.invokevirtual 191) 3 140 11 67 3 0, none, none, a3 (.if_icmp .lt 29), none, none, a1 (.aload_n 0), a0 (.getfield 10) 3 49 0 3 0 0, none, none, a1 (.iload_n 2), a2 (.iload 4), none, a0 (.invokevirtual 191) 3 140 11 67 3 0, none, none],
  [a1 (.aload_n 0), a0 (.getfield 10) 3 49 0 3 0 0, none, none, a1 (.iload_n 2), a1 (.iload_n 3), a0 (.invokevirtual 191) 3 140 11 67 3 0, none, none, a3 (.if_icmp .lt 7), none, none, a1 (.iconst 1), a3 (.goto 4), none, none, a1 (.iconst 0), a1 (.ireturn)]]
/-- 72: EnvyRust.deals -/
noncomputable def mk_72 : List (List (Option mEnt)) := [[a1 (.aload_n 0), a1 (.iload_n 1), a1 (.iload_n 2), a1 (.iload_n 3), a0 (.invokevirtual 194) 3 142 10 69 4 0, none, none, a3 (.ifCond .ne 10), none, none, a1 (.aload_n 0), a0 (.ldc 54) 2 60 2 0 0 (-1000001), none, a0 (.invokevirtual 55) 3 61 10 7 2 0, none, none, a1 (.ireturn), a1 (.iconst 0), a2 (.istore 4), none, a1 (.iconst 0), a2 (.istore 5), none, a2 (.iload 5), none, a1 (.iload_n 3), a3 (.if_icmp .gt 36), none, none, a2 (.iload 5), none, a1 (.iload_n 3)],
  [a0 (.invokestatic 197) 3 143 12 70 2 0, none, none, a3 (.ifCond .eq 21), none, none, a1 (.aload_n 0), a1 (.iload_n 1), a1 (.iload_n 2), a2 (.iload 5), none, a1 (.iload_n 3), a2 (.iload 5), none, a1 (.isub), a0 (.invokevirtual 200) 3 144 10 71 5 0, none, none, a3 (.ifCond .eq 6), none, none, a3 (.iinc 4 1), none, none, a3 (.iinc 5 1), none, none, a3 (.goto (-36)), none, none, a2 (.iload 4), none],
  [a1 (.ireturn)]]
/-- 73: EnvyRust.lesser -/
noncomputable def mk_73 : List (List (Option mEnt)) := [[a1 (.aload_n 0), a1 (.iload_n 1), a1 (.iload_n 2), a1 (.iload_n 3), a0 (.invokevirtual 194) 3 142 10 69 4 0, none, none, a3 (.ifCond .ne 10), none, none, a1 (.aload_n 0), a0 (.ldc 54) 2 60 2 0 0 (-1000001), none, a0 (.invokevirtual 55) 3 61 10 7 2 0, none, none, a1 (.ireturn), a1 (.iconst 0), a2 (.istore 4), none, a1 (.iconst (-1)), a2 (.istore 5), none, a1 (.iconst 0), a2 (.istore 6), none, a2 (.iload 6), none, a1 (.iload_n 3), a3 (.if_icmp .gt 60), none, none],
  [a2 (.iload 6), none, a1 (.iload_n 3), a0 (.invokestatic 197) 3 143 12 70 2 0, none, none, a3 (.ifCond .eq 45), none, none, a1 (.aload_n 0), a0 (.getfield 10) 3 49 0 3 0 0, none, none, a1 (.iload_n 1), a2 (.iload 6), none, a0 (.invokevirtual 191) 3 140 11 67 3 0, none, none, a1 (.aload_n 0), a0 (.getfield 10) 3 49 0 3 0 0, none, none, a1 (.iload_n 2), a1 (.iload_n 3), a2 (.iload 6), none, a1 (.isub), a0 (.invokevirtual 191) 3 140 11 67 3 0, none, none, a0 (.invokestatic 157) 3 125 25 0 0 0],
  [none, none, a2 (.istore 7), none, a2 (.iload 7), none, a2 (.iload 5), none, a3 (.if_icmp .le 11), none, none, a2 (.iload 7), none, a2 (.istore 5), none, a2 (.iload 6), none, a2 (.istore 4), none, a3 (.iinc 6 1), none, none, a3 (.goto (-60)), none, none, a2 (.iload 4), none, a1 (.ireturn)]]
/-- 74: EnvyRust.envious -/
noncomputable def mk_74 : List (List (Option mEnt)) := [[a1 (.iconst 0), a1 (.istore_n 1), a1 (.iconst 0), a1 (.istore_n 2), a1 (.iload_n 2), a1 (.aload_n 0), a0 (.getfield 10) 3 49 0 3 0 0, none, none, a0 (.getfield 93) 3 20 1 2 4 0, none, none, a3 (.if_icmp .ge 77), none, none, a1 (.aload_n 0), a0 (.getfield 10) 3 49 0 3 0 0, none, none, a1 (.iload_n 2), a1 (.aload_n 0), a0 (.getfield 10) 3 49 0 3 0 0, none, none, a1 (.iload_n 2), a0 (.invokevirtual 99) 3 84 11 25 2 0, none, none, a0 (.invokevirtual 191) 3 140 11 67 3 0, none, none, a1 (.istore_n 3)],
  [a1 (.iconst 0), a2 (.istore 4), none, a2 (.iload 4), none, a1 (.aload_n 0), a0 (.getfield 10) 3 49 0 3 0 0, none, none, a0 (.getfield 93) 3 20 1 2 4 0, none, none, a3 (.if_icmp .ge 39), none, none, a2 (.iload 4), none, a1 (.iload_n 2), a3 (.if_icmp .eq 27), none, none, a1 (.aload_n 0), a0 (.getfield 10) 3 49 0 3 0 0, none, none, a1 (.iload_n 2), a1 (.aload_n 0), a0 (.getfield 10) 3 49 0 3 0 0, none, none, a2 (.iload 4), none],
  [a0 (.invokevirtual 99) 3 84 11 25 2 0, none, none, a0 (.invokevirtual 191) 3 140 11 67 3 0, none, none, a1 (.iload_n 3), a3 (.if_icmp .le 6), none, none, a3 (.iinc 1 1), none, none, a3 (.iinc 4 1), none, none, a3 (.goto (-45)), none, none, a3 (.iinc 2 1), none, none, a3 (.goto (-82)), none, none, a1 (.iload_n 1), a1 (.ireturn)]]
/-- 75: EnvyRust.fits -/
noncomputable def mk_75 : List (List (Option mEnt)) := [[a1 (.aload_n 0), a1 (.iload_n 1), a1 (.iload_n 2), a1 (.iload_n 3), a0 (.invokevirtual 204) 3 149 10 76 4 0, none, none, a2 (.istore 4), none, a2 (.iload 4), none, a3 (.ifCond .eq 10), none, none, a1 (.aload_n 0), a2 (.iload 4), none, a0 (.invokevirtual 55) 3 61 10 7 2 0, none, none, a1 (.ireturn), a1 (.iconst 0), a2 (.istore 5), none, a1 (.iconst 0), a2 (.istore 6), none, a2 (.iload 6), none, a2 (.bipush 9), none, a3 (.if_icmp .gt 29)],
  [none, none, a1 (.aload_n 0), a1 (.aload_n 0), a0 (.getfield 31) 3 53 0 3 4 0, none, none, a1 (.iload_n 1), a1 (.aaload), a1 (.iload_n 2), a1 (.iload_n 3), a2 (.iload 6), none, a0 (.invokevirtual 208) 3 154 10 80 5 0, none, none, a3 (.ifCond .eq 6), none, none, a3 (.iinc 5 1), none, none, a3 (.iinc 6 1), none, none, a3 (.goto (-30)), none, none, a2 (.iload 5), none, a1 (.ireturn)]]
/-- 76: EnvyRust.findingOfFit -/
noncomputable def mk_76 : List (List (Option mEnt)) := [[a1 (.aload_n 0), a1 (.iload_n 1), a0 (.invokevirtual 212) 3 150 10 77 2 0, none, none, a2 (.istore 4), none, a2 (.iload 4), none, a3 (.ifCond .eq 6), none, none, a2 (.iload 4), none, a1 (.ireturn), a1 (.aload_n 0), a0 (.getfield 10) 3 49 0 3 0 0, none, none, a1 (.iload_n 2), a0 (.invokevirtual 90) 3 76 11 19 2 0, none, none, a3 (.ifCond .eq 18), none, none, a1 (.aload_n 0), a0 (.getfield 10) 3 49 0 3 0 0, none, none, a1 (.iload_n 3), a0 (.invokevirtual 68) 3 65 11 10 2 0],
  [none, none, a3 (.ifCond .eq 7), none, none, a1 (.iconst 0), a3 (.goto 5), none, none, a0 (.ldc 54) 2 60 2 0 0 (-1000001), none, a1 (.ireturn)]]
/-- 77: EnvyRust.findingOfSheet -/
noncomputable def mk_77 : List (List (Option mEnt)) := [[a1 (.iload_n 1), a0 (.invokestatic 252) 3 151 12 78 1 0, none, none, a3 (.ifCond .ne 6), none, none, a0 (.ldc 54) 2 60 2 0 0 (-1000001), none, a1 (.ireturn), a1 (.aload_n 0), a0 (.getfield 31) 3 53 0 3 4 0, none, none, a1 (.iload_n 1), a1 (.aaload), a0 (.invokevirtual 262) 3 152 11 79 1 0, none, none, a3 (.ifCond .eq 8), none, none, a0 (.ldc 247) 2 153 2 0 0 (-1000006), none, a3 (.goto 4), none, none, a1 (.iconst 0), a1 (.ireturn)]]
/-- 78: EnvyRust.isSheet -/
noncomputable def mk_78 : List (List (Option mEnt)) := [[a1 (.iload_n 0), a1 (.iconst 0), a1 (.iconst 3), a0 (.invokestatic 50) 3 59 12 6 3 0, none, none, a1 (.ireturn)]]
/-- 79: EnvyRust$Sheet.isMissing -/
noncomputable def mk_79 : List (List (Option mEnt)) := [[a1 (.aload_n 0), a0 (.getfield 15) 3 45 0 0 1 0, none, none, a3 (.ifCond .ne 7), none, none, a1 (.iconst 1), a3 (.goto 4), none, none, a1 (.iconst 0), a1 (.ireturn)]]
/-- 80: EnvyRust.fitsWith -/
noncomputable def mk_80 : List (List (Option mEnt)) := [[a1 (.aload_n 0), a0 (.invokevirtual 137) 3 107 10 42 1 0, none, none, a1 (.aload_n 0), a0 (.getfield 19) 3 51 0 3 2 0, none, none, a0 (.getfield 102) 3 12 1 2 1 0, none, none, a1 (.iconst 3), a1 (.aload_n 0), a0 (.getfield 19) 3 51 0 3 2 0, none, none, a0 (.getfield 75) 3 8 1 2 0 0, none, none, a1 (.iconst 0), a1 (.aaload), a1 (.iload_n 3), a1 (.iaload), a1 (.iadd), a1 (.aaload), a1 (.iload_n 2), a2 (.iload 4), none, a1 (.iastore), a1 (.iconst 0), a2 (.istore 5), none],
  [a2 (.iload 5), none, a1 (.aload_n 1), a0 (.getfield 215) 3 48 1 0 2 0, none, none, a3 (.if_icmp .ge 51), none, none, a1 (.aload_n 1), a0 (.getfield 218) 3 44 1 0 0 0, none, none, a2 (.iload 5), none, a1 (.iaload), a1 (.iconst (-1)), a3 (.if_icmp .eq 26), none, none, a1 (.aload_n 1), a0 (.getfield 218) 3 44 1 0 0 0, none, none, a2 (.iload 5), none, a1 (.iaload), a1 (.aload_n 0), a0 (.getfield 19) 3 51 0 3 2 0, none, none, a0 (.getfield 75) 3 8 1 2 0 0],
  [none, none, a1 (.iconst 2), a1 (.aaload), a1 (.iload_n 3), a1 (.iaload), a3 (.if_icmp .eq 5), none, none, a1 (.iconst 0), a1 (.ireturn), a1 (.aload_n 0), a0 (.getfield 19) 3 51 0 3 2 0, none, none, a1 (.iconst 1), a0 (.invokevirtual 115) 3 91 11 30 2 0, none, none, a3 (.iinc 5 1), none, none, a3 (.goto (-54)), none, none, a1 (.iconst 1), a1 (.ireturn)]]
/-- 81: EnvyRust.likes -/
noncomputable def mk_81 : List (List (Option mEnt)) := [[a1 (.aload_n 0), a1 (.iload_n 1), a1 (.iload_n 2), a1 (.iload_n 3), a0 (.invokevirtual 204) 3 149 10 76 4 0, none, none, a2 (.istore 4), none, a2 (.iload 4), none, a3 (.ifCond .eq 10), none, none, a1 (.aload_n 0), a2 (.iload 4), none, a0 (.invokevirtual 55) 3 61 10 7 2 0, none, none, a1 (.ireturn), a1 (.iconst 0), a2 (.istore 5), none, a2 (.iload 5), none, a2 (.bipush 9), none, a3 (.if_icmp .gt 29), none, none, a1 (.aload_n 0)],
  [a1 (.aload_n 0), a0 (.getfield 31) 3 53 0 3 4 0, none, none, a1 (.iload_n 1), a1 (.aaload), a1 (.iload_n 2), a1 (.iload_n 3), a2 (.iload 5), none, a0 (.invokevirtual 208) 3 154 10 80 5 0, none, none, a3 (.ifCond .eq 6), none, none, a2 (.iload 5), none, a1 (.ireturn), a3 (.iinc 5 1), none, none, a3 (.goto (-30)), none, none, a1 (.aload_n 0), a0 (.ldc 143) 2 112 2 0 0 (-1000004), none, a0 (.invokevirtual 55) 3 61 10 7 2 0, none, none, a1 (.ireturn)]]
/-- 82: EnvyRust.strolls -/
noncomputable def mk_82 : List (List (Option mEnt)) := [[a1 (.iload_n 1), a1 (.iconst 1), a2 (.bipush 20), none, a0 (.invokestatic 50) 3 59 12 6 3 0, none, none, a3 (.ifCond .ne 10), none, none, a1 (.aload_n 0), a0 (.ldc 54) 2 60 2 0 0 (-1000001), none, a0 (.invokevirtual 55) 3 61 10 7 2 0, none, none, a1 (.ireturn), a1 (.aload_n 0), a0 (.getfield 10) 3 49 0 3 0 0, none, none, a0 (.getfield 111) 3 22 1 2 5 0, none, none, a1 (.iload_n 1), a1 (.iadd), a0 (.ldc 114) 2 90 2 0 0 99999, none, a3 (.if_icmp .le 10), none, none, a1 (.aload_n 0)],
  [a0 (.ldc 89) 2 80 2 0 0 (-1000005), none, a0 (.invokevirtual 55) 3 61 10 7 2 0, none, none, a1 (.ireturn), a1 (.aload_n 0), a0 (.getfield 10) 3 49 0 3 0 0, none, none, a0 (.invokevirtual 128) 3 103 11 38 1 0, none, none, a1 (.istore_n 2), a1 (.iconst 0), a1 (.istore_n 3), a1 (.iload_n 3), a1 (.iload_n 1), a3 (.if_icmp .ge 24), none, none, a1 (.aload_n 0), a0 (.getfield 10) 3 49 0 3 0 0, none, none, a0 (.invokevirtual 221) 3 157 11 83 1 0, none, none, a1 (.aload_n 0), a0 (.getfield 10) 3 49 0 3 0 0, none, none],
  [a1 (.iconst 1), a0 (.invokevirtual 115) 3 91 11 30 2 0, none, none, a3 (.iinc 3 1), none, none, a3 (.goto (-23)), none, none, a1 (.iload_n 2), a1 (.aload_n 0), a0 (.getfield 10) 3 49 0 3 0 0, none, none, a0 (.invokevirtual 128) 3 103 11 38 1 0, none, none, a1 (.isub), a1 (.ireturn)]]
/-- 83: EnvyRust$Town.scatter -/
noncomputable def mk_83 : List (List (Option mEnt)) := [[a1 (.iconst 0), a1 (.istore_n 1), a1 (.iload_n 1), a1 (.aload_n 0), a0 (.getfield 27) 3 18 0 2 4 0, none, none, a3 (.if_icmp .ge 42), none, none, a1 (.aload_n 0), a1 (.aload_n 0), a0 (.getfield 33) 3 23 0 2 6 0, none, none, a0 (.ldc 93) 2 158 2 0 0 1103515245, none, a1 (.imul), a3 (.sipush 12345), none, none, a1 (.iadd), a0 (.putfield 33) 3 23 0 2 6 0, none, none, a1 (.aload_n 0), a0 (.getfield 16) 3 10 0 2 1 0, none, none, a1 (.iconst 1), a1 (.aaload), a1 (.iload_n 1)],
  [a1 (.aload_n 0), a0 (.getfield 33) 3 23 0 2 6 0, none, none, a2 (.bipush 8), none, a1 (.iushr), a2 (.bipush 16), none, a1 (.irem), a1 (.iastore), a3 (.iinc 1 1), none, none, a3 (.goto (-44)), none, none, a1 (.return_)]]
/-- 84: EnvyRust.odds -/
noncomputable def mk_84 : List (List (Option mEnt)) := [[a1 (.iload_n 1), a1 (.iconst 0), a2 (.bipush 14), none, a0 (.invokestatic 50) 3 59 12 6 3 0, none, none, a3 (.ifCond .eq 12), none, none, a1 (.iload_n 2), a1 (.iconst 0), a1 (.iconst 1), a0 (.invokestatic 50) 3 59 12 6 3 0, none, none, a3 (.ifCond .ne 11), none, none, a1 (.aload_n 0), a0 (.ldc 54) 2 60 2 0 0 (-1000001), none, a0 (.invokevirtual 55) 3 61 10 7 2 0, none, none, a1 (.i2l), a1 (.lreturn), a2 (.bipush 16), none, a1 (.aload_n 0), a0 (.getfield 10) 3 49 0 3 0 0, none],
  [none, a0 (.invokevirtual 224) 3 160 11 85 1 0, none, none, a0 (.invokestatic 123) 3 98 12 36 1 0, none, none, a1 (.isub), a1 (.istore_n 3), a2 (.bipush 16), none, a2 (.istore 4), none, a2 (.iload 4), none, a1 (.iconst 1), a3 (.if_icmp .le 22), none, none, a1 (.iload_n 3), a1 (.iconst 2), a1 (.irem), a3 (.ifCond .ne 16), none, none, a1 (.iload_n 3), a1 (.iconst 2), a1 (.idiv), a1 (.istore_n 3), a2 (.iload 4), none, a1 (.iconst 2)],
  [a1 (.idiv), a2 (.istore 4), none, a3 (.goto (-22)), none, none, a1 (.lconst 1), a2 (.lstore 5), none, a1 (.iconst 0), a2 (.istore 7), none, a2 (.iload 7), none, a1 (.iload_n 1), a3 (.if_icmp .ge 26), none, none, a2 (.lload 5), none, a1 (.iload_n 2), a3 (.ifCond .ne 8), none, none, a1 (.iload_n 3), a1 (.i2l), a3 (.goto 6), none, none, a2 (.iload 4), none, a1 (.i2l)],
  [a1 (.lmul), a2 (.lstore 5), none, a3 (.iinc 7 1), none, none, a3 (.goto (-26)), none, none, a2 (.lload 5), none, a1 (.lreturn)]]
/-- 85: EnvyRust$Town.placesOfThings -/
noncomputable def mk_85 : List (List (Option mEnt)) := [[a1 (.iconst 0), a1 (.istore_n 1), a1 (.iconst 0), a1 (.istore_n 2), a1 (.iload_n 2), a1 (.aload_n 0), a0 (.getfield 23) 3 15 0 2 3 0, none, none, a3 (.if_icmp .ge 22), none, none, a1 (.iload_n 1), a1 (.iconst 1), a1 (.aload_n 0), a0 (.getfield 13) 3 7 0 2 0 0, none, none, a1 (.iconst 1), a1 (.aaload), a1 (.iload_n 2), a1 (.iaload), a1 (.ishl), a1 (.ior), a1 (.istore_n 1), a3 (.iinc 2 1), none, none, a3 (.goto (-24)), none, none, a1 (.iload_n 1)],
  [a1 (.ireturn)]]
/-- 86: EnvyRust.seed -/
noncomputable def mk_86 : List (List (Option mEnt)) := [[a1 (.aload_n 0), a0 (.getfield 10) 3 49 0 3 0 0, none, none, a0 (.getfield 227) 3 24 1 2 6 0, none, none, a1 (.istore_n 2), a1 (.aload_n 0), a0 (.getfield 10) 3 49 0 3 0 0, none, none, a1 (.iload_n 1), a0 (.putfield 227) 3 24 1 2 6 0, none, none, a1 (.iload_n 2), a1 (.ireturn)]]
/-- 87: EnvyRust.feed -/
noncomputable def mk_87 : List (List (Option mEnt)) := [[a1 (.iload_n 2), a1 (.iconst 1), a1 (.iconst 4), a0 (.invokestatic 50) 3 59 12 6 3 0, none, none, a3 (.ifCond .ne 10), none, none, a1 (.aload_n 0), a0 (.ldc 54) 2 60 2 0 0 (-1000001), none, a0 (.invokevirtual 55) 3 61 10 7 2 0, none, none, a1 (.ireturn), a1 (.aload_n 0), a0 (.getfield 25) 3 52 0 3 3 0, none, none, a0 (.getfield 230) 3 32 1 1 1 0, none, none, a1 (.iload_n 2), a1 (.iadd), a2 (.bipush 120), none, a3 (.if_icmp .le 10), none, none, a1 (.aload_n 0), a0 (.ldc 63) 2 62 2 0 0 (-1000002)],
  [none, a0 (.invokevirtual 55) 3 61 10 7 2 0, none, none, a1 (.ireturn), a1 (.iload_n 2), a1 (.iconst 1), a1 (.isub), a1 (.istore_n 3), a1 (.iload_n 3), a3 (.ifCond .lt 23), none, none, a1 (.aload_n 0), a0 (.getfield 25) 3 52 0 3 3 0, none, none, a1 (.iload_n 1), a2 (.bipush 8), none, a1 (.iload_n 3), a1 (.imul), a1 (.ishr), a1 (.i2b), a0 (.invokevirtual 233) 3 163 11 88 2 0, none, none, a3 (.iinc 3 (-1)), none, none, a3 (.goto (-21)), none],
  [none, a1 (.aload_n 0), a0 (.getfield 25) 3 52 0 3 3 0, none, none, a0 (.getfield 230) 3 32 1 1 1 0, none, none, a1 (.ireturn)]]
/-- 88: EnvyRust$TextReader.put -/
noncomputable def mk_88 : List (List (Option mEnt)) := [[a1 (.aload_n 0), a0 (.getfield 9) 3 30 0 1 0 0, none, none, a1 (.aload_n 0), a0 (.getfield 15) 3 31 0 1 1 0, none, none, a1 (.iload_n 1), a1 (.bastore), a1 (.aload_n 0), a1 (.dup), a0 (.getfield 15) 3 31 0 1 1 0, none, none, a1 (.iconst 1), a1 (.iadd), a0 (.putfield 15) 3 31 0 1 1 0, none, none, a1 (.return_)]]
/-- 89: EnvyRust.wipe -/
noncomputable def mk_89 : List (List (Option mEnt)) := [[a1 (.aload_n 0), a0 (.getfield 25) 3 52 0 3 3 0, none, none, a0 (.getfield 230) 3 32 1 1 1 0, none, none, a1 (.istore_n 1), a1 (.aload_n 0), a0 (.getfield 25) 3 52 0 3 3 0, none, none, a1 (.iconst 0), a0 (.putfield 230) 3 32 1 1 1 0, none, none, a1 (.iload_n 1), a1 (.ireturn)]]
/-- 90: EnvyRust.text -/
noncomputable def mk_90 : List (List (Option mEnt)) := [[a1 (.aload_n 0), a0 (.getfield 10) 3 49 0 3 0 0, none, none, a0 (.getfield 59) 3 16 1 2 3 0, none, none, a1 (.istore_n 1), a1 (.aload_n 0), a0 (.getfield 10) 3 49 0 3 0 0, none, none, a0 (.getfield 93) 3 20 1 2 4 0, none, none, a1 (.istore_n 2), a1 (.aload_n 0), a0 (.getfield 25) 3 52 0 3 3 0, none, none, a1 (.aload_n 0), a0 (.getfield 10) 3 49 0 3 0 0, none, none, a0 (.invokevirtual 237) 3 166 11 91 2 0, none, none, a1 (.istore_n 3), a1 (.aload_n 0), a0 (.getfield 25) 3 52 0 3 3 0, none, none],
  [a0 (.getfield 241) 3 38 1 1 6 0, none, none, a1 (.iconst (-1)), a3 (.if_icmp .eq 19), none, none, a1 (.aload_n 0), a0 (.getfield 10) 3 49 0 3 0 0, none, none, a1 (.iload_n 1), a0 (.putfield 59) 3 16 1 2 3 0, none, none, a1 (.aload_n 0), a0 (.getfield 10) 3 49 0 3 0 0, none, none, a1 (.iload_n 2), a0 (.putfield 93) 3 20 1 2 4 0, none, none, a1 (.aload_n 0), a0 (.getfield 25) 3 52 0 3 3 0, none, none, a1 (.iconst 0), a0 (.putfield 230) 3 32 1 1 1 0, none, none, a1 (.aload_n 0)],
  [a0 (.getfield 25) 3 52 0 3 3 0, none, none, a0 (.getfield 241) 3 38 1 1 6 0, none, none, a1 (.iconst (-1)), a3 (.if_icmp .ne 7), none, none, a1 (.iload_n 3), a3 (.goto 12), none, none, a1 (.iconst (-1)), a1 (.aload_n 0), a0 (.getfield 25) 3 52 0 3 3 0, none, none, a0 (.getfield 241) 3 38 1 1 6 0, none, none, a1 (.isub), a1 (.ireturn)]]
/-- 91: EnvyRust$TextReader.readInto -/
noncomputable def mk_91 : List (List (Option mEnt)) := [[a1 (.aload_n 0), a1 (.iconst (-1)), a0 (.putfield 31) 3 37 0 1 6 0, none, none, a1 (.aload_n 0), a1 (.iconst 0), a0 (.putfield 25) 3 35 0 1 4 0, none, none, a1 (.aload_n 0), a0 (.invokevirtual 34) 3 167 10 92 1 0, none, none, a1 (.iconst 0), a1 (.istore_n 2), a1 (.iconst 1), a1 (.istore_n 3), a1 (.iload_n 3), a3 (.ifCond .eq 106), none, none, a1 (.iload_n 2), a2 (.bipush 120), none, a3 (.if_icmp .gt 100), none, none, a1 (.aload_n 0), a0 (.invokevirtual 37) 3 171 10 95 1 0, none, none],
  [a2 (.istore 4), none, a2 (.iload 4), none, a1 (.iconst (-1)), a3 (.if_icmp .eq 22), none, none, a1 (.aload_n 1), a0 (.getfield 41) 3 19 1 2 4 0, none, none, a2 (.bipush 8), none, a3 (.if_icmp .ge 13), none, none, a1 (.aload_n 0), a1 (.aload_n 1), a2 (.iload 4), none, a0 (.invokevirtual 46) 3 183 10 109 3 0, none, none, a3 (.goto 33), none, none, a1 (.aload_n 0), a0 (.ldc 50) 2 191 3 0 0 0, none, a0 (.invokevirtual 52) 3 180 10 97 2 0, none],
  [none, a3 (.ifCond .eq 20), none, none, a1 (.aload_n 1), a0 (.getfield 56) 3 17 1 2 3 0, none, none, a2 (.bipush 8), none, a3 (.if_icmp .ge 11), none, none, a1 (.aload_n 0), a1 (.aload_n 1), a0 (.invokevirtual 59) 3 192 10 113 2 0, none, none, a3 (.goto 7), none, none, a1 (.aload_n 0), a0 (.invokevirtual 63) 3 187 10 112 1 0, none, none, a3 (.iinc 2 1), none, none, a1 (.aload_n 0), a0 (.getfield 31) 3 37 0 1 6 0, none, none],
  [a1 (.iconst (-1)), a3 (.if_icmp .ne 15), none, none, a1 (.aload_n 0), a0 (.getfield 19) 3 33 0 1 2 0, none, none, a1 (.iconst 3), a3 (.if_icmp .ne 7), none, none, a1 (.iconst 1), a3 (.goto 4), none, none, a1 (.iconst 0), a1 (.istore_n 3), a1 (.iload_n 3), a3 (.ifCond .eq 7), none, none, a1 (.aload_n 0), a0 (.invokevirtual 34) 3 167 10 92 1 0, none, none, a3 (.goto (-104)), none, none, a1 (.aload_n 0), a0 (.getfield 19) 3 33 0 1 2 0, none],
  [none, a3 (.ifCond .eq 7), none, none, a1 (.aload_n 0), a0 (.invokevirtual 63) 3 187 10 112 1 0, none, none, a1 (.iload_n 2), a1 (.ireturn)]]
/-- 92: EnvyRust$TextReader.advance -/
noncomputable def mk_92_0 : List (List (Option mEnt)) := [[a1 (.aload_n 0), a1 (.aload_n 0), a0 (.getfield 25) 3 35 0 1 4 0, none, none, a0 (.putfield 22) 3 34 0 1 3 0, none, none, a1 (.aload_n 0), a0 (.getfield 22) 3 34 0 1 3 0, none, none, a1 (.aload_n 0), a0 (.getfield 15) 3 31 0 1 1 0, none, none, a3 (.if_icmp .ge 30), none, none, a1 (.aload_n 0), a0 (.getfield 9) 3 30 0 1 0 0, none, none, a1 (.aload_n 0), a0 (.getfield 22) 3 34 0 1 3 0, none, none, a1 (.baload), a2 (.bipush 32), none, a3 (.if_icmp .ne 16), none],
  [none, a1 (.aload_n 0), a1 (.dup), a0 (.getfield 22) 3 34 0 1 3 0, none, none, a1 (.iconst 1), a1 (.iadd), a0 (.putfield 22) 3 34 0 1 3 0, none, none, a3 (.goto (-35)), none, none, a1 (.aload_n 0), a1 (.aload_n 0), a0 (.getfield 22) 3 34 0 1 3 0, none, none, a0 (.putfield 25) 3 35 0 1 4 0, none, none, a1 (.aload_n 0), a0 (.getfield 22) 3 34 0 1 3 0, none, none, a1 (.aload_n 0), a0 (.getfield 15) 3 31 0 1 1 0, none, none, a3 (.if_icmp .lt 11), none],
  [none, a1 (.aload_n 0), a1 (.iconst 0), a0 (.putfield 19) 3 33 0 1 2 0, none, none, a3 (.goto 189), none, none, a1 (.aload_n 0), a0 (.getfield 9) 3 30 0 1 0 0, none, none, a1 (.aload_n 0), a0 (.getfield 25) 3 35 0 1 4 0, none, none, a1 (.baload), a0 (.invokestatic 129) 3 168 12 93 1 0, none, none, a3 (.ifCond .eq 47), none, none, a1 (.aload_n 0), a1 (.iconst 1), a0 (.putfield 19) 3 33 0 1 2 0, none, none, a1 (.aload_n 0), a0 (.getfield 25) 3 35 0 1 4 0, none],
  [none, a1 (.aload_n 0), a0 (.getfield 15) 3 31 0 1 1 0, none, none, a3 (.if_icmp .ge 158), none, none, a1 (.aload_n 0), a0 (.getfield 9) 3 30 0 1 0 0, none, none, a1 (.aload_n 0), a0 (.getfield 25) 3 35 0 1 4 0, none, none, a1 (.baload), a0 (.invokestatic 129) 3 168 12 93 1 0, none, none, a3 (.ifCond .eq 143), none, none, a1 (.aload_n 0), a1 (.dup), a0 (.getfield 25) 3 35 0 1 4 0, none, none, a1 (.iconst 1), a1 (.iadd), a0 (.putfield 25) 3 35 0 1 4 0, none],
  [none, a3 (.goto (-36)), none, none, a1 (.aload_n 0), a0 (.getfield 9) 3 30 0 1 0 0, none, none, a1 (.aload_n 0), a0 (.getfield 25) 3 35 0 1 4 0, none, none, a1 (.baload), a0 (.invokestatic 133) 3 169 12 94 1 0, none, none, a3 (.ifCond .eq 82), none, none, a1 (.aload_n 0), a1 (.iconst 2), a0 (.putfield 19) 3 33 0 1 2 0, none, none, a1 (.aload_n 0), a1 (.iconst 0), a0 (.putfield 28) 3 36 0 1 5 0, none, none, a1 (.aload_n 0), a0 (.getfield 25) 3 35 0 1 4 0, none],
  [none, a1 (.aload_n 0), a0 (.getfield 15) 3 31 0 1 1 0, none, none, a3 (.if_icmp .ge 94), none, none, a1 (.aload_n 0), a0 (.getfield 9) 3 30 0 1 0 0, none, none, a1 (.aload_n 0), a0 (.getfield 25) 3 35 0 1 4 0, none, none, a1 (.baload), a0 (.invokestatic 133) 3 169 12 94 1 0, none, none, a3 (.ifCond .eq 79), none, none, a1 (.aload_n 0), a3 (.sipush 1000), none, none, a1 (.aload_n 0), a0 (.getfield 28) 3 36 0 1 5 0, none, none, a2 (.bipush 10)],
  [none, a1 (.imul), a1 (.aload_n 0), a0 (.getfield 9) 3 30 0 1 0 0, none, none, a1 (.aload_n 0), a0 (.getfield 25) 3 35 0 1 4 0, none, none, a1 (.baload), a1 (.iadd), a2 (.bipush 48), none, a1 (.isub), a0 (.invokestatic 136) 3 170 25 0 0 0, none, none, a0 (.putfield 28) 3 36 0 1 5 0, none, none, a1 (.aload_n 0), a1 (.dup), a0 (.getfield 25) 3 35 0 1 4 0, none, none, a1 (.iconst 1), a1 (.iadd), a0 (.putfield 25) 3 35 0 1 4 0, none, none, a3 (.goto (-66))],
  [none, none, a1 (.aload_n 0), a1 (.aload_n 0), a0 (.getfield 9) 3 30 0 1 0 0, none, none, a1 (.aload_n 0), a0 (.getfield 22) 3 34 0 1 3 0, none, none, a1 (.baload), a2 (.bipush 59), none, a3 (.if_icmp .ne 7), none, none, a1 (.iconst 3), a3 (.goto 4), none, none, a1 (.iconst 4), a0 (.putfield 19) 3 33 0 1 2 0, none, none, a1 (.aload_n 0), a1 (.dup), a0 (.getfield 25) 3 35 0 1 4 0, none, none, a1 (.iconst 1), a1 (.iadd)]]
noncomputable def mk_92_1 : List (List (Option mEnt)) := [[a0 (.putfield 25) 3 35 0 1 4 0, none, none, a1 (.return_)]]
noncomputable def mk_92 : List (List (Option mEnt)) := mk_92_0 ++ (mk_92_1)
/-- 93: EnvyRust$TextReader.isLetter -/
noncomputable def mk_93 : List (List (Option mEnt)) := [[a1 (.iload_n 0), a2 (.bipush 97), none, a3 (.if_icmp .lt 13), none, none, a1 (.iload_n 0), a2 (.bipush 122), none, a3 (.if_icmp .gt 7), none, none, a1 (.iconst 1), a3 (.goto 4), none, none, a1 (.iconst 0), a1 (.ireturn)]]
/-- 94: EnvyRust$TextReader.isDigit -/
noncomputable def mk_94 : List (List (Option mEnt)) := [[a1 (.iload_n 0), a2 (.bipush 48), none, a3 (.if_icmp .lt 13), none, none, a1 (.iload_n 0), a2 (.bipush 57), none, a3 (.if_icmp .gt 7), none, none, a1 (.iconst 1), a3 (.goto 4), none, none, a1 (.iconst 0), a1 (.ireturn)]]
/-- 95: EnvyRust$TextReader.kindTold -/
noncomputable def mk_95 : List (List (Option mEnt)) := [[a1 (.iconst 0), a1 (.istore_n 1), a1 (.iload_n 1), a2 (.bipush 7), none, a3 (.if_icmp .ge 22), none, none, a1 (.aload_n 0), a1 (.iload_n 1), a0 (.invokestatic 102) 3 172 12 96 1 0, none, none, a0 (.invokevirtual 52) 3 180 10 97 2 0, none, none, a3 (.ifCond .eq 5), none, none, a1 (.iload_n 1), a1 (.ireturn), a3 (.iinc 1 1), none, none, a3 (.goto (-22)), none, none, a1 (.iconst (-1)), a1 (.ireturn)]]
/-- 96: EnvyRust$TextReader.wordOfKind -/
noncomputable def mk_96 : List (List (Option mEnt)) := [[a1 (.iload_n 0), a0 (.tableswitch 57 1 6 #[39, 42, 45, 48, 51, 54]) 39 0 0 0 0 0, none, none, none, none, none, none, none, none, none, none, none, none, none, none, none, none, none, none, none, none, none, none, none, none, none, none, none, none, none, none],
  [none, none, none, none, none, none, none, none, a0 (.ldc 106) 2 173 3 0 1 0, none, a1 (.areturn), a0 (.ldc 108) 2 174 3 0 2 0, none, a1 (.areturn), a0 (.ldc 110) 2 175 3 0 3 0, none, a1 (.areturn), a0 (.ldc 112) 2 176 3 0 4 0, none, a1 (.areturn), a0 (.ldc 114) 2 177 3 0 5 0, none, a1 (.areturn), a0 (.ldc 116) 2 178 3 0 6 0, none, a1 (.areturn), a0 (.ldc 118) 2 179 3 0 7 0, none, a1 (.areturn)]]
/-- 97: EnvyRust$TextReader.isWord -/
noncomputable def mk_97 : List (List (Option mEnt)) := [[a1 (.aload_n 0), a0 (.getfield 19) 3 33 0 1 2 0, none, none, a1 (.iconst 1), a3 (.if_icmp .ne 19), none, none, a1 (.aload_n 0), a0 (.getfield 25) 3 35 0 1 4 0, none, none, a1 (.aload_n 0), a0 (.getfield 22) 3 34 0 1 3 0, none, none, a1 (.isub), a1 (.aload_n 1), a0 (.invokevirtual 120) 3 181 22 0 0 0, none, none, a3 (.if_icmp .eq 5), none, none, a1 (.iconst 0), a1 (.ireturn), a1 (.iconst 0), a1 (.istore_n 2), a1 (.iload_n 2), a1 (.aload_n 1), a0 (.invokevirtual 120) 3 181 22 0 0 0, none],
  [none, a3 (.if_icmp .ge 30), none, none, a1 (.aload_n 0), a0 (.getfield 9) 3 30 0 1 0 0, none, none, a1 (.aload_n 0), a0 (.getfield 22) 3 34 0 1 3 0, none, none, a1 (.iload_n 2), a1 (.iadd), a1 (.baload), a1 (.aload_n 1), a1 (.iload_n 2), a0 (.invokevirtual 125) 3 182 23 0 0 0, none, none, a3 (.if_icmp .eq 5), none, none, a1 (.iconst 0), a1 (.ireturn), a3 (.iinc 2 1), none, none, a3 (.goto (-32)), none, none, a1 (.iconst 1)],
  [a1 (.ireturn)]]
/-- 98: java/lang/String.length -/
noncomputable def mk_98 : List (List (Option mEnt)) := []
/-- 99: java/lang/String.coder -/
noncomputable def mk_99 : List (List (Option mEnt)) := []
/-- 100: java/lang/String.charAt -/
noncomputable def mk_100 : List (List (Option mEnt)) := []
/-- 101: java/lang/String.isLatin1 -/
noncomputable def mk_101 : List (List (Option mEnt)) := []
/-- 102: java/lang/StringLatin1.charAt -/
noncomputable def mk_102 : List (List (Option mEnt)) := []
/-- 103: java/lang/String.checkIndex -/
noncomputable def mk_103 : List (List (Option mEnt)) := []
/-- 104: jdk/internal/util/Preconditions.checkIndex -/
noncomputable def mk_104 : List (List (Option mEnt)) := []
/-- 105: java/lang/StringUTF16.charAt -/
noncomputable def mk_105 : List (List (Option mEnt)) := []
/-- 106: java/lang/StringUTF16.checkIndex -/
noncomputable def mk_106 : List (List (Option mEnt)) := []
/-- 107: java/lang/StringUTF16.length -/
noncomputable def mk_107 : List (List (Option mEnt)) := []
/-- 108: java/lang/StringUTF16.getChar -/
noncomputable def mk_108 : List (List (Option mEnt)) := []
/-- 109: EnvyRust$TextReader.readPerson -/
noncomputable def mk_109 : List (List (Option mEnt)) := [[a1 (.aload_n 0), a0 (.invokevirtual 34) 3 167 10 92 1 0, none, none, a1 (.aload_n 0), a0 (.ldc 66) 2 184 3 0 8 0, none, a2 (.bipush 15), none, a1 (.iconst 0), a0 (.invokevirtual 68) 3 185 10 110 4 0, none, none, a1 (.istore_n 3), a1 (.aload_n 0), a0 (.ldc 72) 2 188 3 0 9 0, none, a2 (.bipush 15), none, a1 (.iconst 1), a0 (.invokevirtual 68) 3 185 10 110 4 0, none, none, a2 (.istore 4), none, a1 (.aload_n 1), a1 (.iload_n 2), a1 (.iload_n 3), a0 (.invokevirtual 74) 3 189 11 23 3 0, none, none, a2 (.istore 5)],
  [none, a1 (.aload_n 1), a0 (.getfield 78) 3 11 1 2 1 0, none, none, a1 (.iconst 2), a1 (.aaload), a2 (.iload 5), none, a2 (.iload 4), none, a1 (.iastore), a1 (.aload_n 0), a0 (.getfield 31) 3 37 0 1 6 0, none, none, a1 (.iconst (-1)), a3 (.if_icmp .ne 49), none, none, a1 (.aload_n 0), a0 (.ldc 82) 2 190 3 0 10 0, none, a0 (.invokevirtual 52) 3 180 10 97 2 0, none, none, a3 (.ifCond .eq 40), none, none, a1 (.aload_n 0), a0 (.invokevirtual 34) 3 167 10 92 1 0, none],
  [none, a1 (.iconst 0), a2 (.istore 6), none, a2 (.iload 6), none, a1 (.iconst 4), a3 (.if_icmp .ge 27), none, none, a1 (.aload_n 1), a0 (.getfield 78) 3 11 1 2 1 0, none, none, a1 (.iconst 3), a2 (.iload 6), none, a1 (.iadd), a1 (.aaload), a2 (.iload 5), none, a1 (.aload_n 0), a2 (.bipush 9), none, a0 (.invokevirtual 84) 3 186 10 111 2 0, none, none, a1 (.iastore), a3 (.iinc 6 1), none, none, a3 (.goto (-27))],
  [none, none, a1 (.return_)]]
/-- 110: EnvyRust$TextReader.readPerhaps -/
noncomputable def mk_110 : List (List (Option mEnt)) := [[a1 (.aload_n 0), a0 (.getfield 31) 3 37 0 1 6 0, none, none, a1 (.iconst (-1)), a3 (.if_icmp .ne 11), none, none, a1 (.aload_n 0), a1 (.aload_n 1), a0 (.invokevirtual 52) 3 180 10 97 2 0, none, none, a3 (.ifCond .ne 5), none, none, a1 (.iload_n 3), a1 (.ireturn), a1 (.aload_n 0), a0 (.invokevirtual 34) 3 167 10 92 1 0, none, none, a1 (.aload_n 0), a1 (.iload_n 2), a0 (.invokevirtual 84) 3 186 10 111 2 0, none, none, a1 (.ireturn)]]
/-- 111: EnvyRust$TextReader.readNumber -/
noncomputable def mk_111 : List (List (Option mEnt)) := [[a1 (.aload_n 0), a0 (.getfield 19) 3 33 0 1 2 0, none, none, a1 (.iconst 2), a3 (.if_icmp .ne 11), none, none, a1 (.aload_n 0), a0 (.getfield 28) 3 36 0 1 5 0, none, none, a1 (.iload_n 1), a3 (.if_icmp .le 7), none, none, a1 (.aload_n 0), a0 (.invokevirtual 63) 3 187 10 112 1 0, none, none, a1 (.aload_n 0), a0 (.getfield 31) 3 37 0 1 6 0, none, none, a1 (.iconst (-1)), a3 (.if_icmp .eq 5), none, none, a1 (.iconst 0), a1 (.ireturn), a1 (.aload_n 0), a0 (.getfield 28) 3 36 0 1 5 0],
  [none, none, a1 (.istore_n 2), a1 (.aload_n 0), a0 (.invokevirtual 34) 3 167 10 92 1 0, none, none, a1 (.iload_n 2), a1 (.ireturn)]]
/-- 112: EnvyRust$TextReader.fail -/
noncomputable def mk_112 : List (List (Option mEnt)) := [[a1 (.aload_n 0), a0 (.getfield 31) 3 37 0 1 6 0, none, none, a1 (.iconst (-1)), a3 (.if_icmp .ne 11), none, none, a1 (.aload_n 0), a1 (.aload_n 0), a0 (.getfield 22) 3 34 0 1 3 0, none, none, a0 (.putfield 31) 3 37 0 1 6 0, none, none, a1 (.return_)]]
/-- 113: EnvyRust$TextReader.readThing -/
noncomputable def mk_113 : List (List (Option mEnt)) := [[a1 (.aload_n 0), a0 (.invokevirtual 34) 3 167 10 92 1 0, none, none, a1 (.aload_n 0), a1 (.iconst 3), a0 (.invokevirtual 84) 3 186 10 111 2 0, none, none, a1 (.istore_n 2), a1 (.aload_n 0), a0 (.ldc 66) 2 184 3 0 8 0, none, a2 (.bipush 15), none, a1 (.iconst 0), a0 (.invokevirtual 68) 3 185 10 110 4 0, none, none, a1 (.istore_n 3), a1 (.aload_n 0), a0 (.ldc 88) 2 193 3 0 11 0, none, a3 (.sipush 999), none, none, a2 (.bipush 100), none, a0 (.invokevirtual 68) 3 185 10 110 4 0, none, none, a2 (.istore 4)],
  [none, a1 (.aload_n 0), a0 (.ldc 90) 2 194 3 0 12 0, none, a2 (.bipush 9), none, a1 (.iconst 0), a0 (.invokevirtual 68) 3 185 10 110 4 0, none, none, a2 (.istore 5), none, a1 (.aload_n 0), a0 (.ldc 92) 2 195 3 0 13 0, none, a1 (.aload_n 1), a0 (.getfield 41) 3 19 1 2 4 0, none, none, a1 (.iconst 1), a1 (.isub), a1 (.iconst (-1)), a0 (.invokevirtual 68) 3 185 10 110 4 0, none, none, a2 (.istore 6), none, a1 (.aload_n 0), a0 (.ldc 94) 2 196 3 0 14 0, none, a1 (.aload_n 1), a0 (.getfield 56) 3 17 1 2 3 0],
  [none, none, a1 (.iconst 1), a1 (.isub), a1 (.iconst (-1)), a0 (.invokevirtual 68) 3 185 10 110 4 0, none, none, a2 (.istore 7), none, a1 (.aload_n 1), a1 (.iload_n 2), a1 (.iload_n 3), a0 (.invokevirtual 96) 3 197 11 8 3 0, none, none, a2 (.istore 8), none, a1 (.aload_n 1), a0 (.getfield 99) 3 9 1 2 0 0, none, none, a1 (.iconst 2), a1 (.aaload), a2 (.iload 8), none, a2 (.iload 4), none, a1 (.iastore), a1 (.aload_n 1), a0 (.getfield 99) 3 9 1 2 0 0, none],
  [none, a1 (.iconst 3), a1 (.aaload), a2 (.iload 8), none, a2 (.iload 5), none, a1 (.iastore), a1 (.aload_n 1), a0 (.getfield 99) 3 9 1 2 0 0, none, none, a1 (.iconst 4), a1 (.aaload), a2 (.iload 8), none, a2 (.iload 6), none, a1 (.iastore), a1 (.aload_n 1), a0 (.getfield 99) 3 9 1 2 0 0, none, none, a1 (.iconst 5), a1 (.aaload), a2 (.iload 8), none, a2 (.iload 7), none, a1 (.iastore), a1 (.return_)]]
/-- 114: EnvyRust.hold -/
noncomputable def mk_114 : List (List (Option mEnt)) := [[a1 (.iload_n 1), a1 (.iconst 0), a2 (.bipush 9), none, a0 (.invokestatic 50) 3 59 12 6 3 0, none, none, a3 (.ifCond .eq 19), none, none, a1 (.iload_n 2), a1 (.iconst (-1)), a3 (.if_icmp .eq 21), none, none, a1 (.aload_n 0), a0 (.getfield 10) 3 49 0 3 0 0, none, none, a1 (.iload_n 2), a0 (.invokevirtual 90) 3 76 11 19 2 0, none, none, a3 (.ifCond .ne 10), none, none, a1 (.aload_n 0), a0 (.ldc 54) 2 60 2 0 0 (-1000001), none, a0 (.invokevirtual 55) 3 61 10 7 2 0, none, none],
  [a1 (.ireturn), a1 (.aload_n 0), a0 (.getfield 10) 3 49 0 3 0 0, none, none, a0 (.getfield 244) 3 14 1 2 2 0, none, none, a1 (.iload_n 1), a1 (.iload_n 2), a1 (.iastore), a1 (.iconst 1), a1 (.ireturn)]]
/-- 115: EnvyRust.as -/
noncomputable def mk_115 : List (List (Option mEnt)) := [[a1 (.iload_n 1), a1 (.iconst 0), a2 (.bipush 9), none, a0 (.invokestatic 50) 3 59 12 6 3 0, none, none, a3 (.ifCond .eq 13), none, none, a1 (.iload_n 2), a1 (.iconst 0), a2 (.bipush 6), none, a0 (.invokestatic 50) 3 59 12 6 3 0, none, none, a3 (.ifCond .ne 10), none, none, a1 (.aload_n 0), a0 (.ldc 54) 2 60 2 0 0 (-1000001), none, a0 (.invokevirtual 55) 3 61 10 7 2 0, none, none, a1 (.ireturn), a1 (.aload_n 0), a0 (.getfield 10) 3 49 0 3 0 0, none, none, a0 (.getfield 244) 3 14 1 2 2 0],
  [none, none, a1 (.iload_n 1), a1 (.iaload), a1 (.istore_n 3), a1 (.iload_n 3), a1 (.iconst (-1)), a3 (.if_icmp .ne 10), none, none, a1 (.aload_n 0), a0 (.ldc 247) 2 153 2 0 0 (-1000006), none, a0 (.invokevirtual 55) 3 61 10 7 2 0, none, none, a1 (.ireturn), a1 (.aload_n 0), a0 (.getfield 10) 3 49 0 3 0 0, none, none, a0 (.getfield 102) 3 12 1 2 1 0, none, none, a1 (.iconst 0), a1 (.aaload), a1 (.iload_n 3), a1 (.iaload), a1 (.iload_n 2), a0 (.invokestatic 248) 3 200 12 14 2 0, none, none],
  [a3 (.ifCond .eq 7), none, none, a1 (.iload_n 3), a3 (.goto 9), none, none, a1 (.aload_n 0), a0 (.ldc 251) 2 201 2 0 0 (-1000003), none, a0 (.invokevirtual 55) 3 61 10 7 2 0, none, none, a1 (.ireturn)]]
/-- 116: EnvyRust.sheet -/
noncomputable def mk_116 : List (List (Option mEnt)) := [[a1 (.iload_n 1), a0 (.invokestatic 252) 3 151 12 78 1 0, none, none, a3 (.ifCond .eq 25), none, none, a1 (.iload_n 2), a3 (.ifCond .eq 28), none, none, a1 (.iload_n 2), a2 (.bipush 8), none, a3 (.if_icmp .eq 22), none, none, a1 (.iload_n 2), a2 (.bipush 16), none, a3 (.if_icmp .eq 16), none, none, a1 (.iload_n 2), a2 (.bipush 32), none, a3 (.if_icmp .eq 10), none, none, a1 (.aload_n 0), a0 (.ldc 54) 2 60 2 0 0 (-1000001), none],
  [a0 (.invokevirtual 55) 3 61 10 7 2 0, none, none, a1 (.ireturn), a1 (.iload_n 3), a3 (.ifCond .ge 10), none, none, a1 (.aload_n 0), a0 (.ldc 255) 2 203 2 0 0 (-1000007), none, a0 (.invokevirtual 55) 3 61 10 7 2 0, none, none, a1 (.ireturn), a1 (.iload_n 3), a2 (.bipush 40), none, a3 (.if_icmp .le 10), none, none, a1 (.aload_n 0), a0 (.ldc 54) 2 60 2 0 0 (-1000001), none, a0 (.invokevirtual 55) 3 61 10 7 2 0, none, none, a1 (.ireturn), a1 (.aload_n 0), a0 (.getfield 31) 3 53 0 3 4 0, none, none],
  [a1 (.iload_n 1), a1 (.aaload), a1 (.iload_n 2), a1 (.iload_n 3), a0 (.invokevirtual 256) 3 204 11 117 3 0, none, none, a1 (.aload_n 0), a0 (.getfield 31) 3 53 0 3 4 0, none, none, a1 (.iload_n 1), a1 (.aaload), a0 (.getfield 215) 3 48 1 0 2 0, none, none, a1 (.ireturn)]]
/-- 117: EnvyRust$Sheet.lay -/
noncomputable def mk_117 : List (List (Option mEnt)) := [[a1 (.aload_n 0), a1 (.iload_n 1), a0 (.putfield 15) 3 45 0 0 1 0, none, none, a1 (.aload_n 0), a1 (.iload_n 1), a3 (.ifCond .ne 7), none, none, a1 (.iconst 0), a3 (.goto 4), none, none, a1 (.iload_n 2), a0 (.putfield 19) 3 47 0 0 2 0, none, none, a1 (.iconst 0), a1 (.istore_n 3), a1 (.iload_n 3), a2 (.bipush 40), none, a3 (.if_icmp .ge 16), none, none, a1 (.aload_n 0), a0 (.getfield 9) 3 43 0 0 0 0, none, none, a1 (.iload_n 3), a1 (.iconst 0)],
  [a1 (.iastore), a3 (.iinc 3 1), none, none, a3 (.goto (-16)), none, none, a1 (.return_)]]
/-- 118: EnvyRust.write -/
noncomputable def mk_118 : List (List (Option mEnt)) := [[a1 (.aload_n 0), a1 (.iload_n 1), a0 (.invokevirtual 212) 3 150 10 77 2 0, none, none, a2 (.istore 4), none, a2 (.iload 4), none, a3 (.ifCond .eq 10), none, none, a1 (.aload_n 0), a2 (.iload 4), none, a0 (.invokevirtual 55) 3 61 10 7 2 0, none, none, a1 (.ireturn), a1 (.iload_n 2), a1 (.iconst 0), a1 (.aload_n 0), a0 (.getfield 31) 3 53 0 3 4 0, none, none, a1 (.iload_n 1), a1 (.aaload), a0 (.getfield 215) 3 48 1 0 2 0, none, none, a1 (.iconst 1), a1 (.isub)],
  [a0 (.invokestatic 50) 3 59 12 6 3 0, none, none, a3 (.ifCond .ne 10), none, none, a1 (.aload_n 0), a0 (.ldc 54) 2 60 2 0 0 (-1000001), none, a0 (.invokevirtual 55) 3 61 10 7 2 0, none, none, a1 (.ireturn), a1 (.aload_n 0), a0 (.getfield 31) 3 53 0 3 4 0, none, none, a1 (.iload_n 1), a1 (.aaload), a1 (.iload_n 2), a1 (.iload_n 3), a0 (.invokevirtual 260) 3 206 11 119 3 0, none, none, a1 (.iconst 1), a1 (.ireturn)]]
/-- 119: EnvyRust$Sheet.put -/
noncomputable def mk_119 : List (List (Option mEnt)) := [[a1 (.aload_n 0), a0 (.getfield 15) 3 45 0 0 1 0, none, none, a2 (.bipush 8), none, a3 (.if_icmp .ne 14), none, none, a1 (.aload_n 0), a0 (.getfield 9) 3 43 0 0 0 0, none, none, a1 (.iload_n 1), a1 (.iload_n 2), a1 (.i2b), a1 (.iastore), a3 (.goto 30), none, none, a1 (.aload_n 0), a0 (.getfield 15) 3 45 0 0 1 0, none, none, a2 (.bipush 16), none, a3 (.if_icmp .ne 14), none, none, a1 (.aload_n 0), a0 (.getfield 9) 3 43 0 0 0 0, none],
  [none, a1 (.iload_n 1), a1 (.iload_n 2), a1 (.i2s), a1 (.iastore), a3 (.goto 10), none, none, a1 (.aload_n 0), a0 (.getfield 9) 3 43 0 0 0 0, none, none, a1 (.iload_n 1), a1 (.iload_n 2), a1 (.iastore), a1 (.return_)]]
/-- 120: EnvyRust.copy -/
noncomputable def mk_120 : List (List (Option mEnt)) := [[a1 (.iload_n 1), a0 (.invokestatic 252) 3 151 12 78 1 0, none, none, a3 (.ifCond .eq 10), none, none, a1 (.iload_n 3), a0 (.invokestatic 252) 3 151 12 78 1 0, none, none, a3 (.ifCond .ne 10), none, none, a1 (.aload_n 0), a0 (.ldc 54) 2 60 2 0 0 (-1000001), none, a0 (.invokevirtual 55) 3 61 10 7 2 0, none, none, a1 (.ireturn), a1 (.aload_n 0), a0 (.getfield 31) 3 53 0 3 4 0, none, none, a1 (.iload_n 1), a1 (.aaload), a0 (.invokevirtual 262) 3 152 11 79 1 0, none, none, a3 (.ifCond .ne 15), none],
  [none, a1 (.aload_n 0), a0 (.getfield 31) 3 53 0 3 4 0, none, none, a1 (.iload_n 3), a1 (.aaload), a0 (.invokevirtual 262) 3 152 11 79 1 0, none, none, a3 (.ifCond .eq 10), none, none, a1 (.aload_n 0), a0 (.ldc 247) 2 153 2 0 0 (-1000006), none, a0 (.invokevirtual 55) 3 61 10 7 2 0, none, none, a1 (.ireturn), a1 (.aload_n 0), a0 (.getfield 31) 3 53 0 3 4 0, none, none, a1 (.iload_n 1), a1 (.aaload), a0 (.getfield 266) 3 46 1 0 1 0, none, none, a1 (.aload_n 0), a0 (.getfield 31) 3 53 0 3 4 0, none],
  [none, a1 (.iload_n 3), a1 (.aaload), a0 (.getfield 266) 3 46 1 0 1 0, none, none, a3 (.if_icmp .eq 10), none, none, a1 (.aload_n 0), a0 (.ldc 251) 2 201 2 0 0 (-1000003), none, a0 (.invokevirtual 55) 3 61 10 7 2 0, none, none, a1 (.ireturn), a1 (.aload_n 0), a0 (.getfield 31) 3 53 0 3 4 0, none, none, a1 (.iload_n 1), a1 (.aaload), a1 (.iload_n 2), a2 (.iload 5), none, a0 (.invokevirtual 269) 3 208 11 121 3 0, none, none, a3 (.ifCond .eq 19), none, none, a1 (.aload_n 0)],
  [a0 (.getfield 31) 3 53 0 3 4 0, none, none, a1 (.iload_n 3), a1 (.aaload), a2 (.iload 4), none, a2 (.iload 5), none, a0 (.invokevirtual 269) 3 208 11 121 3 0, none, none, a3 (.ifCond .ne 10), none, none, a1 (.aload_n 0), a0 (.ldc 54) 2 60 2 0 0 (-1000001), none, a0 (.invokevirtual 55) 3 61 10 7 2 0, none, none, a1 (.ireturn), a1 (.aload_n 0), a0 (.getfield 31) 3 53 0 3 4 0, none, none, a1 (.iload_n 1), a1 (.aaload), a0 (.getfield 218) 3 44 1 0 0 0, none, none, a1 (.iload_n 2)],
  [a1 (.aload_n 0), a0 (.getfield 31) 3 53 0 3 4 0, none, none, a1 (.iload_n 3), a1 (.aaload), a0 (.getfield 218) 3 44 1 0 0 0, none, none, a2 (.iload 4), none, a2 (.iload 5), none, a0 (.invokestatic 172) 3 127 21 0 0 0, none, none, a2 (.iload 5), none, a1 (.ireturn)]]
/-- 121: EnvyRust$Sheet.has -/
noncomputable def mk_121 : List (List (Option mEnt)) := [[a1 (.iload_n 1), a3 (.ifCond .lt 29), none, none, a1 (.iload_n 2), a3 (.ifCond .lt 25), none, none, a1 (.iload_n 1), a1 (.aload_n 0), a0 (.getfield 19) 3 47 0 0 2 0, none, none, a3 (.if_icmp .gt 17), none, none, a1 (.iload_n 2), a1 (.aload_n 0), a0 (.getfield 19) 3 47 0 0 2 0, none, none, a1 (.iload_n 1), a1 (.isub), a3 (.if_icmp .gt 7), none, none, a1 (.iconst 1), a3 (.goto 4), none, none, a1 (.iconst 0), a1 (.ireturn)]]
/-- 122: EnvyRust.load -/
noncomputable def mk_122 : List (List (Option mEnt)) := [[a1 (.aload_n 0), a1 (.iload_n 1), a0 (.invokevirtual 212) 3 150 10 77 2 0, none, none, a1 (.istore_n 2), a1 (.iload_n 2), a3 (.ifCond .eq 9), none, none, a1 (.aload_n 0), a1 (.iload_n 2), a0 (.invokevirtual 55) 3 61 10 7 2 0, none, none, a1 (.ireturn), a1 (.aload_n 0), a0 (.getfield 31) 3 53 0 3 4 0, none, none, a1 (.iload_n 1), a1 (.aaload), a0 (.getfield 215) 3 48 1 0 2 0, none, none, a1 (.aload_n 0), a0 (.getfield 10) 3 49 0 3 0 0, none, none, a0 (.getfield 59) 3 16 1 2 3 0, none, none],
  [a0 (.invokestatic 157) 3 125 25 0 0 0, none, none, a1 (.istore_n 3), a1 (.iconst 0), a2 (.istore 4), none, a2 (.iload 4), none, a1 (.iload_n 3), a3 (.if_icmp .ge 52), none, none, a1 (.aload_n 0), a0 (.getfield 31) 3 53 0 3 4 0, none, none, a1 (.iload_n 1), a1 (.aaload), a0 (.getfield 218) 3 44 1 0 0 0, none, none, a2 (.iload 4), none, a1 (.iaload), a2 (.istore 5), none, a2 (.iload 5), none, a1 (.iconst 0), a3 (.sipush 999), none],
  [none, a0 (.invokestatic 50) 3 59 12 6 3 0, none, none, a3 (.ifCond .ne 6), none, none, a2 (.iload 4), none, a1 (.ireturn), a1 (.aload_n 0), a0 (.getfield 10) 3 49 0 3 0 0, none, none, a0 (.getfield 75) 3 8 1 2 0 0, none, none, a1 (.iconst 2), a1 (.aaload), a2 (.iload 4), none, a2 (.iload 5), none, a1 (.iastore), a3 (.iinc 4 1), none, none, a3 (.goto (-52)), none, none, a1 (.iload_n 3), a1 (.ireturn)]]
/-- 123: EnvyRust.judge -/
noncomputable def mk_123 : List (List (Option mEnt)) := [[a1 (.aload_n 0), a1 (.iload_n 1), a0 (.invokevirtual 212) 3 150 10 77 2 0, none, none, a1 (.istore_n 2), a1 (.iload_n 2), a3 (.ifCond .eq 9), none, none, a1 (.aload_n 0), a1 (.iload_n 2), a0 (.invokevirtual 55) 3 61 10 7 2 0, none, none, a1 (.ireturn), a1 (.iconst 0), a1 (.istore_n 3), a1 (.iload_n 3), a1 (.aload_n 0), a0 (.getfield 31) 3 53 0 3 4 0, none, none, a1 (.iload_n 1), a1 (.aaload), a0 (.getfield 215) 3 48 1 0 2 0, none, none, a3 (.if_icmp .ge 27), none, none, a1 (.aload_n 0)],
  [a1 (.aload_n 0), a0 (.getfield 31) 3 53 0 3 4 0, none, none, a1 (.iload_n 1), a1 (.aaload), a1 (.iload_n 3), a0 (.invokevirtual 272) 3 211 10 124 3 0, none, none, a3 (.ifCond .ne 7), none, none, a1 (.iconst 1), a1 (.iload_n 3), a1 (.iadd), a1 (.ireturn), a3 (.iinc 3 1), none, none, a3 (.goto (-34)), none, none, a1 (.iconst 0), a1 (.ireturn)]]
/-- 124: EnvyRust.isLink -/
noncomputable def mk_124 : List (List (Option mEnt)) := [[a1 (.aload_n 1), a0 (.getfield 218) 3 44 1 0 0 0, none, none, a1 (.iload_n 2), a1 (.iaload), a1 (.istore_n 3), a1 (.aload_n 0), a0 (.getfield 10) 3 49 0 3 0 0, none, none, a1 (.iload_n 3), a0 (.invokevirtual 68) 3 65 11 10 2 0, none, none, a3 (.ifCond .ne 5), none, none, a1 (.iconst 0), a1 (.ireturn), a1 (.iload_n 2), a1 (.iconst 1), a1 (.iadd), a1 (.aload_n 1), a0 (.getfield 215) 3 48 1 0 2 0, none, none, a3 (.if_icmp .lt 5), none, none, a1 (.iconst 1), a1 (.ireturn)],
  [a1 (.aload_n 0), a0 (.getfield 10) 3 49 0 3 0 0, none, none, a0 (.getfield 75) 3 8 1 2 0 0, none, none, a1 (.iconst 5), a1 (.aaload), a1 (.iload_n 3), a1 (.iaload), a2 (.istore 4), none, a2 (.iload 4), none, a1 (.iconst (-1)), a3 (.if_icmp .eq 20), none, none, a2 (.iload 4), none, a1 (.aload_n 1), a0 (.getfield 218) 3 44 1 0 0 0, none, none, a1 (.iload_n 2), a1 (.iconst 1), a1 (.iadd), a1 (.iaload), a3 (.if_icmp .ne 7), none, none],
  [a1 (.iconst 1), a3 (.goto 4), none, none, a1 (.iconst 0), a1 (.ireturn)]]
/-- 125: EnvyRust.image -/
noncomputable def mk_125 : List (List (Option mEnt)) := [[a1 (.aload_n 0), a0 (.getfield 16) 3 50 0 3 1 0, none, none, a1 (.aload_n 0), a0 (.getfield 10) 3 49 0 3 0 0, none, none, a0 (.invokevirtual 181) 3 108 11 43 2 0, none, none, a1 (.aload_n 0), a1 (.iconst 1), a0 (.putfield 39) 3 55 0 3 6 0, none, none, a1 (.iconst 1), a1 (.ireturn)]]
/-- 126: EnvyRust.undo -/
noncomputable def mk_126 : List (List (Option mEnt)) := [[a1 (.aload_n 0), a0 (.getfield 39) 3 55 0 3 6 0, none, none, a3 (.ifCond .ne 10), none, none, a1 (.aload_n 0), a0 (.ldc 143) 2 112 2 0 0 (-1000004), none, a0 (.invokevirtual 55) 3 61 10 7 2 0, none, none, a1 (.ireturn), a1 (.aload_n 0), a0 (.getfield 10) 3 49 0 3 0 0, none, none, a1 (.aload_n 0), a0 (.getfield 16) 3 50 0 3 1 0, none, none, a0 (.invokevirtual 181) 3 108 11 43 2 0, none, none, a1 (.aload_n 0), a0 (.getfield 10) 3 49 0 3 0 0, none, none, a0 (.getfield 111) 3 22 1 2 5 0, none, none],
  [a1 (.ireturn)]]
/-- 127: EnvyRust.tear -/
noncomputable def mk_127 : List (List (Option mEnt)) := [[a1 (.aload_n 0), a0 (.getfield 39) 3 55 0 3 6 0, none, none, a3 (.ifCond .eq 7), none, none, a1 (.iconst 1), a3 (.goto 4), none, none, a1 (.iconst 0), a1 (.istore_n 1), a1 (.aload_n 0), a1 (.iconst 0), a0 (.putfield 39) 3 55 0 3 6 0, none, none, a1 (.iload_n 1), a1 (.ireturn)]]
/-- 128: EnvyRust.count -/
noncomputable def mk_128 : List (List (Option mEnt)) := [[a1 (.iload_n 1), a0 (.tableswitch 114 0 7 #[47, 55, 63, 71, 82, 90, 98, 106]) 47 0 0 0 0 0, none, none, none, none, none, none, none, none, none, none, none, none, none, none, none, none, none, none, none, none, none, none, none, none, none, none, none, none, none, none],
  [none, none, none, none, none, none, none, none, none, none, none, none, none, none, none, none, a1 (.aload_n 0), a0 (.getfield 10) 3 49 0 3 0 0, none, none, a0 (.getfield 111) 3 22 1 2 5 0, none, none, a1 (.ireturn), a1 (.aload_n 0), a0 (.getfield 10) 3 49 0 3 0 0, none, none, a0 (.getfield 59) 3 16 1 2 3 0, none, none, a1 (.ireturn)],
  [a1 (.aload_n 0), a0 (.getfield 10) 3 49 0 3 0 0, none, none, a0 (.getfield 93) 3 20 1 2 4 0, none, none, a1 (.ireturn), a1 (.aload_n 0), a0 (.getfield 10) 3 49 0 3 0 0, none, none, a0 (.invokevirtual 119) 3 97 11 35 1 0, none, none, a0 (.invokestatic 123) 3 98 12 36 1 0, none, none, a1 (.ireturn), a1 (.aload_n 0), a0 (.getfield 10) 3 49 0 3 0 0, none, none, a0 (.invokevirtual 128) 3 103 11 38 1 0, none, none, a1 (.ireturn), a1 (.aload_n 0), a0 (.getfield 25) 3 52 0 3 3 0, none, none, a0 (.getfield 230) 3 32 1 1 1 0],
  [none, none, a1 (.ireturn), a1 (.aload_n 0), a0 (.getfield 10) 3 49 0 3 0 0, none, none, a0 (.getfield 227) 3 24 1 2 6 0, none, none, a1 (.ireturn), a1 (.aload_n 0), a0 (.getfield 10) 3 49 0 3 0 0, none, none, a0 (.invokevirtual 276) 3 216 11 129 1 0, none, none, a1 (.ireturn), a1 (.aload_n 0), a0 (.ldc 54) 2 60 2 0 0 (-1000001), none, a0 (.invokevirtual 55) 3 61 10 7 2 0, none, none, a1 (.ireturn)]]
/-- 129: EnvyRust$Town.heldSpots -/
noncomputable def mk_129 : List (List (Option mEnt)) := [[a1 (.iconst 0), a1 (.istore_n 1), a1 (.iconst 0), a1 (.istore_n 2), a1 (.iload_n 2), a2 (.bipush 10), none, a3 (.if_icmp .ge 22), none, none, a1 (.aload_n 0), a0 (.getfield 19) 3 13 0 2 2 0, none, none, a1 (.iload_n 2), a1 (.iaload), a1 (.iconst (-1)), a3 (.if_icmp .eq 6), none, none, a3 (.iinc 1 1), none, none, a3 (.iinc 2 1), none, none, a3 (.goto (-22)), none, none, a1 (.iload_n 1), a1 (.ireturn)]]
/-- 130: EnvyRust.status -/
noncomputable def mk_130 : List (List (Option mEnt)) := [[a1 (.iload_n 1), a1 (.iconst (-1)), a2 (.bipush 6), none, a0 (.invokestatic 50) 3 59 12 6 3 0, none, none, a3 (.ifCond .ne 10), none, none, a1 (.aload_n 0), a0 (.ldc 54) 2 60 2 0 0 (-1000001), none, a0 (.invokevirtual 55) 3 61 10 7 2 0, none, none, a1 (.ireturn), a1 (.iload_n 1), a3 (.ifCond .lt 10), none, none, a1 (.aload_n 0), a0 (.getfield 35) 3 54 0 3 5 0, none, none, a1 (.iload_n 1), a1 (.iaload), a1 (.ireturn), a1 (.iconst 0), a1 (.istore_n 2), a1 (.iconst 0), a1 (.istore_n 3)],
  [a1 (.iload_n 3), a2 (.bipush 7), none, a3 (.if_icmp .ge 18), none, none, a1 (.iload_n 2), a1 (.aload_n 0), a0 (.getfield 35) 3 54 0 3 5 0, none, none, a1 (.iload_n 3), a1 (.iaload), a1 (.iadd), a1 (.istore_n 2), a3 (.iinc 3 1), none, none, a3 (.goto (-18)), none, none, a1 (.iload_n 2), a1 (.ireturn)]]
/-- 131: EnvyRustModel.new -/
noncomputable def mk_131 : List (List (Option mEnt)) := [[a1 (.aload_n 0), a0 (.invokespecial 1) 3 220 20 0 0 0, none, none, a1 (.aload_n 0), a2 (.bipush 118), none, a2 (.newarray .int), none, a0 (.putfield 9) 3 229 0 4 0 0, none, none, a1 (.aload_n 0), a2 (.bipush 118), none, a2 (.newarray .int), none, a0 (.putfield 13) 3 230 0 4 1 0, none, none, a1 (.aload_n 0), a2 (.bipush 118), none, a2 (.newarray .int), none, a0 (.putfield 16) 3 231 0 4 2 0, none, none, a1 (.aload_n 0), a2 (.bipush 8), none, a2 (.newarray .int)],
  [none, a0 (.putfield 19) 3 233 0 4 4 0, none, none, a1 (.aload_n 0), a2 (.bipush 8), none, a2 (.newarray .int), none, a0 (.putfield 22) 3 234 0 4 5 0, none, none, a1 (.aload_n 0), a1 (.iconst (-1)), a0 (.putfield 25) 3 235 0 4 6 0, none, none, a1 (.aload_n 0), a2 (.bipush 8), none, a2 (.newarray .int), none, a0 (.putfield 29) 3 236 0 4 7 0, none, none, a1 (.aload_n 0), a2 (.bipush 120), none, a2 (.newarray .int), none, a0 (.putfield 32) 3 237 0 4 8 0, none],
  [none, a1 (.aload_n 0), a2 (.bipush 7), none, a0 (.anewarray 35) 3 221 5 4 0 0, none, none, a1 (.dup), a1 (.iconst 0), a0 (.ldc 37) 2 222 3 0 7 0, none, a1 (.aastore), a1 (.dup), a1 (.iconst 1), a0 (.ldc 39) 2 223 3 0 1 0, none, a1 (.aastore), a1 (.dup), a1 (.iconst 2), a0 (.ldc 41) 2 224 3 0 2 0, none, a1 (.aastore), a1 (.dup), a1 (.iconst 3), a0 (.ldc 43) 2 225 3 0 3 0, none, a1 (.aastore), a1 (.dup), a1 (.iconst 4), a0 (.ldc 45) 2 226 3 0 4 0, none, a1 (.aastore)],
  [a1 (.dup), a1 (.iconst 5), a0 (.ldc 47) 2 227 3 0 5 0, none, a1 (.aastore), a1 (.dup), a2 (.bipush 6), none, a0 (.ldc 49) 2 228 3 0 6 0, none, a1 (.aastore), a0 (.putfield 51) 3 244 0 4 15 0, none, none, a1 (.aload_n 0), a3 (.sipush 840), none, none, a2 (.newarray .int), none, a0 (.putfield 55) 3 245 0 4 16 0, none, none, a1 (.aload_n 0), a1 (.iconst 4), a2 (.newarray .int), none, a0 (.putfield 58) 3 249 0 4 20 0, none, none, a1 (.aload_n 0), a1 (.iconst 4)],
  [a2 (.newarray .int), none, a0 (.putfield 61) 3 250 0 4 21 0, none, none, a1 (.aload_n 0), a3 (.sipush 160), none, none, a2 (.newarray .int), none, a0 (.putfield 64) 3 251 0 4 22 0, none, none, a1 (.aload_n 0), a2 (.bipush 40), none, a2 (.newarray .int), none, a0 (.putfield 67) 3 252 0 4 23 0, none, none, a1 (.aload_n 0), a0 (.getfield 9) 3 229 0 4 0 0, none, none, a1 (.iconst 3), a1 (.iconst 1), a1 (.iastore), a1 (.iconst 0), a1 (.istore_n 1), a1 (.iload_n 1)],
  [a2 (.bipush 10), none, a3 (.if_icmp .ge 18), none, none, a1 (.aload_n 0), a0 (.getfield 9) 3 229 0 4 0 0, none, none, a1 (.iconst 4), a1 (.iload_n 1), a1 (.iadd), a1 (.iconst (-1)), a1 (.iastore), a3 (.iinc 1 1), none, none, a3 (.goto (-18)), none, none, a1 (.return_)]]
/-- 132: EnvyRustModel.thing -/
noncomputable def mk_132 : List (List (Option mEnt)) := [[a1 (.iload_n 1), a1 (.iconst 0), a1 (.iconst 3), a0 (.invokestatic 80) 3 254 12 133 3 0, none, none, a3 (.ifCond .eq 10), none, none, a1 (.iload_n 2), a0 (.invokestatic 91) 3 255 12 134 1 0, none, none, a3 (.ifCond .ne 10), none, none, a1 (.aload_n 0), a0 (.ldc 70) 2 256 2 0 0 (-1000001), none, a0 (.invokevirtual 76) 3 257 10 135 2 0, none, none, a1 (.ireturn), a1 (.aload_n 0), a0 (.getfield 9) 3 229 0 4 0 0, none, none, a1 (.iconst 1), a1 (.iaload), a2 (.bipush 8), none, a3 (.if_icmp .ne 12)],
  [none, none, a1 (.aload_n 0), a0 (.ldc 95) 2 258 2 0 0 (-1000002), none, a0 (.invokevirtual 76) 3 257 10 135 2 0, none, none, a3 (.goto 14), none, none, a1 (.aload_n 0), a1 (.iload_n 1), a1 (.iload_n 2), a2 (.bipush 100), none, a1 (.iconst 0), a1 (.iconst (-1)), a1 (.iconst (-1)), a0 (.invokevirtual 96) 3 259 10 136 7 0, none, none, a1 (.ireturn)]]
/-- 133: EnvyRustModel.within -/
noncomputable def mk_133 : List (List (Option mEnt)) := [[a1 (.iload_n 0), a1 (.iload_n 1), a3 (.if_icmp .lt 12), none, none, a1 (.iload_n 0), a1 (.iload_n 2), a3 (.if_icmp .gt 7), none, none, a1 (.iconst 1), a3 (.goto 4), none, none, a1 (.iconst 0), a1 (.ireturn)]]
/-- 134: EnvyRustModel.isPlace -/
noncomputable def mk_134 : List (List (Option mEnt)) := [[a1 (.iload_n 0), a1 (.iconst 0), a2 (.bipush 15), none, a0 (.invokestatic 80) 3 254 12 133 3 0, none, none, a1 (.ireturn)]]
/-- 135: EnvyRustModel.finding -/
noncomputable def mk_135 : List (List (Option mEnt)) := [[a1 (.aload_n 0), a0 (.getfield 19) 3 233 0 4 4 0, none, none, a0 (.ldc 70) 2 256 2 0 0 (-1000001), none, a1 (.iload_n 1), a1 (.isub), a1 (.iconst 1), a1 (.iadd), a1 (.dup2), a1 (.iaload), a1 (.iconst 1), a1 (.iadd), a1 (.iastore), a1 (.aload_n 0), a0 (.getfield 19) 3 233 0 4 4 0, none, none, a1 (.iconst 0), a1 (.dup2), a1 (.iaload), a1 (.iconst 1), a1 (.iadd), a1 (.iastore), a1 (.iload_n 1), a1 (.ireturn)]]
/-- 136: EnvyRustModel.comes -/
noncomputable def mk_136 : List (List (Option mEnt)) := [[a1 (.aload_n 0), a0 (.getfield 9) 3 229 0 4 0 0, none, none, a1 (.iconst 1), a1 (.iaload), a2 (.istore 7), none, a1 (.aload_n 0), a0 (.getfield 9) 3 229 0 4 0 0, none, none, a2 (.iload 7), none, a1 (.iconst 0), a0 (.invokestatic 84) 3 260 12 137 2 0, none, none, a1 (.iload_n 1), a1 (.iastore), a1 (.aload_n 0), a0 (.getfield 9) 3 229 0 4 0 0, none, none, a2 (.iload 7), none, a1 (.iconst 1), a0 (.invokestatic 84) 3 260 12 137 2 0, none, none, a1 (.iload_n 2), a1 (.iastore)],
  [a1 (.aload_n 0), a0 (.getfield 9) 3 229 0 4 0 0, none, none, a2 (.iload 7), none, a1 (.iconst 2), a0 (.invokestatic 84) 3 260 12 137 2 0, none, none, a1 (.iload_n 3), a1 (.iastore), a1 (.aload_n 0), a0 (.getfield 9) 3 229 0 4 0 0, none, none, a2 (.iload 7), none, a1 (.iconst 3), a0 (.invokestatic 84) 3 260 12 137 2 0, none, none, a2 (.iload 4), none, a1 (.iastore), a1 (.aload_n 0), a0 (.getfield 9) 3 229 0 4 0 0, none, none, a2 (.iload 7), none, a1 (.iconst 4)],
  [a0 (.invokestatic 84) 3 260 12 137 2 0, none, none, a2 (.iload 5), none, a1 (.iastore), a1 (.aload_n 0), a0 (.getfield 9) 3 229 0 4 0 0, none, none, a2 (.iload 7), none, a1 (.iconst 5), a0 (.invokestatic 84) 3 260 12 137 2 0, none, none, a2 (.iload 6), none, a1 (.iastore), a1 (.aload_n 0), a0 (.getfield 9) 3 229 0 4 0 0, none, none, a1 (.iconst 1), a1 (.dup2), a1 (.iaload), a1 (.iconst 1), a1 (.iadd), a1 (.iastore), a2 (.iload 7), none, a1 (.ireturn)]]
/-- 137: EnvyRustModel.at -/
noncomputable def mk_137 : List (List (Option mEnt)) := [[a2 (.bipush 14), none, a2 (.bipush 6), none, a1 (.iload_n 0), a1 (.imul), a1 (.iadd), a1 (.iload_n 1), a1 (.iadd), a1 (.ireturn)]]
/-- 138: EnvyRustModel.thingOf -/
noncomputable def mk_138 : List (List (Option mEnt)) := [[a1 (.aload_n 0), a1 (.iload_n 1), a0 (.invokevirtual 131) 3 262 10 139 2 0, none, none, a3 (.ifCond .eq 13), none, none, a1 (.iload_n 2), a1 (.iconst 0), a2 (.bipush 6), none, a0 (.invokestatic 80) 3 254 12 133 3 0, none, none, a3 (.ifCond .ne 10), none, none, a1 (.aload_n 0), a0 (.ldc 70) 2 256 2 0 0 (-1000001), none, a0 (.invokevirtual 76) 3 257 10 135 2 0, none, none, a1 (.ireturn), a1 (.iload_n 2), a2 (.bipush 6), none, a3 (.if_icmp .ne 11), none, none, a1 (.aload_n 0)],
  [a1 (.iload_n 1), a0 (.invokevirtual 134) 3 263 10 140 2 0, none, none, a3 (.goto 9), none, none, a1 (.aload_n 0), a1 (.iload_n 1), a1 (.iload_n 2), a0 (.invokevirtual 103) 3 266 10 143 3 0, none, none, a1 (.ireturn)]]
/-- 139: EnvyRustModel.isThing -/
noncomputable def mk_139 : List (List (Option mEnt)) := [[a1 (.iload_n 1), a1 (.iconst 0), a1 (.aload_n 0), a0 (.getfield 9) 3 229 0 4 0 0, none, none, a1 (.iconst 1), a1 (.iaload), a1 (.iconst 1), a1 (.isub), a0 (.invokestatic 80) 3 254 12 133 3 0, none, none, a1 (.ireturn)]]
/-- 140: EnvyRustModel.wornNow -/
noncomputable def mk_140 : List (List (Option mEnt)) := [[a1 (.iconst 0), a1 (.istore_n 2), a1 (.iconst 0), a1 (.istore_n 3), a1 (.iload_n 3), a1 (.aload_n 0), a0 (.getfield 9) 3 229 0 4 0 0, none, none, a1 (.iconst 2), a1 (.iaload), a3 (.if_icmp .ge 37), none, none, a1 (.iload_n 2), a1 (.aload_n 0), a1 (.iload_n 3), a1 (.iconst 1), a0 (.invokevirtual 109) 3 264 10 141 3 0, none, none, a1 (.aload_n 0), a1 (.iload_n 1), a1 (.iconst 1), a0 (.invokevirtual 103) 3 266 10 143 3 0, none, none, a3 (.if_icmp .ne 12), none, none, a1 (.aload_n 0), a1 (.iload_n 3)],
  [a1 (.iload_n 1), a0 (.invokevirtual 125) 3 267 10 144 3 0, none, none, a3 (.goto 4), none, none, a1 (.iconst 0), a1 (.iadd), a1 (.istore_n 2), a3 (.iinc 3 1), none, none, a3 (.goto (-41)), none, none, a1 (.iload_n 2), a1 (.aload_n 0), a1 (.iload_n 1), a1 (.iconst 2), a0 (.invokevirtual 103) 3 266 10 143 3 0, none, none, a0 (.invokestatic 128) 3 273 25 0 0 0, none, none, a1 (.ireturn)]]
/-- 141: EnvyRustModel.personIs -/
noncomputable def mk_141 : List (List (Option mEnt)) := [[a1 (.aload_n 0), a0 (.getfield 9) 3 229 0 4 0 0, none, none, a1 (.iload_n 1), a1 (.iload_n 2), a0 (.invokestatic 88) 3 265 12 142 2 0, none, none, a1 (.iaload), a1 (.ireturn)]]
/-- 142: EnvyRustModel.by -/
noncomputable def mk_142 : List (List (Option mEnt)) := [[a2 (.bipush 62), none, a2 (.bipush 7), none, a1 (.iload_n 0), a1 (.imul), a1 (.iadd), a1 (.iload_n 1), a1 (.iadd), a1 (.ireturn)]]
/-- 143: EnvyRustModel.thingIs -/
noncomputable def mk_143 : List (List (Option mEnt)) := [[a1 (.aload_n 0), a0 (.getfield 9) 3 229 0 4 0 0, none, none, a1 (.iload_n 1), a1 (.iload_n 2), a0 (.invokestatic 84) 3 260 12 137 2 0, none, none, a1 (.iaload), a1 (.ireturn)]]
/-- 144: EnvyRustModel.envyOf -/
noncomputable def mk_144 : List (List (Option mEnt)) := [[a1 (.aload_n 0), a1 (.iload_n 1), a1 (.iload_n 2), a1 (.aload_n 0), a1 (.iload_n 2), a1 (.iconst 4), a0 (.invokevirtual 103) 3 266 10 143 3 0, none, none, a0 (.invokevirtual 121) 3 268 10 145 4 0, none, none, a1 (.ireturn)]]
/-- 145: EnvyRustModel.envyIf -/
noncomputable def mk_145 : List (List (Option mEnt)) := [[a1 (.iload_n 3), a1 (.iload_n 1), a3 (.if_icmp .eq 19), none, none, a1 (.aload_n 0), a1 (.iload_n 2), a0 (.invokevirtual 106) 3 269 10 146 2 0, none, none, a3 (.ifCond .ne 11), none, none, a1 (.iload_n 1), a1 (.aload_n 0), a0 (.getfield 25) 3 235 0 4 6 0, none, none, a3 (.if_icmp .ne 5), none, none, a1 (.iconst 0), a1 (.ireturn), a1 (.aload_n 0), a1 (.iload_n 1), a1 (.iconst 3), a1 (.aload_n 0), a1 (.iload_n 2), a1 (.iconst 0), a0 (.invokevirtual 103) 3 266 10 143 3 0, none, none],
  [a1 (.iadd), a0 (.invokevirtual 109) 3 264 10 141 3 0, none, none, a1 (.aload_n 0), a1 (.iload_n 2), a1 (.iconst 3), a0 (.invokevirtual 103) 3 266 10 143 3 0, none, none, a1 (.isub), a2 (.istore 4), none, a1 (.iload_n 3), a3 (.ifCond .lt 23), none, none, a1 (.aload_n 0), a1 (.iload_n 3), a1 (.iconst 0), a0 (.invokevirtual 109) 3 264 10 141 3 0, none, none, a1 (.iconst 2), a0 (.invokestatic 112) 3 270 12 147 2 0, none, none, a3 (.ifCond .eq 10), none, none, a2 (.iload 4), none],
  [a1 (.iconst 2), a1 (.iadd), a3 (.goto 5), none, none, a2 (.iload 4), none, a2 (.istore 5), none, a1 (.aload_n 0), a1 (.iload_n 1), a1 (.iconst 0), a0 (.invokevirtual 109) 3 264 10 141 3 0, none, none, a0 (.tableswitch 107 1 6 #[37, 63, 70, 79, 98, 46]) 37 0 0 0 0 0, none, none, none, none, none, none, none, none, none, none, none, none, none, none, none, none],
  [none, none, none, none, none, none, none, none, none, none, none, none, none, none, none, none, none, none, none, none, a2 (.iload 4), none, a1 (.iconst 2), a1 (.idiv), a2 (.istore 6), none, a3 (.goto 68), none, none, a1 (.iload_n 3), a3 (.ifCond .ge 7), none],
  [none, a1 (.iconst 0), a3 (.goto 7), none, none, a2 (.iload 4), none, a1 (.iconst 2), a1 (.idiv), a2 (.istore 6), none, a3 (.goto 51), none, none, a2 (.iload 5), none, a2 (.istore 6), none, a3 (.goto 44), none, none, a2 (.iload 5), none, a1 (.iconst 3), a1 (.isub), a2 (.istore 6), none, a3 (.goto 35), none, none, a2 (.iload 5), none],
  [a1 (.iconst 3), a1 (.isub), a1 (.aload_n 0), a1 (.iload_n 2), a1 (.iconst 2), a0 (.invokevirtual 103) 3 266 10 143 3 0, none, none, a2 (.bipush 100), none, a1 (.idiv), a1 (.iadd), a2 (.istore 6), none, a3 (.goto 16), none, none, a1 (.iconst 2), a2 (.iload 4), none, a1 (.imul), a2 (.istore 6), none, a3 (.goto 7), none, none, a2 (.iload 4), none, a2 (.istore 6), none, a1 (.iconst 0), a2 (.iload 6)],
  [none, a0 (.invokestatic 116) 3 272 24 0 0 0, none, none, a1 (.ireturn)]]
/-- 146: EnvyRustModel.isGone -/
noncomputable def mk_146 : List (List (Option mEnt)) := [[a1 (.aload_n 0), a1 (.iload_n 1), a1 (.iconst 2), a0 (.invokevirtual 103) 3 266 10 143 3 0, none, none, a3 (.ifCond .ne 7), none, none, a1 (.iconst 1), a3 (.goto 4), none, none, a1 (.iconst 0), a1 (.ireturn)]]
/-- 147: EnvyRustModel.isUnder -/
noncomputable def mk_147 : List (List (Option mEnt)) := [[a1 (.iload_n 0), a1 (.istore_n 2), a1 (.iload_n 2), a3 (.ifCond .lt 16), none, none, a1 (.iload_n 2), a1 (.iload_n 1), a3 (.if_icmp .eq 11), none, none, a1 (.iload_n 2), a0 (.invokestatic 100) 3 271 12 148 1 0, none, none, a1 (.istore_n 2), a3 (.goto (-14)), none, none, a1 (.iload_n 2), a3 (.ifCond .lt 7), none, none, a1 (.iconst 1), a3 (.goto 4), none, none, a1 (.iconst 0), a1 (.ireturn)]]
/-- 148: EnvyRustModel.above -/
noncomputable def mk_148 : List (List (Option mEnt)) := [[a1 (.iload_n 0), a3 (.ifCond .ne 7), none, none, a1 (.iconst (-1)), a3 (.goto 32), none, none, a1 (.iload_n 0), a1 (.iconst 3), a3 (.if_icmp .ne 7), none, none, a1 (.iconst 2), a3 (.goto 23), none, none, a1 (.iload_n 0), a1 (.iconst 4), a3 (.if_icmp .ne 7), none, none, a1 (.iconst 3), a3 (.goto 14), none, none, a1 (.iload_n 0), a2 (.bipush 6), none, a3 (.if_icmp .ne 7), none, none],
  [a1 (.iconst 1), a3 (.goto 4), none, none, a1 (.iconst 0), a1 (.ireturn)]]
/-- 149: EnvyRustModel.forge -/
noncomputable def mk_149 : List (List (Option mEnt)) := [[a1 (.aload_n 0), a1 (.iload_n 1), a0 (.invokevirtual 131) 3 262 10 139 2 0, none, none, a3 (.ifCond .eq 13), none, none, a1 (.aload_n 0), a1 (.iload_n 1), a1 (.iload_n 2), a1 (.iload_n 3), a0 (.invokevirtual 146) 3 275 10 150 4 0, none, none, a3 (.ifCond .ne 10), none, none, a1 (.aload_n 0), a0 (.ldc 70) 2 256 2 0 0 (-1000001), none, a0 (.invokevirtual 76) 3 257 10 135 2 0, none, none, a1 (.ireturn), a1 (.iload_n 2), a1 (.iconst 5), a3 (.if_icmp .ne 23), none, none, a1 (.iload_n 3), a3 (.ifCond .lt 19)],
  [none, none, a1 (.aload_n 0), a1 (.iload_n 3), a1 (.iload_n 1), a0 (.invokevirtual 149) 3 279 10 154 3 0, none, none, a3 (.ifCond .eq 10), none, none, a1 (.aload_n 0), a0 (.ldc 152) 2 280 2 0 0 (-1000005), none, a0 (.invokevirtual 76) 3 257 10 135 2 0, none, none, a1 (.ireturn), a1 (.aload_n 0), a1 (.iload_n 1), a1 (.iload_n 2), a0 (.invokestatic 84) 3 260 12 137 2 0, none, none, a1 (.iload_n 3), a0 (.invokevirtual 153) 3 281 10 155 3 0, none, none, a1 (.ireturn)]]
/-- 150: EnvyRustModel.mayForge -/
noncomputable def mk_150 : List (List (Option mEnt)) := [[a1 (.iload_n 2), a0 (.tableswitch 104 0 5 #[39, 46, 51, 56, 61, 80]) 39 0 0 0 0 0, none, none, none, none, none, none, none, none, none, none, none, none, none, none, none, none, none, none, none, none, none, none, none, none, none, none, none, none, none, none],
  [none, none, none, none, none, none, none, none, a1 (.iload_n 3), a1 (.iconst 0), a1 (.iconst 3), a0 (.invokestatic 80) 3 254 12 133 3 0, none, none, a1 (.ireturn), a1 (.iload_n 3), a0 (.invokestatic 91) 3 255 12 134 1 0, none, none, a1 (.ireturn), a1 (.iload_n 3), a0 (.invokestatic 137) 3 276 12 151 1 0, none, none, a1 (.ireturn), a1 (.iload_n 3), a0 (.invokestatic 140) 3 277 12 152 1 0, none, none, a1 (.ireturn), a1 (.iload_n 3), a1 (.iconst (-1))],
  [a3 (.if_icmp .eq 11), none, none, a1 (.aload_n 0), a1 (.iload_n 3), a0 (.invokevirtual 143) 3 278 10 153 2 0, none, none, a3 (.ifCond .eq 7), none, none, a1 (.iconst 1), a3 (.goto 4), none, none, a1 (.iconst 0), a1 (.ireturn), a1 (.iload_n 3), a1 (.iconst (-1)), a3 (.if_icmp .eq 16), none, none, a1 (.aload_n 0), a1 (.iload_n 3), a0 (.invokevirtual 131) 3 262 10 139 2 0, none, none, a3 (.ifCond .eq 12), none, none, a1 (.iload_n 3), a1 (.iload_n 1)],
  [a3 (.if_icmp .eq 7), none, none, a1 (.iconst 1), a3 (.goto 4), none, none, a1 (.iconst 0), a1 (.ireturn), a1 (.iconst 0), a1 (.ireturn)]]
/-- 151: EnvyRustModel.isThick -/
noncomputable def mk_151 : List (List (Option mEnt)) := [[a1 (.iload_n 0), a1 (.iconst 0), a3 (.sipush 999), none, none, a0 (.invokestatic 80) 3 254 12 133 3 0, none, none, a1 (.ireturn)]]
/-- 152: EnvyRustModel.isDigit -/
noncomputable def mk_152 : List (List (Option mEnt)) := [[a1 (.iload_n 0), a1 (.iconst 0), a2 (.bipush 9), none, a0 (.invokestatic 80) 3 254 12 133 3 0, none, none, a1 (.ireturn)]]
/-- 153: EnvyRustModel.isPerson -/
noncomputable def mk_153 : List (List (Option mEnt)) := [[a1 (.iload_n 1), a1 (.iconst 0), a1 (.aload_n 0), a0 (.getfield 9) 3 229 0 4 0 0, none, none, a1 (.iconst 2), a1 (.iaload), a1 (.iconst 1), a1 (.isub), a0 (.invokestatic 80) 3 254 12 133 3 0, none, none, a1 (.ireturn)]]
/-- 154: EnvyRustModel.hangsOn -/
noncomputable def mk_154 : List (List (Option mEnt)) := [[a1 (.iload_n 1), a1 (.istore_n 3), a1 (.iload_n 3), a3 (.ifCond .lt 18), none, none, a1 (.iload_n 3), a1 (.iload_n 2), a3 (.if_icmp .eq 13), none, none, a1 (.aload_n 0), a1 (.iload_n 3), a1 (.iconst 5), a0 (.invokevirtual 103) 3 266 10 143 3 0, none, none, a1 (.istore_n 3), a3 (.goto (-16)), none, none, a1 (.iload_n 3), a3 (.ifCond .lt 7), none, none, a1 (.iconst 1), a3 (.goto 4), none, none, a1 (.iconst 0), a1 (.ireturn)]]
/-- 155: EnvyRustModel.become -/
noncomputable def mk_155 : List (List (Option mEnt)) := [[a1 (.aload_n 0), a0 (.getfield 9) 3 229 0 4 0 0, none, none, a1 (.iload_n 1), a1 (.iaload), a1 (.istore_n 3), a1 (.aload_n 0), a0 (.getfield 9) 3 229 0 4 0 0, none, none, a1 (.iload_n 1), a1 (.iload_n 2), a1 (.iastore), a1 (.iload_n 3), a1 (.ireturn)]]
/-- 156: EnvyRustModel.person -/
noncomputable def mk_156 : List (List (Option mEnt)) := [[a1 (.iload_n 1), a0 (.invokestatic 156) 3 283 12 157 1 0, none, none, a3 (.ifCond .eq 10), none, none, a1 (.iload_n 2), a0 (.invokestatic 91) 3 255 12 134 1 0, none, none, a3 (.ifCond .ne 10), none, none, a1 (.aload_n 0), a0 (.ldc 70) 2 256 2 0 0 (-1000001), none, a0 (.invokevirtual 76) 3 257 10 135 2 0, none, none, a1 (.ireturn), a1 (.aload_n 0), a0 (.getfield 9) 3 229 0 4 0 0, none, none, a1 (.iconst 2), a1 (.iaload), a2 (.bipush 8), none, a3 (.if_icmp .ne 12), none, none],
  [a1 (.aload_n 0), a0 (.ldc 95) 2 258 2 0 0 (-1000002), none, a0 (.invokevirtual 76) 3 257 10 135 2 0, none, none, a3 (.goto 10), none, none, a1 (.aload_n 0), a1 (.iload_n 1), a1 (.iload_n 2), a1 (.iconst 1), a0 (.invokevirtual 159) 3 284 10 158 4 0, none, none, a1 (.ireturn)]]
/-- 157: EnvyRustModel.isKind -/
noncomputable def mk_157 : List (List (Option mEnt)) := [[a1 (.iload_n 0), a1 (.iconst 0), a2 (.bipush 6), none, a0 (.invokestatic 80) 3 254 12 133 3 0, none, none, a1 (.ireturn)]]
/-- 158: EnvyRustModel.joins -/
noncomputable def mk_158 : List (List (Option mEnt)) := [[a1 (.aload_n 0), a0 (.getfield 9) 3 229 0 4 0 0, none, none, a1 (.iconst 2), a1 (.iaload), a2 (.istore 4), none, a1 (.aload_n 0), a0 (.getfield 9) 3 229 0 4 0 0, none, none, a2 (.iload 4), none, a1 (.iconst 0), a0 (.invokestatic 88) 3 265 12 142 2 0, none, none, a1 (.iload_n 1), a1 (.iastore), a1 (.aload_n 0), a0 (.getfield 9) 3 229 0 4 0 0, none, none, a2 (.iload 4), none, a1 (.iconst 1), a0 (.invokestatic 88) 3 265 12 142 2 0, none, none, a1 (.iload_n 2), a1 (.iastore)],
  [a1 (.aload_n 0), a0 (.getfield 9) 3 229 0 4 0 0, none, none, a2 (.iload 4), none, a1 (.iconst 2), a0 (.invokestatic 88) 3 265 12 142 2 0, none, none, a1 (.iload_n 3), a1 (.iastore), a1 (.iconst 0), a2 (.istore 5), none, a2 (.iload 5), none, a1 (.iconst 4), a3 (.if_icmp .ge 24), none, none, a1 (.aload_n 0), a0 (.getfield 9) 3 229 0 4 0 0, none, none, a2 (.iload 4), none, a1 (.iconst 3), a2 (.iload 5), none, a1 (.iadd), a0 (.invokestatic 88) 3 265 12 142 2 0],
  [none, none, a1 (.iconst 1), a1 (.iastore), a3 (.iinc 5 1), none, none, a3 (.goto (-24)), none, none, a1 (.aload_n 0), a0 (.getfield 9) 3 229 0 4 0 0, none, none, a1 (.iconst 2), a1 (.dup2), a1 (.iaload), a1 (.iconst 1), a1 (.iadd), a1 (.iastore), a2 (.iload 4), none, a1 (.ireturn)]]
/-- 159: EnvyRustModel.of -/
noncomputable def mk_159 : List (List (Option mEnt)) := [[a1 (.aload_n 0), a1 (.iload_n 1), a0 (.invokevirtual 143) 3 278 10 153 2 0, none, none, a3 (.ifCond .eq 13), none, none, a1 (.iload_n 2), a1 (.iconst 0), a2 (.bipush 7), none, a0 (.invokestatic 80) 3 254 12 133 3 0, none, none, a3 (.ifCond .ne 10), none, none, a1 (.aload_n 0), a0 (.ldc 70) 2 256 2 0 0 (-1000001), none, a0 (.invokevirtual 76) 3 257 10 135 2 0, none, none, a1 (.ireturn), a1 (.iload_n 2), a2 (.bipush 7), none, a3 (.if_icmp .ne 11), none, none, a1 (.aload_n 0)],
  [a1 (.iload_n 1), a0 (.invokevirtual 162) 3 286 10 160 2 0, none, none, a3 (.goto 9), none, none, a1 (.aload_n 0), a1 (.iload_n 1), a1 (.iload_n 2), a0 (.invokevirtual 109) 3 264 10 141 3 0, none, none, a1 (.ireturn)]]
/-- 160: EnvyRustModel.ownedBy -/
noncomputable def mk_160 : List (List (Option mEnt)) := [[a1 (.iconst 0), a1 (.istore_n 2), a1 (.iconst 0), a1 (.istore_n 3), a1 (.iload_n 3), a1 (.aload_n 0), a0 (.getfield 9) 3 229 0 4 0 0, none, none, a1 (.iconst 1), a1 (.iaload), a3 (.if_icmp .ge 29), none, none, a1 (.iload_n 2), a1 (.aload_n 0), a1 (.iload_n 3), a1 (.iconst 4), a0 (.invokevirtual 103) 3 266 10 143 3 0, none, none, a1 (.iload_n 1), a3 (.if_icmp .ne 9), none, none, a1 (.iconst 1), a1 (.iload_n 3), a1 (.ishl), a3 (.goto 4), none, none, a1 (.iconst 0)],
  [a1 (.ior), a1 (.istore_n 2), a3 (.iinc 3 1), none, none, a3 (.goto (-33)), none, none, a1 (.iload_n 2), a1 (.ireturn)]]
/-- 161: EnvyRustModel.change -/
noncomputable def mk_161 : List (List (Option mEnt)) := [[a1 (.iload_n 2), a3 (.ifCond .ne 10), none, none, a1 (.iload_n 3), a0 (.invokestatic 156) 3 283 12 157 1 0, none, none, a3 (.goto 42), none, none, a1 (.iload_n 2), a1 (.iconst 1), a3 (.if_icmp .eq 8), none, none, a1 (.iload_n 2), a1 (.iconst 2), a3 (.if_icmp .ne 10), none, none, a1 (.iload_n 3), a0 (.invokestatic 91) 3 255 12 134 1 0, none, none, a3 (.goto 25), none, none, a1 (.iload_n 2), a1 (.iconst 3), a2 (.bipush 6), none],
  [a0 (.invokestatic 80) 3 254 12 133 3 0, none, none, a3 (.ifCond .eq 14), none, none, a1 (.iload_n 3), a0 (.invokestatic 140) 3 277 12 152 1 0, none, none, a3 (.ifCond .eq 7), none, none, a1 (.iconst 1), a3 (.goto 4), none, none, a1 (.iconst 0), a2 (.istore 4), none, a1 (.aload_n 0), a1 (.iload_n 1), a0 (.invokevirtual 143) 3 278 10 153 2 0, none, none, a3 (.ifCond .eq 21), none, none, a2 (.iload 4), none, a3 (.ifCond .eq 16), none],
  [none, a1 (.aload_n 0), a1 (.iload_n 1), a1 (.iload_n 2), a0 (.invokestatic 88) 3 265 12 142 2 0, none, none, a1 (.iload_n 3), a0 (.invokevirtual 153) 3 281 10 155 3 0, none, none, a3 (.goto 9), none, none, a1 (.aload_n 0), a0 (.ldc 70) 2 256 2 0 0 (-1000001), none, a0 (.invokevirtual 76) 3 257 10 135 2 0, none, none, a1 (.ireturn)]]
/-- 162: EnvyRustModel.envy -/
noncomputable def mk_162 : List (List (Option mEnt)) := [[a1 (.aload_n 0), a1 (.iload_n 1), a0 (.invokevirtual 143) 3 278 10 153 2 0, none, none, a3 (.ifCond .eq 20), none, none, a1 (.aload_n 0), a1 (.iload_n 2), a0 (.invokevirtual 131) 3 262 10 139 2 0, none, none, a3 (.ifCond .eq 12), none, none, a1 (.aload_n 0), a1 (.iload_n 1), a1 (.iload_n 2), a0 (.invokevirtual 125) 3 267 10 144 3 0, none, none, a3 (.goto 9), none, none, a1 (.aload_n 0), a0 (.ldc 70) 2 256 2 0 0 (-1000001), none, a0 (.invokevirtual 76) 3 257 10 135 2 0, none, none, a1 (.ireturn)]]
/-- 163: EnvyRustModel.go -/
noncomputable def mk_163 : List (List (Option mEnt)) := [[a1 (.iload_n 1), a1 (.iconst 1), a2 (.bipush 60), none, a0 (.invokestatic 80) 3 254 12 133 3 0, none, none, a3 (.ifCond .ne 10), none, none, a1 (.aload_n 0), a0 (.ldc 70) 2 256 2 0 0 (-1000001), none, a0 (.invokevirtual 76) 3 257 10 135 2 0, none, none, a1 (.ireturn), a1 (.aload_n 0), a0 (.getfield 9) 3 229 0 4 0 0, none, none, a1 (.iconst 0), a1 (.iaload), a1 (.iload_n 1), a1 (.iadd), a0 (.ldc 172) 2 290 2 0 0 99999, none, a3 (.if_icmp .le 10), none, none, a1 (.aload_n 0), a0 (.ldc 152) 2 280 2 0 0 (-1000005)],
  [none, a0 (.invokevirtual 76) 3 257 10 135 2 0, none, none, a1 (.ireturn), a1 (.aload_n 0), a1 (.iload_n 1), a0 (.invokevirtual 173) 3 291 10 164 2 0, none, none, a1 (.aload_n 0), a0 (.invokevirtual 177) 3 294 10 167 1 0, none, none, a0 (.invokestatic 181) 3 295 12 168 1 0, none, none, a1 (.ireturn)]]
/-- 164: EnvyRustModel.days -/
noncomputable def mk_164 : List (List (Option mEnt)) := [[a1 (.iconst 0), a1 (.istore_n 2), a1 (.iload_n 2), a1 (.iload_n 1), a3 (.if_icmp .ge 13), none, none, a1 (.aload_n 0), a0 (.invokevirtual 169) 3 292 10 165 1 0, none, none, a3 (.iinc 2 1), none, none, a3 (.goto (-12)), none, none, a1 (.return_)]]
/-- 165: EnvyRustModel.day -/
noncomputable def mk_165 : List (List (Option mEnt)) := [[a1 (.iconst 0), a1 (.istore_n 1), a1 (.iload_n 1), a1 (.aload_n 0), a0 (.getfield 9) 3 229 0 4 0 0, none, none, a1 (.iconst 1), a1 (.iaload), a3 (.if_icmp .ge 20), none, none, a1 (.aload_n 0), a0 (.getfield 22) 3 234 0 4 5 0, none, none, a1 (.iload_n 1), a1 (.aload_n 0), a1 (.iload_n 1), a0 (.invokevirtual 134) 3 263 10 140 2 0, none, none, a1 (.iastore), a3 (.iinc 1 1), none, none, a3 (.goto (-24)), none, none, a1 (.iconst 0), a1 (.istore_n 1), a1 (.iload_n 1)],
  [a1 (.aload_n 0), a0 (.getfield 9) 3 229 0 4 0 0, none, none, a1 (.iconst 1), a1 (.iaload), a3 (.if_icmp .ge 28), none, none, a1 (.aload_n 0), a0 (.getfield 9) 3 229 0 4 0 0, none, none, a1 (.iload_n 1), a1 (.iconst 2), a0 (.invokestatic 84) 3 260 12 137 2 0, none, none, a1 (.dup2), a1 (.iaload), a1 (.aload_n 0), a0 (.getfield 22) 3 234 0 4 5 0, none, none, a1 (.iload_n 1), a1 (.iaload), a1 (.isub), a1 (.iastore), a3 (.iinc 1 1), none, none, a3 (.goto (-32))],
  [none, none, a1 (.iconst 1), a1 (.istore_n 1), a1 (.iload_n 1), a3 (.ifCond .eq 11), none, none, a1 (.aload_n 0), a0 (.invokevirtual 165) 3 293 10 166 1 0, none, none, a1 (.istore_n 1), a3 (.goto (-9)), none, none, a1 (.iconst 0), a1 (.istore_n 2), a1 (.iload_n 2), a1 (.aload_n 0), a0 (.getfield 9) 3 229 0 4 0 0, none, none, a1 (.iconst 2), a1 (.iaload), a3 (.if_icmp .ge 35), none, none, a1 (.aload_n 0), a0 (.getfield 9) 3 229 0 4 0 0, none, none],
  [a1 (.iload_n 2), a1 (.iconst 1), a0 (.invokestatic 88) 3 265 12 142 2 0, none, none, a1 (.aload_n 0), a1 (.iload_n 2), a1 (.iconst 1), a0 (.invokevirtual 109) 3 264 10 141 3 0, none, none, a1 (.aload_n 0), a1 (.iload_n 2), a1 (.iconst 2), a0 (.invokevirtual 109) 3 264 10 141 3 0, none, none, a1 (.iadd), a2 (.bipush 16), none, a1 (.irem), a1 (.iastore), a3 (.iinc 2 1), none, none, a3 (.goto (-39)), none, none, a1 (.aload_n 0), a0 (.getfield 9) 3 229 0 4 0 0, none, none],
  [a1 (.iconst 0), a1 (.dup2), a1 (.iaload), a1 (.iconst 1), a1 (.iadd), a1 (.iastore), a1 (.return_)]]
/-- 166: EnvyRustModel.falls -/
noncomputable def mk_166 : List (List (Option mEnt)) := [[a1 (.iconst 0), a1 (.istore_n 1), a1 (.iconst 0), a1 (.istore_n 2), a1 (.iload_n 2), a1 (.aload_n 0), a0 (.getfield 9) 3 229 0 4 0 0, none, none, a1 (.iconst 1), a1 (.iaload), a3 (.if_icmp .ge 52), none, none, a1 (.aload_n 0), a1 (.iload_n 2), a0 (.invokevirtual 106) 3 269 10 146 2 0, none, none, a3 (.ifCond .ne 38), none, none, a1 (.aload_n 0), a1 (.iload_n 2), a1 (.iconst 5), a0 (.invokevirtual 103) 3 266 10 143 3 0, none, none, a3 (.ifCond .lt 29), none, none, a1 (.aload_n 0)],
  [a1 (.aload_n 0), a1 (.iload_n 2), a1 (.iconst 5), a0 (.invokevirtual 103) 3 266 10 143 3 0, none, none, a0 (.invokevirtual 106) 3 269 10 146 2 0, none, none, a3 (.ifCond .eq 16), none, none, a1 (.aload_n 0), a0 (.getfield 9) 3 229 0 4 0 0, none, none, a1 (.iload_n 2), a1 (.iconst 2), a0 (.invokestatic 84) 3 260 12 137 2 0, none, none, a1 (.iconst 0), a1 (.iastore), a1 (.iconst 1), a1 (.istore_n 1), a3 (.iinc 2 1), none, none, a3 (.goto (-56)), none, none, a1 (.iload_n 1)],
  [a1 (.ireturn)]]
/-- 167: EnvyRustModel.goneNow -/
noncomputable def mk_167 : List (List (Option mEnt)) := [[a1 (.iconst 0), a1 (.istore_n 1), a1 (.iconst 0), a1 (.istore_n 2), a1 (.iload_n 2), a1 (.aload_n 0), a0 (.getfield 9) 3 229 0 4 0 0, none, none, a1 (.iconst 1), a1 (.iaload), a3 (.if_icmp .ge 27), none, none, a1 (.iload_n 1), a1 (.aload_n 0), a1 (.iload_n 2), a0 (.invokevirtual 106) 3 269 10 146 2 0, none, none, a3 (.ifCond .eq 9), none, none, a1 (.iconst 1), a1 (.iload_n 2), a1 (.ishl), a3 (.goto 4), none, none, a1 (.iconst 0), a1 (.ior), a1 (.istore_n 1)],
  [a3 (.iinc 2 1), none, none, a3 (.goto (-31)), none, none, a1 (.iload_n 1), a1 (.ireturn)]]
/-- 168: EnvyRustModel.bits -/
noncomputable def mk_168 : List (List (Option mEnt)) := [[a1 (.iconst 0), a1 (.istore_n 1), a1 (.iload_n 0), a1 (.istore_n 2), a1 (.iload_n 2), a3 (.ifCond .eq 15), none, none, a3 (.iinc 1 1), none, none, a1 (.iload_n 2), a1 (.iload_n 2), a1 (.iconst 1), a1 (.isub), a1 (.iand), a1 (.istore_n 2), a3 (.goto (-13)), none, none, a1 (.iload_n 1), a1 (.ireturn)]]
/-- 169: EnvyRustModel.now -/
noncomputable def mk_169 : List (List (Option mEnt)) := [[a1 (.iconst 0), a1 (.istore_n 2), a1 (.iload_n 1), a0 (.tableswitch 121 0 4 #[33, 40, 45, 50, 78]) 33 0 0 0 0 0, none, none, none, none, none, none, none, none, none, none, none, none, none, none, none, none, none, none, none, none, none, none, none, none, none, none, none, none],
  [none, none, none, none, a1 (.aload_n 0), a0 (.getfield 9) 3 229 0 4 0 0, none, none, a1 (.iconst 0), a1 (.iaload), a1 (.ireturn), a1 (.aload_n 0), a0 (.invokevirtual 177) 3 294 10 167 1 0, none, none, a1 (.ireturn), a1 (.aload_n 0), a0 (.invokevirtual 184) 3 297 10 170 1 0, none, none, a1 (.ireturn), a1 (.iconst 0), a1 (.istore_n 3), a1 (.iload_n 3), a1 (.aload_n 0), a0 (.getfield 9) 3 229 0 4 0 0, none, none, a1 (.iconst 1), a1 (.iaload), a3 (.if_icmp .ge 17), none],
  [none, a1 (.iload_n 2), a1 (.aload_n 0), a1 (.iload_n 3), a0 (.invokevirtual 134) 3 263 10 140 2 0, none, none, a1 (.iadd), a1 (.istore_n 2), a3 (.iinc 3 1), none, none, a3 (.goto (-21)), none, none, a1 (.iload_n 2), a1 (.ireturn), a1 (.iconst 0), a1 (.istore_n 3), a1 (.iload_n 3), a1 (.aload_n 0), a0 (.getfield 9) 3 229 0 4 0 0, none, none, a1 (.iconst 1), a1 (.iaload), a3 (.if_icmp .ge 32), none, none, a1 (.iload_n 2), a1 (.aload_n 0), a1 (.aload_n 0)],
  [a1 (.iload_n 3), a1 (.iconst 1), a0 (.invokevirtual 103) 3 266 10 143 3 0, none, none, a0 (.invokevirtual 187) 3 298 10 171 2 0, none, none, a3 (.ifCond .eq 9), none, none, a1 (.iconst 1), a1 (.iload_n 3), a1 (.ishl), a3 (.goto 4), none, none, a1 (.iconst 0), a1 (.ior), a1 (.istore_n 2), a3 (.iinc 3 1), none, none, a3 (.goto (-36)), none, none, a1 (.iload_n 2), a1 (.ireturn), a1 (.aload_n 0), a0 (.ldc 70) 2 256 2 0 0 (-1000001), none, a0 (.invokevirtual 76) 3 257 10 135 2 0],
  [none, none, a1 (.ireturn)]]
/-- 170: EnvyRustModel.thickNow -/
noncomputable def mk_170 : List (List (Option mEnt)) := [[a1 (.iconst 0), a1 (.istore_n 1), a1 (.iconst 0), a1 (.istore_n 2), a1 (.iload_n 2), a1 (.aload_n 0), a0 (.getfield 9) 3 229 0 4 0 0, none, none, a1 (.iconst 1), a1 (.iaload), a3 (.if_icmp .ge 18), none, none, a1 (.iload_n 1), a1 (.aload_n 0), a1 (.iload_n 2), a1 (.iconst 2), a0 (.invokevirtual 103) 3 266 10 143 3 0, none, none, a1 (.iadd), a1 (.istore_n 1), a3 (.iinc 2 1), none, none, a3 (.goto (-22)), none, none, a1 (.iload_n 1), a1 (.ireturn)]]
/-- 171: EnvyRustModel.isSomebodyAt -/
noncomputable def mk_171 : List (List (Option mEnt)) := [[a1 (.iconst 0), a1 (.istore_n 2), a1 (.iconst 0), a1 (.istore_n 3), a1 (.iload_n 3), a1 (.aload_n 0), a0 (.getfield 9) 3 229 0 4 0 0, none, none, a1 (.iconst 2), a1 (.iaload), a3 (.if_icmp .ge 29), none, none, a1 (.iload_n 2), a3 (.ifCond .ne 13), none, none, a1 (.aload_n 0), a1 (.iload_n 3), a1 (.iconst 1), a0 (.invokevirtual 109) 3 264 10 141 3 0, none, none, a1 (.iload_n 1), a3 (.if_icmp .ne 7), none, none, a1 (.iconst 1), a3 (.goto 4), none, none],
  [a1 (.iconst 0), a1 (.istore_n 2), a3 (.iinc 3 1), none, none, a3 (.goto (-33)), none, none, a1 (.iload_n 2), a1 (.ireturn)]]
/-- 172: EnvyRustModel.ahead -/
noncomputable def mk_172 : List (List (Option mEnt)) := [[a1 (.aload_n 0), a1 (.iload_n 1), a0 (.invokevirtual 131) 3 262 10 139 2 0, none, none, a3 (.ifCond .eq 22), none, none, a1 (.iload_n 2), a1 (.iconst 0), a2 (.bipush 100), none, a0 (.invokestatic 80) 3 254 12 133 3 0, none, none, a3 (.ifCond .eq 12), none, none, a1 (.aload_n 0), a1 (.iload_n 1), a1 (.iload_n 2), a0 (.invokevirtual 193) 3 300 10 173 3 0, none, none, a3 (.goto 9), none, none, a1 (.aload_n 0), a0 (.ldc 70) 2 256 2 0 0 (-1000001), none, a0 (.invokevirtual 76) 3 257 10 135 2 0, none],
  [none, a1 (.ireturn)]]
/-- 173: EnvyRustModel.thickBehind -/
noncomputable def mk_173 : List (List (Option mEnt)) := [[a1 (.aload_n 0), a0 (.getfield 9) 3 229 0 4 0 0, none, none, a1 (.aload_n 0), a0 (.getfield 16) 3 231 0 4 2 0, none, none, a0 (.invokestatic 71) 3 301 12 174 2 0, none, none, a1 (.aload_n 0), a1 (.iload_n 2), a0 (.invokevirtual 173) 3 291 10 164 2 0, none, none, a1 (.aload_n 0), a1 (.aload_n 0), a1 (.iload_n 1), a1 (.iconst 2), a0 (.invokevirtual 103) 3 266 10 143 3 0, none, none, a0 (.invokevirtual 190) 3 302 10 175 2 0, none, none, a1 (.ireturn)]]
/-- 174: EnvyRustModel.copyRow -/
noncomputable def mk_174 : List (List (Option mEnt)) := [[a1 (.iconst 0), a1 (.istore_n 2), a1 (.iload_n 2), a2 (.bipush 118), none, a3 (.if_icmp .ge 15), none, none, a1 (.aload_n 1), a1 (.iload_n 2), a1 (.aload_n 0), a1 (.iload_n 2), a1 (.iaload), a1 (.iastore), a3 (.iinc 2 1), none, none, a3 (.goto (-15)), none, none, a1 (.return_)]]
/-- 175: EnvyRustModel.putBack -/
noncomputable def mk_175 : List (List (Option mEnt)) := [[a1 (.aload_n 0), a0 (.getfield 16) 3 231 0 4 2 0, none, none, a1 (.aload_n 0), a0 (.getfield 9) 3 229 0 4 0 0, none, none, a0 (.invokestatic 71) 3 301 12 174 2 0, none, none, a1 (.iload_n 1), a1 (.ireturn)]]
/-- 176: EnvyRustModel.lasts -/
noncomputable def mk_176 : List (List (Option mEnt)) := [[a1 (.aload_n 0), a1 (.iload_n 1), a0 (.invokevirtual 131) 3 262 10 139 2 0, none, none, a3 (.ifCond .ne 10), none, none, a1 (.aload_n 0), a0 (.ldc 70) 2 256 2 0 0 (-1000001), none, a0 (.invokevirtual 76) 3 257 10 135 2 0, none, none, a1 (.ireturn), a1 (.aload_n 0), a0 (.getfield 9) 3 229 0 4 0 0, none, none, a1 (.aload_n 0), a0 (.getfield 16) 3 231 0 4 2 0, none, none, a0 (.invokestatic 71) 3 301 12 174 2 0, none, none, a1 (.iconst 0), a1 (.istore_n 2), a1 (.iload_n 2), a2 (.bipush 100), none, a3 (.if_icmp .ge 21)],
  [none, none, a1 (.aload_n 0), a1 (.iload_n 1), a0 (.invokevirtual 106) 3 269 10 146 2 0, none, none, a3 (.ifCond .ne 13), none, none, a1 (.aload_n 0), a0 (.invokevirtual 169) 3 292 10 165 1 0, none, none, a3 (.iinc 2 1), none, none, a3 (.goto (-21)), none, none, a1 (.aload_n 0), a1 (.aload_n 0), a1 (.aload_n 0), a1 (.iload_n 1), a0 (.invokevirtual 106) 3 269 10 146 2 0, none, none, a3 (.ifCond .eq 7), none, none, a1 (.iload_n 2), a3 (.goto 4)],
  [none, none, a1 (.iconst (-1)), a0 (.invokevirtual 190) 3 302 10 175 2 0, none, none, a0 (.invokevirtual 196) 3 304 10 177 2 0, none, none, a1 (.ireturn)]]
/-- 177: EnvyRustModel.orNone -/
noncomputable def mk_177 : List (List (Option mEnt)) := [[a1 (.iload_n 1), a3 (.ifCond .ge 12), none, none, a1 (.aload_n 0), a0 (.ldc 75) 2 305 2 0 0 (-1000004), none, a0 (.invokevirtual 76) 3 257 10 135 2 0, none, none, a3 (.goto 4), none, none, a1 (.iload_n 1), a1 (.ireturn)]]
/-- 178: EnvyRustModel.gone -/
noncomputable def mk_178 : List (List (Option mEnt)) := [[a1 (.iload_n 1), a1 (.iconst 0), a2 (.bipush 100), none, a0 (.invokestatic 80) 3 254 12 133 3 0, none, none, a3 (.ifCond .ne 10), none, none, a1 (.aload_n 0), a0 (.ldc 70) 2 256 2 0 0 (-1000001), none, a0 (.invokevirtual 76) 3 257 10 135 2 0, none, none, a1 (.ireturn), a1 (.aload_n 0), a0 (.getfield 9) 3 229 0 4 0 0, none, none, a1 (.aload_n 0), a0 (.getfield 16) 3 231 0 4 2 0, none, none, a0 (.invokestatic 71) 3 301 12 174 2 0, none, none, a1 (.aload_n 0), a1 (.iload_n 1), a0 (.invokevirtual 173) 3 291 10 164 2 0, none],
  [none, a1 (.aload_n 0), a1 (.aload_n 0), a0 (.invokevirtual 177) 3 294 10 167 1 0, none, none, a0 (.invokevirtual 190) 3 302 10 175 2 0, none, none, a1 (.ireturn)]]
/-- 179: EnvyRustModel.worn -/
noncomputable def mk_179 : List (List (Option mEnt)) := [[a1 (.iload_n 1), a1 (.iconst 0), a2 (.bipush 100), none, a0 (.invokestatic 80) 3 254 12 133 3 0, none, none, a3 (.ifCond .eq 11), none, none, a1 (.aload_n 0), a1 (.iload_n 1), a0 (.invokevirtual 199) 3 308 10 180 2 0, none, none, a3 (.goto 9), none, none, a1 (.aload_n 0), a0 (.ldc 70) 2 256 2 0 0 (-1000001), none, a0 (.invokevirtual 76) 3 257 10 135 2 0, none, none, a1 (.ireturn)]]
/-- 180: EnvyRustModel.lostIn -/
noncomputable def mk_180 : List (List (Option mEnt)) := [[a1 (.aload_n 0), a0 (.invokevirtual 184) 3 297 10 170 1 0, none, none, a1 (.istore_n 2), a1 (.aload_n 0), a0 (.getfield 9) 3 229 0 4 0 0, none, none, a1 (.aload_n 0), a0 (.getfield 16) 3 231 0 4 2 0, none, none, a0 (.invokestatic 71) 3 301 12 174 2 0, none, none, a1 (.aload_n 0), a1 (.iload_n 1), a0 (.invokevirtual 173) 3 291 10 164 2 0, none, none, a1 (.aload_n 0), a1 (.iload_n 2), a1 (.aload_n 0), a0 (.invokevirtual 184) 3 297 10 170 1 0, none, none, a1 (.isub), a0 (.invokevirtual 190) 3 302 10 175 2 0, none, none, a1 (.ireturn)]]
/-- 181: EnvyRustModel.sees -/
noncomputable def mk_181 : List (List (Option mEnt)) := [[a1 (.aload_n 0), a1 (.iload_n 1), a0 (.invokevirtual 143) 3 278 10 153 2 0, none, none, a3 (.ifCond .eq 11), none, none, a1 (.aload_n 0), a1 (.iload_n 2), a0 (.invokevirtual 131) 3 262 10 139 2 0, none, none, a3 (.ifCond .ne 10), none, none, a1 (.aload_n 0), a0 (.ldc 70) 2 256 2 0 0 (-1000001), none, a0 (.invokevirtual 76) 3 257 10 135 2 0, none, none, a1 (.ireturn), a1 (.aload_n 0), a1 (.iload_n 1), a1 (.iconst 1), a0 (.invokevirtual 109) 3 264 10 141 3 0, none, none, a1 (.istore_n 3), a1 (.iconst 0), a2 (.istore 4)],
  [none, a2 (.iload 4), none, a2 (.bipush 16), none, a3 (.if_icmp .ge 31), none, none, a1 (.iload_n 3), a1 (.aload_n 0), a1 (.iload_n 2), a1 (.iconst 1), a0 (.invokevirtual 103) 3 266 10 143 3 0, none, none, a3 (.if_icmp .eq 21), none, none, a1 (.iload_n 3), a1 (.aload_n 0), a1 (.iload_n 1), a1 (.iconst 2), a0 (.invokevirtual 109) 3 264 10 141 3 0, none, none, a1 (.iadd), a2 (.bipush 16), none, a1 (.irem), a1 (.istore_n 3), a3 (.iinc 4 1), none],
  [none, a3 (.goto (-32)), none, none, a2 (.iload 4), none, a2 (.bipush 16), none, a3 (.if_icmp .ge 8), none, none, a2 (.iload 4), none, a3 (.goto 9), none, none, a1 (.aload_n 0), a0 (.ldc 75) 2 305 2 0 0 (-1000004), none, a0 (.invokevirtual 76) 3 257 10 135 2 0, none, none, a1 (.ireturn)]]
/-- 182: EnvyRustModel.kindFor -/
noncomputable def mk_182 : List (List (Option mEnt)) := [[a1 (.aload_n 0), a1 (.iload_n 1), a0 (.invokevirtual 143) 3 278 10 153 2 0, none, none, a3 (.ifCond .eq 28), none, none, a1 (.iload_n 2), a1 (.iconst 0), a2 (.bipush 60), none, a0 (.invokestatic 80) 3 254 12 133 3 0, none, none, a3 (.ifCond .eq 18), none, none, a1 (.aload_n 0), a1 (.iload_n 1), a1 (.iconst 0), a0 (.invokestatic 88) 3 265 12 142 2 0, none, none, a2 (.bipush 7), none, a1 (.iload_n 2), a0 (.invokevirtual 205) 3 311 10 183 4 0, none, none, a3 (.goto 9), none],
  [none, a1 (.aload_n 0), a0 (.ldc 70) 2 256 2 0 0 (-1000001), none, a0 (.invokevirtual 76) 3 257 10 135 2 0, none, none, a1 (.ireturn)]]
/-- 183: EnvyRustModel.leastLoss -/
noncomputable def mk_183 : List (List (Option mEnt)) := [[a1 (.aload_n 0), a0 (.getfield 9) 3 229 0 4 0 0, none, none, a1 (.iload_n 1), a1 (.iaload), a2 (.istore 4), none, a1 (.iconst 0), a2 (.istore 5), none, a0 (.ldc 204) 2 312 2 0 0 2147483647, none, a2 (.istore 6), none, a1 (.iconst 0), a2 (.istore 7), none, a2 (.iload 7), none, a1 (.iload_n 2), a3 (.if_icmp .ge 49), none, none, a1 (.aload_n 0), a0 (.getfield 9) 3 229 0 4 0 0, none, none, a1 (.iload_n 1), a2 (.iload 7), none, a1 (.iastore)],
  [a1 (.aload_n 0), a1 (.iload_n 3), a0 (.invokevirtual 199) 3 308 10 180 2 0, none, none, a2 (.istore 8), none, a2 (.iload 8), none, a2 (.iload 6), none, a3 (.if_icmp .ge 8), none, none, a2 (.iload 7), none, a3 (.goto 5), none, none, a2 (.iload 5), none, a2 (.istore 5), none, a2 (.iload 6), none, a2 (.iload 8), none, a0 (.invokestatic 128) 3 273 25 0 0 0, none, none, a2 (.istore 6), none],
  [a3 (.iinc 7 1), none, none, a3 (.goto (-49)), none, none, a1 (.aload_n 0), a0 (.getfield 9) 3 229 0 4 0 0, none, none, a1 (.iload_n 1), a2 (.iload 4), none, a1 (.iastore), a2 (.iload 5), none, a1 (.ireturn)]]
/-- 184: EnvyRustModel.walkFor -/
noncomputable def mk_184 : List (List (Option mEnt)) := [[a1 (.aload_n 0), a1 (.iload_n 1), a0 (.invokevirtual 143) 3 278 10 153 2 0, none, none, a3 (.ifCond .eq 28), none, none, a1 (.iload_n 2), a1 (.iconst 0), a2 (.bipush 60), none, a0 (.invokestatic 80) 3 254 12 133 3 0, none, none, a3 (.ifCond .eq 18), none, none, a1 (.aload_n 0), a1 (.iload_n 1), a1 (.iconst 2), a0 (.invokestatic 88) 3 265 12 142 2 0, none, none, a2 (.bipush 16), none, a1 (.iload_n 2), a0 (.invokevirtual 205) 3 311 10 183 4 0, none, none, a3 (.goto 9), none],
  [none, a1 (.aload_n 0), a0 (.ldc 70) 2 256 2 0 0 (-1000001), none, a0 (.invokevirtual 76) 3 257 10 135 2 0, none, none, a1 (.ireturn)]]
/-- 185: EnvyRustModel.placeFor -/
noncomputable def mk_185 : List (List (Option mEnt)) := [[a1 (.aload_n 0), a1 (.iload_n 1), a0 (.invokevirtual 131) 3 262 10 139 2 0, none, none, a3 (.ifCond .eq 29), none, none, a1 (.iload_n 2), a1 (.iconst 0), a2 (.bipush 60), none, a0 (.invokestatic 80) 3 254 12 133 3 0, none, none, a3 (.ifCond .eq 19), none, none, a1 (.aload_n 0), a1 (.iload_n 1), a1 (.iload_n 1), a1 (.iconst 1), a0 (.invokestatic 84) 3 260 12 137 2 0, none, none, a2 (.bipush 16), none, a1 (.iload_n 2), a0 (.invokevirtual 208) 3 315 10 186 5 0, none, none, a3 (.goto 9)],
  [none, none, a1 (.aload_n 0), a0 (.ldc 70) 2 256 2 0 0 (-1000001), none, a0 (.invokevirtual 76) 3 257 10 135 2 0, none, none, a1 (.ireturn)]]
/-- 186: EnvyRustModel.thickest -/
noncomputable def mk_186 : List (List (Option mEnt)) := [[a1 (.aload_n 0), a0 (.getfield 9) 3 229 0 4 0 0, none, none, a1 (.iload_n 2), a1 (.iaload), a2 (.istore 5), none, a1 (.iconst (-1)), a2 (.istore 6), none, a1 (.iconst (-1)), a2 (.istore 7), none, a1 (.iconst 0), a2 (.istore 8), none, a2 (.iload 8), none, a1 (.iload_n 3), a3 (.if_icmp .ge 51), none, none, a1 (.aload_n 0), a0 (.getfield 9) 3 229 0 4 0 0, none, none, a1 (.iload_n 2), a2 (.iload 8), none, a1 (.iastore), a1 (.aload_n 0)],
  [a1 (.iload_n 1), a2 (.iload 4), none, a0 (.invokevirtual 193) 3 300 10 173 3 0, none, none, a2 (.istore 9), none, a2 (.iload 9), none, a2 (.iload 7), none, a3 (.if_icmp .le 8), none, none, a2 (.iload 8), none, a3 (.goto 5), none, none, a2 (.iload 6), none, a2 (.istore 6), none, a2 (.iload 7), none, a2 (.iload 9), none, a0 (.invokestatic 116) 3 272 24 0 0 0, none, none, a2 (.istore 7)],
  [none, a3 (.iinc 8 1), none, none, a3 (.goto (-51)), none, none, a1 (.aload_n 0), a0 (.getfield 9) 3 229 0 4 0 0, none, none, a1 (.iload_n 2), a2 (.iload 5), none, a1 (.iastore), a2 (.iload 6), none, a1 (.ireturn)]]
/-- 187: EnvyRustModel.ownerFor -/
noncomputable def mk_187 : List (List (Option mEnt)) := [[a1 (.aload_n 0), a1 (.iload_n 1), a0 (.invokevirtual 131) 3 262 10 139 2 0, none, none, a3 (.ifCond .eq 37), none, none, a1 (.iload_n 2), a1 (.iconst 0), a2 (.bipush 60), none, a0 (.invokestatic 80) 3 254 12 133 3 0, none, none, a3 (.ifCond .eq 27), none, none, a1 (.aload_n 0), a1 (.aload_n 0), a1 (.iload_n 1), a1 (.iload_n 1), a1 (.iconst 4), a0 (.invokestatic 84) 3 260 12 137 2 0, none, none, a1 (.aload_n 0), a0 (.getfield 9) 3 229 0 4 0 0, none, none, a1 (.iconst 2), a1 (.iaload)],
  [a1 (.iload_n 2), a0 (.invokevirtual 208) 3 315 10 186 5 0, none, none, a0 (.invokevirtual 196) 3 304 10 177 2 0, none, none, a3 (.goto 9), none, none, a1 (.aload_n 0), a0 (.ldc 70) 2 256 2 0 0 (-1000001), none, a0 (.invokevirtual 76) 3 257 10 135 2 0, none, none, a1 (.ireturn)]]
/-- 188: EnvyRustModel.worst -/
noncomputable def mk_188 : List (List (Option mEnt)) := [[a1 (.iload_n 1), a1 (.iconst 0), a2 (.bipush 60), none, a0 (.invokestatic 80) 3 254 12 133 3 0, none, none, a3 (.ifCond .ne 10), none, none, a1 (.aload_n 0), a0 (.ldc 70) 2 256 2 0 0 (-1000001), none, a0 (.invokevirtual 76) 3 257 10 135 2 0, none, none, a1 (.ireturn), a1 (.iconst (-1)), a1 (.istore_n 2), a0 (.ldc 204) 2 312 2 0 0 2147483647, none, a1 (.istore_n 3), a1 (.iconst 0), a2 (.istore 4), none, a2 (.iload 4), none, a1 (.aload_n 0), a0 (.getfield 9) 3 229 0 4 0 0, none, none, a1 (.iconst 2)],
  [a1 (.iaload), a3 (.if_icmp .ge 42), none, none, a1 (.aload_n 0), a2 (.iload 4), none, a0 (.putfield 25) 3 235 0 4 6 0, none, none, a1 (.aload_n 0), a1 (.iload_n 1), a0 (.invokevirtual 199) 3 308 10 180 2 0, none, none, a2 (.istore 5), none, a2 (.iload 5), none, a1 (.iload_n 3), a3 (.if_icmp .ge 8), none, none, a2 (.iload 4), none, a3 (.goto 4), none, none, a1 (.iload_n 2), a1 (.istore_n 2), a1 (.iload_n 3), a2 (.iload 5)],
  [none, a0 (.invokestatic 128) 3 273 25 0 0 0, none, none, a1 (.istore_n 3), a3 (.iinc 4 1), none, none, a3 (.goto (-47)), none, none, a1 (.aload_n 0), a1 (.iconst (-1)), a0 (.putfield 25) 3 235 0 4 6 0, none, none, a1 (.aload_n 0), a1 (.iload_n 2), a0 (.invokevirtual 196) 3 304 10 177 2 0, none, none, a1 (.ireturn)]]
/-- 189: EnvyRustModel.paint -/
noncomputable def mk_189 : List (List (Option mEnt)) := [[a1 (.iload_n 1), a1 (.iconst 0), a2 (.bipush 8), none, a0 (.invokestatic 80) 3 254 12 133 3 0, none, none, a3 (.ifCond .eq 13), none, none, a1 (.iload_n 2), a1 (.iconst 0), a2 (.bipush 60), none, a0 (.invokestatic 80) 3 254 12 133 3 0, none, none, a3 (.ifCond .ne 10), none, none, a1 (.aload_n 0), a0 (.ldc 70) 2 256 2 0 0 (-1000001), none, a0 (.invokevirtual 76) 3 257 10 135 2 0, none, none, a1 (.ireturn), a1 (.iload_n 1), a1 (.aload_n 0), a0 (.getfield 9) 3 229 0 4 0 0, none, none],
  [a1 (.iconst 1), a1 (.iaload), a0 (.invokestatic 128) 3 273 25 0 0 0, none, none, a1 (.istore_n 3), a1 (.iconst 0), a2 (.istore 4), none, a0 (.ldc 204) 2 312 2 0 0 2147483647, none, a2 (.istore 5), none, a1 (.iconst 0), a2 (.istore 6), none, a2 (.iload 6), none, a1 (.iconst 1), a1 (.aload_n 0), a0 (.getfield 9) 3 229 0 4 0 0, none, none, a1 (.iconst 1), a1 (.iaload), a1 (.ishl), a3 (.if_icmp .ge 57), none, none, a2 (.iload 6), none, a0 (.invokestatic 181) 3 295 12 168 1 0],
  [none, none, a1 (.iload_n 3), a3 (.if_icmp .ne 13), none, none, a1 (.aload_n 0), a2 (.iload 6), none, a1 (.iload_n 2), a0 (.invokevirtual 215) 3 319 10 190 3 0, none, none, a3 (.goto 5), none, none, a0 (.ldc 204) 2 312 2 0 0 2147483647, none, a2 (.istore 7), none, a2 (.iload 7), none, a2 (.iload 5), none, a3 (.if_icmp .ge 8), none, none, a2 (.iload 6), none, a3 (.goto 5), none, none],
  [a2 (.iload 4), none, a2 (.istore 4), none, a2 (.iload 5), none, a2 (.iload 7), none, a0 (.invokestatic 128) 3 273 25 0 0 0, none, none, a2 (.istore 5), none, a3 (.iinc 6 1), none, none, a3 (.goto (-64)), none, none, a2 (.iload 4), none, a1 (.ireturn)]]
/-- 190: EnvyRustModel.lostPainted -/
noncomputable def mk_190 : List (List (Option mEnt)) := [[a1 (.iconst 0), a1 (.istore_n 3), a1 (.iload_n 3), a1 (.aload_n 0), a0 (.getfield 9) 3 229 0 4 0 0, none, none, a1 (.iconst 1), a1 (.iaload), a3 (.if_icmp .ge 50), none, none, a1 (.aload_n 0), a0 (.getfield 29) 3 236 0 4 7 0, none, none, a1 (.iload_n 3), a1 (.aload_n 0), a1 (.iload_n 3), a1 (.iconst 3), a0 (.invokevirtual 103) 3 266 10 143 3 0, none, none, a1 (.iastore), a1 (.aload_n 0), a0 (.getfield 9) 3 229 0 4 0 0, none, none, a1 (.iload_n 3), a1 (.iconst 3), a0 (.invokestatic 84) 3 260 12 137 2 0, none],
  [none, a1 (.iload_n 1), a1 (.iload_n 3), a0 (.invokestatic 212) 3 320 12 191 2 0, none, none, a3 (.ifCond .eq 8), none, none, a2 (.bipush 9), none, a3 (.goto 9), none, none, a1 (.aload_n 0), a0 (.getfield 29) 3 236 0 4 7 0, none, none, a1 (.iload_n 3), a1 (.iaload), a1 (.iastore), a3 (.iinc 3 1), none, none, a3 (.goto (-54)), none, none, a1 (.aload_n 0), a1 (.iload_n 2), a0 (.invokevirtual 199) 3 308 10 180 2 0, none, none],
  [a1 (.istore_n 3), a1 (.iconst 0), a2 (.istore 4), none, a2 (.iload 4), none, a1 (.aload_n 0), a0 (.getfield 9) 3 229 0 4 0 0, none, none, a1 (.iconst 1), a1 (.iaload), a3 (.if_icmp .ge 27), none, none, a1 (.aload_n 0), a0 (.getfield 9) 3 229 0 4 0 0, none, none, a2 (.iload 4), none, a1 (.iconst 3), a0 (.invokestatic 84) 3 260 12 137 2 0, none, none, a1 (.aload_n 0), a0 (.getfield 29) 3 236 0 4 7 0, none, none, a2 (.iload 4), none, a1 (.iaload)],
  [a1 (.iastore), a3 (.iinc 4 1), none, none, a3 (.goto (-32)), none, none, a1 (.iload_n 3), a1 (.ireturn)]]
/-- 191: EnvyRustModel.has -/
noncomputable def mk_191 : List (List (Option mEnt)) := [[a1 (.iload_n 0), a1 (.iload_n 1), a1 (.ishr), a1 (.iconst 1), a1 (.iand), a1 (.iconst 1), a3 (.if_icmp .ne 7), none, none, a1 (.iconst 1), a3 (.goto 4), none, none, a1 (.iconst 0), a1 (.ireturn)]]
/-- 192: EnvyRustModel.needs -/
noncomputable def mk_192 : List (List (Option mEnt)) := [[a1 (.aload_n 0), a1 (.iload_n 1), a0 (.invokevirtual 131) 3 262 10 139 2 0, none, none, a3 (.ifCond .eq 13), none, none, a1 (.iload_n 2), a1 (.iconst 0), a2 (.bipush 60), none, a0 (.invokestatic 80) 3 254 12 133 3 0, none, none, a3 (.ifCond .ne 10), none, none, a1 (.aload_n 0), a0 (.ldc 70) 2 256 2 0 0 (-1000001), none, a0 (.invokevirtual 76) 3 257 10 135 2 0, none, none, a1 (.ireturn), a1 (.aload_n 0), a1 (.iload_n 1), a1 (.iconst 3), a0 (.invokevirtual 103) 3 266 10 143 3 0, none, none, a1 (.istore_n 3)],
  [a1 (.iconst (-1)), a2 (.istore 4), none, a2 (.bipush 9), none, a2 (.istore 5), none, a2 (.iload 5), none, a3 (.ifCond .lt 39), none, none, a1 (.aload_n 0), a0 (.getfield 9) 3 229 0 4 0 0, none, none, a1 (.iload_n 1), a1 (.iconst 3), a0 (.invokestatic 84) 3 260 12 137 2 0, none, none, a2 (.iload 5), none, a1 (.iastore), a1 (.aload_n 0), a1 (.iload_n 1), a1 (.iload_n 2), a0 (.invokevirtual 193) 3 300 10 173 3 0, none, none, a3 (.ifCond .le 8), none],
  [none, a2 (.iload 5), none, a3 (.goto 5), none, none, a2 (.iload 4), none, a2 (.istore 4), none, a3 (.iinc 5 (-1)), none, none, a3 (.goto (-38)), none, none, a1 (.aload_n 0), a0 (.getfield 9) 3 229 0 4 0 0, none, none, a1 (.iload_n 1), a1 (.iconst 3), a0 (.invokestatic 84) 3 260 12 137 2 0, none, none, a1 (.iload_n 3), a1 (.iastore), a1 (.aload_n 0), a2 (.iload 4), none, a0 (.invokevirtual 196) 3 304 10 177 2 0, none],
  [none, a1 (.ireturn)]]
/-- 193: EnvyRustModel.fallsWith -/
noncomputable def mk_193 : List (List (Option mEnt)) := [[a1 (.aload_n 0), a1 (.iload_n 1), a0 (.invokevirtual 131) 3 262 10 139 2 0, none, none, a3 (.ifCond .eq 11), none, none, a1 (.aload_n 0), a1 (.iload_n 1), a0 (.invokevirtual 218) 3 323 10 194 2 0, none, none, a3 (.goto 9), none, none, a1 (.aload_n 0), a0 (.ldc 70) 2 256 2 0 0 (-1000001), none, a0 (.invokevirtual 76) 3 257 10 135 2 0, none, none, a1 (.ireturn)]]
/-- 194: EnvyRustModel.fallWith -/
noncomputable def mk_194 : List (List (Option mEnt)) := [[a1 (.iconst 0), a1 (.istore_n 2), a1 (.iconst 0), a1 (.istore_n 3), a1 (.iload_n 3), a1 (.aload_n 0), a0 (.getfield 9) 3 229 0 4 0 0, none, none, a1 (.iconst 1), a1 (.iaload), a3 (.if_icmp .ge 28), none, none, a1 (.iload_n 2), a1 (.aload_n 0), a1 (.iload_n 3), a1 (.iload_n 1), a0 (.invokevirtual 149) 3 279 10 154 3 0, none, none, a3 (.ifCond .eq 9), none, none, a1 (.iconst 1), a1 (.iload_n 3), a1 (.ishl), a3 (.goto 4), none, none, a1 (.iconst 0), a1 (.ior)],
  [a1 (.istore_n 2), a3 (.iinc 3 1), none, none, a3 (.goto (-32)), none, none, a1 (.iload_n 2), a1 (.ireturn)]]
/-- 195: EnvyRustModel.depth -/
noncomputable def mk_195 : List (List (Option mEnt)) := [[a1 (.aload_n 0), a1 (.iload_n 1), a0 (.invokevirtual 131) 3 262 10 139 2 0, none, none, a3 (.ifCond .ne 10), none, none, a1 (.aload_n 0), a0 (.ldc 70) 2 256 2 0 0 (-1000001), none, a0 (.invokevirtual 76) 3 257 10 135 2 0, none, none, a1 (.ireturn), a1 (.iconst 0), a1 (.istore_n 2), a1 (.aload_n 0), a1 (.iload_n 1), a1 (.iconst 5), a0 (.invokevirtual 103) 3 266 10 143 3 0, none, none, a1 (.istore_n 3), a1 (.iload_n 3), a3 (.ifCond .lt 16), none, none, a3 (.iinc 2 1), none, none, a1 (.aload_n 0)],
  [a1 (.iload_n 3), a1 (.iconst 5), a0 (.invokevirtual 103) 3 266 10 143 3 0, none, none, a1 (.istore_n 3), a3 (.goto (-14)), none, none, a1 (.iload_n 2), a1 (.ireturn)]]
/-- 196: EnvyRustModel.keystone -/
noncomputable def mk_196 : List (List (Option mEnt)) := [[a1 (.iconst (-1)), a1 (.istore_n 1), a1 (.iconst 0), a1 (.istore_n 2), a1 (.iconst 0), a1 (.istore_n 3), a1 (.iload_n 3), a1 (.aload_n 0), a0 (.getfield 9) 3 229 0 4 0 0, none, none, a1 (.iconst 1), a1 (.iaload), a3 (.if_icmp .ge 38), none, none, a1 (.aload_n 0), a1 (.iload_n 3), a0 (.invokevirtual 218) 3 323 10 194 2 0, none, none, a0 (.invokestatic 181) 3 295 12 168 1 0, none, none, a2 (.istore 4), none, a2 (.iload 4), none, a1 (.iload_n 2), a3 (.if_icmp .le 7), none, none],
  [a1 (.iload_n 3), a3 (.goto 4), none, none, a1 (.iload_n 1), a1 (.istore_n 1), a1 (.iload_n 2), a2 (.iload 4), none, a0 (.invokestatic 116) 3 272 24 0 0 0, none, none, a1 (.istore_n 2), a3 (.iinc 3 1), none, none, a3 (.goto (-42)), none, none, a1 (.aload_n 0), a1 (.iload_n 1), a0 (.invokevirtual 196) 3 304 10 177 2 0, none, none, a1 (.ireturn)]]
/-- 197: EnvyRustModel.fells -/
noncomputable def mk_197 : List (List (Option mEnt)) := [[a1 (.iconst 0), a1 (.istore_n 1), a1 (.iconst 0), a1 (.istore_n 2), a1 (.iload_n 2), a1 (.aload_n 0), a0 (.getfield 9) 3 229 0 4 0 0, none, none, a1 (.iconst 1), a1 (.iaload), a3 (.if_icmp .ge 28), none, none, a1 (.iload_n 1), a1 (.aload_n 0), a1 (.iload_n 2), a1 (.iconst 5), a0 (.invokevirtual 103) 3 266 10 143 3 0, none, none, a3 (.ifCond .ge 9), none, none, a1 (.iconst 1), a1 (.iload_n 2), a1 (.ishl), a3 (.goto 4), none, none, a1 (.iconst 0), a1 (.ior)],
  [a1 (.istore_n 1), a3 (.iinc 2 1), none, none, a3 (.goto (-32)), none, none, a1 (.iload_n 1), a1 (.ireturn)]]
/-- 198: EnvyRustModel.worth -/
noncomputable def mk_198 : List (List (Option mEnt)) := [[a1 (.aload_n 0), a1 (.iload_n 1), a0 (.invokevirtual 143) 3 278 10 153 2 0, none, none, a3 (.ifCond .eq 20), none, none, a1 (.aload_n 0), a1 (.iload_n 2), a0 (.invokevirtual 221) 3 328 10 199 2 0, none, none, a3 (.ifCond .eq 12), none, none, a1 (.aload_n 0), a1 (.iload_n 1), a1 (.iload_n 2), a0 (.invokevirtual 224) 3 329 10 200 3 0, none, none, a3 (.goto 9), none, none, a1 (.aload_n 0), a0 (.ldc 70) 2 256 2 0 0 (-1000001), none, a0 (.invokevirtual 76) 3 257 10 135 2 0, none, none, a1 (.ireturn)]]
/-- 199: EnvyRustModel.areThings -/
noncomputable def mk_199 : List (List (Option mEnt)) := [[a1 (.iload_n 1), a1 (.iconst 0), a1 (.iconst 1), a1 (.aload_n 0), a0 (.getfield 9) 3 229 0 4 0 0, none, none, a1 (.iconst 1), a1 (.iaload), a1 (.ishl), a1 (.iconst 1), a1 (.isub), a0 (.invokestatic 80) 3 254 12 133 3 0, none, none, a1 (.ireturn)]]
/-- 200: EnvyRustModel.worthOf -/
noncomputable def mk_200 : List (List (Option mEnt)) := [[a1 (.iconst 0), a1 (.istore_n 3), a1 (.iconst 0), a2 (.istore 4), none, a2 (.iload 4), none, a1 (.aload_n 0), a0 (.getfield 9) 3 229 0 4 0 0, none, none, a1 (.iconst 1), a1 (.iaload), a3 (.if_icmp .ge 33), none, none, a1 (.iload_n 3), a1 (.iload_n 2), a2 (.iload 4), none, a0 (.invokestatic 212) 3 320 12 191 2 0, none, none, a3 (.ifCond .eq 14), none, none, a1 (.aload_n 0), a1 (.iload_n 1), a2 (.iload 4), none, a1 (.iconst (-1)), a0 (.invokevirtual 121) 3 268 10 145 4 0],
  [none, none, a3 (.goto 4), none, none, a1 (.iconst 0), a1 (.iadd), a1 (.istore_n 3), a3 (.iinc 4 1), none, none, a3 (.goto (-38)), none, none, a1 (.iload_n 3), a1 (.ireturn)]]
/-- 201: EnvyRustModel.deal -/
noncomputable def mk_201 : List (List (Option mEnt)) := [[a1 (.aload_n 0), a1 (.iload_n 1), a1 (.iload_n 2), a1 (.iload_n 3), a0 (.invokevirtual 231) 3 331 10 202 4 0, none, none, a3 (.ifCond .ne 10), none, none, a1 (.aload_n 0), a0 (.ldc 70) 2 256 2 0 0 (-1000001), none, a0 (.invokevirtual 76) 3 257 10 135 2 0, none, none, a1 (.ireturn), a1 (.iconst (-1)), a2 (.istore 4), none, a1 (.iload_n 3), a2 (.istore 5), none, a2 (.iload 5), none, a3 (.ifCond .lt 44), none, none, a2 (.iload 5), none, a1 (.iload_n 3), a1 (.iconst (-1))],
  [a1 (.ixor), a1 (.iand), a3 (.ifCond .ne 25), none, none, a1 (.aload_n 0), a1 (.iload_n 1), a1 (.iload_n 2), a2 (.iload 5), none, a1 (.iload_n 3), a2 (.iload 5), none, a1 (.iconst (-1)), a1 (.ixor), a1 (.iand), a0 (.invokevirtual 227) 3 332 10 203 5 0, none, none, a3 (.ifCond .eq 8), none, none, a2 (.iload 5), none, a3 (.goto 5), none, none, a2 (.iload 4), none, a2 (.istore 4), none, a3 (.iinc 5 (-1))],
  [none, none, a3 (.goto (-43)), none, none, a1 (.aload_n 0), a2 (.iload 4), none, a0 (.invokevirtual 196) 3 304 10 177 2 0, none, none, a1 (.ireturn)]]
/-- 202: EnvyRustModel.isPair -/
noncomputable def mk_202 : List (List (Option mEnt)) := [[a1 (.aload_n 0), a1 (.iload_n 1), a0 (.invokevirtual 143) 3 278 10 153 2 0, none, none, a3 (.ifCond .eq 28), none, none, a1 (.aload_n 0), a1 (.iload_n 2), a0 (.invokevirtual 143) 3 278 10 153 2 0, none, none, a3 (.ifCond .eq 20), none, none, a1 (.iload_n 1), a1 (.iload_n 2), a3 (.if_icmp .eq 15), none, none, a1 (.aload_n 0), a1 (.iload_n 3), a0 (.invokevirtual 221) 3 328 10 199 2 0, none, none, a3 (.ifCond .eq 7), none, none, a1 (.iconst 1), a3 (.goto 4), none],
  [none, a1 (.iconst 0), a1 (.ireturn)]]
/-- 203: EnvyRustModel.isDeal -/
noncomputable def mk_203 : List (List (Option mEnt)) := [[a1 (.aload_n 0), a1 (.iload_n 1), a2 (.iload 4), none, a0 (.invokevirtual 224) 3 329 10 200 3 0, none, none, a1 (.aload_n 0), a1 (.iload_n 1), a1 (.iload_n 3), a0 (.invokevirtual 224) 3 329 10 200 3 0, none, none, a3 (.if_icmp .gt 23), none, none, a1 (.aload_n 0), a1 (.iload_n 2), a1 (.iload_n 3), a0 (.invokevirtual 224) 3 329 10 200 3 0, none, none, a1 (.aload_n 0), a1 (.iload_n 2), a2 (.iload 4), none, a0 (.invokevirtual 224) 3 329 10 200 3 0, none, none, a3 (.if_icmp .gt 7), none, none],
  [a1 (.iconst 1), a3 (.goto 4), none, none, a1 (.iconst 0), a1 (.ireturn)]]
/-- 204: EnvyRustModel.deals -/
noncomputable def mk_204 : List (List (Option mEnt)) := [[a1 (.aload_n 0), a1 (.iload_n 1), a1 (.iload_n 2), a1 (.iload_n 3), a0 (.invokevirtual 231) 3 331 10 202 4 0, none, none, a3 (.ifCond .eq 13), none, none, a1 (.aload_n 0), a1 (.iload_n 1), a1 (.iload_n 2), a1 (.iload_n 3), a0 (.invokevirtual 234) 3 334 10 205 4 0, none, none, a3 (.goto 9), none, none, a1 (.aload_n 0), a0 (.ldc 70) 2 256 2 0 0 (-1000001), none, a0 (.invokevirtual 76) 3 257 10 135 2 0, none, none, a1 (.ireturn)]]
/-- 205: EnvyRustModel.dealsOf -/
noncomputable def mk_205 : List (List (Option mEnt)) := [[a1 (.iconst 0), a2 (.istore 4), none, a1 (.iconst 0), a2 (.istore 5), none, a2 (.iload 5), none, a1 (.iload_n 3), a3 (.if_icmp .gt 45), none, none, a2 (.iload 4), none, a2 (.iload 5), none, a1 (.iload_n 3), a1 (.iconst (-1)), a1 (.ixor), a1 (.iand), a3 (.ifCond .ne 24), none, none, a1 (.aload_n 0), a1 (.iload_n 1), a1 (.iload_n 2), a2 (.iload 5), none, a1 (.iload_n 3), a2 (.iload 5), none, a1 (.iconst (-1))],
  [a1 (.ixor), a1 (.iand), a0 (.invokevirtual 227) 3 332 10 203 5 0, none, none, a3 (.ifCond .eq 7), none, none, a1 (.iconst 1), a3 (.goto 4), none, none, a1 (.iconst 0), a1 (.iadd), a2 (.istore 4), none, a3 (.iinc 5 1), none, none, a3 (.goto (-45)), none, none, a2 (.iload 4), none, a1 (.ireturn)]]
/-- 206: EnvyRustModel.lesser -/
noncomputable def mk_206 : List (List (Option mEnt)) := [[a1 (.aload_n 0), a1 (.iload_n 1), a1 (.iload_n 2), a1 (.iload_n 3), a0 (.invokevirtual 231) 3 331 10 202 4 0, none, none, a3 (.ifCond .ne 10), none, none, a1 (.aload_n 0), a0 (.ldc 70) 2 256 2 0 0 (-1000001), none, a0 (.invokevirtual 76) 3 257 10 135 2 0, none, none, a1 (.ireturn), a1 (.iconst 0), a2 (.istore 4), none, a1 (.iconst (-1)), a2 (.istore 5), none, a1 (.iconst 0), a2 (.istore 6), none, a2 (.iload 6), none, a1 (.iload_n 3), a3 (.if_icmp .gt 70), none, none],
  [a2 (.iload 6), none, a1 (.iload_n 3), a1 (.iconst (-1)), a1 (.ixor), a1 (.iand), a3 (.ifCond .ne 27), none, none, a1 (.aload_n 0), a1 (.iload_n 1), a2 (.iload 6), none, a0 (.invokevirtual 224) 3 329 10 200 3 0, none, none, a1 (.aload_n 0), a1 (.iload_n 2), a1 (.iload_n 3), a2 (.iload 6), none, a1 (.iconst (-1)), a1 (.ixor), a1 (.iand), a0 (.invokevirtual 224) 3 329 10 200 3 0, none, none, a0 (.invokestatic 128) 3 273 25 0 0 0, none, none, a3 (.goto 4), none],
  [none, a1 (.iconst (-1)), a2 (.istore 7), none, a2 (.iload 7), none, a2 (.iload 5), none, a3 (.if_icmp .le 8), none, none, a2 (.iload 6), none, a3 (.goto 5), none, none, a2 (.iload 4), none, a2 (.istore 4), none, a2 (.iload 5), none, a2 (.iload 7), none, a0 (.invokestatic 116) 3 272 24 0 0 0, none, none, a2 (.istore 5), none, a3 (.iinc 6 1), none, none],
  [a3 (.goto (-70)), none, none, a2 (.iload 4), none, a1 (.ireturn)]]
/-- 207: EnvyRustModel.envious -/
noncomputable def mk_207 : List (List (Option mEnt)) := [[a1 (.iconst 0), a1 (.istore_n 1), a1 (.iconst 0), a1 (.istore_n 2), a1 (.iload_n 2), a1 (.aload_n 0), a0 (.getfield 9) 3 229 0 4 0 0, none, none, a1 (.iconst 2), a1 (.iaload), a3 (.if_icmp .ge 63), none, none, a1 (.iconst 0), a1 (.istore_n 3), a1 (.iload_n 3), a1 (.aload_n 0), a0 (.getfield 9) 3 229 0 4 0 0, none, none, a1 (.iconst 2), a1 (.iaload), a3 (.if_icmp .ge 45), none, none, a1 (.iload_n 1), a1 (.iload_n 2), a1 (.iload_n 3), a3 (.if_icmp .eq 30), none, none],
  [a1 (.aload_n 0), a1 (.iload_n 2), a1 (.aload_n 0), a1 (.iload_n 3), a0 (.invokevirtual 162) 3 286 10 160 2 0, none, none, a0 (.invokevirtual 224) 3 329 10 200 3 0, none, none, a1 (.aload_n 0), a1 (.iload_n 2), a1 (.aload_n 0), a1 (.iload_n 2), a0 (.invokevirtual 162) 3 286 10 160 2 0, none, none, a0 (.invokevirtual 224) 3 329 10 200 3 0, none, none, a3 (.if_icmp .le 7), none, none, a1 (.iconst 1), a3 (.goto 4), none, none, a1 (.iconst 0), a1 (.iadd), a1 (.istore_n 1), a3 (.iinc 3 1), none],
  [none, a3 (.goto (-49)), none, none, a3 (.iinc 2 1), none, none, a3 (.goto (-67)), none, none, a1 (.iload_n 1), a1 (.ireturn)]]
/-- 208: EnvyRustModel.fits -/
noncomputable def mk_208 : List (List (Option mEnt)) := [[a1 (.aload_n 0), a1 (.iload_n 1), a0 (.invokevirtual 244) 3 338 10 209 2 0, none, none, a3 (.ifCond .eq 13), none, none, a1 (.aload_n 0), a1 (.aload_n 0), a1 (.iload_n 1), a0 (.invokevirtual 244) 3 338 10 209 2 0, none, none, a0 (.invokevirtual 76) 3 257 10 135 2 0, none, none, a1 (.ireturn), a1 (.aload_n 0), a1 (.iload_n 2), a0 (.invokevirtual 143) 3 278 10 153 2 0, none, none, a3 (.ifCond .eq 24), none, none, a1 (.aload_n 0), a1 (.iload_n 3), a0 (.invokevirtual 131) 3 262 10 139 2 0, none, none, a3 (.ifCond .eq 16)],
  [none, none, a1 (.aload_n 0), a1 (.iload_n 1), a1 (.iload_n 2), a1 (.iload_n 3), a0 (.invokevirtual 247) 3 341 10 211 4 0, none, none, a0 (.invokestatic 181) 3 295 12 168 1 0, none, none, a3 (.goto 9), none, none, a1 (.aload_n 0), a0 (.ldc 70) 2 256 2 0 0 (-1000001), none, a0 (.invokevirtual 76) 3 257 10 135 2 0, none, none, a1 (.ireturn)]]
/-- 209: EnvyRustModel.lacks -/
noncomputable def mk_209 : List (List (Option mEnt)) := [[a1 (.iload_n 1), a0 (.invokestatic 237) 3 339 12 210 1 0, none, none, a3 (.ifCond .ne 8), none, none, a0 (.ldc 70) 2 256 2 0 0 (-1000001), none, a3 (.goto 18), none, none, a1 (.aload_n 0), a0 (.getfield 58) 3 249 0 4 20 0, none, none, a1 (.iload_n 1), a1 (.iaload), a3 (.ifCond .ne 8), none, none, a0 (.ldc 240) 2 340 2 0 0 (-1000006), none, a3 (.goto 4), none, none, a1 (.iconst 0), a1 (.ireturn)]]
/-- 210: EnvyRustModel.isSheet -/
noncomputable def mk_210 : List (List (Option mEnt)) := [[a1 (.iload_n 0), a1 (.iconst 0), a1 (.iconst 3), a0 (.invokestatic 80) 3 254 12 133 3 0, none, none, a1 (.ireturn)]]
/-- 211: EnvyRustModel.fitting -/
noncomputable def mk_211 : List (List (Option mEnt)) := [[a1 (.iload_n 2), a1 (.iconst 3), a1 (.aload_n 0), a1 (.iload_n 3), a1 (.iconst 0), a0 (.invokevirtual 103) 3 266 10 143 3 0, none, none, a1 (.iadd), a0 (.invokestatic 88) 3 265 12 142 2 0, none, none, a2 (.istore 4), none, a1 (.aload_n 0), a0 (.getfield 9) 3 229 0 4 0 0, none, none, a2 (.iload 4), none, a1 (.iaload), a2 (.istore 5), none, a1 (.iconst 0), a2 (.istore 6), none, a1 (.iconst 0), a2 (.istore 7), none, a2 (.iload 7), none, a2 (.bipush 9)],
  [none, a3 (.if_icmp .gt 40), none, none, a1 (.aload_n 0), a0 (.getfield 9) 3 229 0 4 0 0, none, none, a2 (.iload 4), none, a2 (.iload 7), none, a1 (.iastore), a2 (.iload 6), none, a1 (.aload_n 0), a1 (.iload_n 1), a1 (.iload_n 3), a0 (.invokevirtual 241) 3 342 10 212 3 0, none, none, a3 (.ifCond .eq 10), none, none, a1 (.iconst 1), a2 (.iload 7), none, a1 (.ishl), a3 (.goto 4), none, none, a1 (.iconst 0)],
  [a1 (.ior), a2 (.istore 6), none, a3 (.iinc 7 1), none, none, a3 (.goto (-41)), none, none, a1 (.aload_n 0), a0 (.getfield 9) 3 229 0 4 0 0, none, none, a2 (.iload 4), none, a2 (.iload 5), none, a1 (.iastore), a2 (.iload 6), none, a1 (.ireturn)]]
/-- 212: EnvyRustModel.isWornSo -/
noncomputable def mk_212 : List (List (Option mEnt)) := [[a1 (.aload_n 0), a0 (.getfield 9) 3 229 0 4 0 0, none, none, a1 (.aload_n 0), a0 (.getfield 16) 3 231 0 4 2 0, none, none, a0 (.invokestatic 71) 3 301 12 174 2 0, none, none, a1 (.iconst 1), a1 (.istore_n 3), a1 (.iconst 0), a2 (.istore 4), none, a2 (.iload 4), none, a1 (.aload_n 0), a0 (.getfield 61) 3 250 0 4 21 0, none, none, a1 (.iload_n 1), a1 (.iaload), a3 (.if_icmp .ge 54), none, none, a1 (.iload_n 3), a3 (.ifCond .eq 50), none, none, a1 (.aload_n 0)],
  [a0 (.getfield 64) 3 251 0 4 22 0, none, none, a2 (.bipush 40), none, a1 (.iload_n 1), a1 (.imul), a2 (.iload 4), none, a1 (.iadd), a1 (.iaload), a2 (.istore 5), none, a2 (.iload 5), none, a1 (.iconst (-1)), a3 (.if_icmp .eq 14), none, none, a2 (.iload 5), none, a1 (.aload_n 0), a1 (.iload_n 2), a1 (.iconst 2), a0 (.invokevirtual 103) 3 266 10 143 3 0, none, none, a3 (.if_icmp .ne 7), none, none, a1 (.iconst 1), a3 (.goto 4)],
  [none, none, a1 (.iconst 0), a1 (.istore_n 3), a1 (.aload_n 0), a0 (.invokevirtual 169) 3 292 10 165 1 0, none, none, a3 (.iinc 4 1), none, none, a3 (.goto (-59)), none, none, a1 (.aload_n 0), a0 (.getfield 16) 3 231 0 4 2 0, none, none, a1 (.aload_n 0), a0 (.getfield 9) 3 229 0 4 0 0, none, none, a0 (.invokestatic 71) 3 301 12 174 2 0, none, none, a1 (.iload_n 3), a1 (.ireturn)]]
/-- 213: EnvyRustModel.likes -/
noncomputable def mk_213 : List (List (Option mEnt)) := [[a1 (.aload_n 0), a1 (.iload_n 1), a0 (.invokevirtual 244) 3 338 10 209 2 0, none, none, a3 (.ifCond .eq 13), none, none, a1 (.aload_n 0), a1 (.aload_n 0), a1 (.iload_n 1), a0 (.invokevirtual 244) 3 338 10 209 2 0, none, none, a0 (.invokevirtual 76) 3 257 10 135 2 0, none, none, a1 (.ireturn), a1 (.aload_n 0), a1 (.iload_n 2), a0 (.invokevirtual 143) 3 278 10 153 2 0, none, none, a3 (.ifCond .eq 11), none, none, a1 (.aload_n 0), a1 (.iload_n 3), a0 (.invokevirtual 131) 3 262 10 139 2 0, none, none, a3 (.ifCond .ne 10)],
  [none, none, a1 (.aload_n 0), a0 (.ldc 70) 2 256 2 0 0 (-1000001), none, a0 (.invokevirtual 76) 3 257 10 135 2 0, none, none, a1 (.ireturn), a1 (.aload_n 0), a1 (.iload_n 1), a1 (.iload_n 2), a1 (.iload_n 3), a0 (.invokevirtual 247) 3 341 10 211 4 0, none, none, a2 (.istore 4), none, a1 (.iconst 0), a2 (.istore 5), none, a2 (.iload 5), none, a2 (.bipush 9), none, a3 (.if_icmp .gt 19), none, none, a2 (.iload 4), none, a2 (.iload 5), none],
  [a0 (.invokestatic 212) 3 320 12 191 2 0, none, none, a3 (.ifCond .ne 9), none, none, a3 (.iinc 5 1), none, none, a3 (.goto (-20)), none, none, a2 (.iload 5), none, a2 (.bipush 9), none, a3 (.if_icmp .le 12), none, none, a1 (.aload_n 0), a0 (.ldc 75) 2 305 2 0 0 (-1000004), none, a0 (.invokevirtual 76) 3 257 10 135 2 0, none, none, a3 (.goto 5), none, none, a2 (.iload 5), none, a1 (.ireturn)]]
/-- 214: EnvyRustModel.strolls -/
noncomputable def mk_214 : List (List (Option mEnt)) := [[a1 (.iload_n 1), a1 (.iconst 1), a2 (.bipush 20), none, a0 (.invokestatic 80) 3 254 12 133 3 0, none, none, a3 (.ifCond .ne 10), none, none, a1 (.aload_n 0), a0 (.ldc 70) 2 256 2 0 0 (-1000001), none, a0 (.invokevirtual 76) 3 257 10 135 2 0, none, none, a1 (.ireturn), a1 (.aload_n 0), a0 (.getfield 9) 3 229 0 4 0 0, none, none, a1 (.iconst 0), a1 (.iaload), a1 (.iload_n 1), a1 (.iadd), a0 (.ldc 172) 2 290 2 0 0 99999, none, a3 (.if_icmp .le 10), none, none, a1 (.aload_n 0), a0 (.ldc 152) 2 280 2 0 0 (-1000005)],
  [none, a0 (.invokevirtual 76) 3 257 10 135 2 0, none, none, a1 (.ireturn), a1 (.aload_n 0), a0 (.invokevirtual 184) 3 297 10 170 1 0, none, none, a1 (.istore_n 2), a1 (.iconst 0), a1 (.istore_n 3), a1 (.iload_n 3), a1 (.iload_n 1), a3 (.if_icmp .ge 51), none, none, a1 (.iconst 0), a2 (.istore 4), none, a2 (.iload 4), none, a1 (.aload_n 0), a0 (.getfield 9) 3 229 0 4 0 0, none, none, a1 (.iconst 2), a1 (.iaload), a3 (.if_icmp .ge 27), none, none, a1 (.aload_n 0)],
  [a0 (.getfield 9) 3 229 0 4 0 0, none, none, a2 (.iload 4), none, a1 (.iconst 1), a0 (.invokestatic 88) 3 265 12 142 2 0, none, none, a1 (.aload_n 0), a0 (.invokevirtual 251) 3 345 10 215 1 0, none, none, a2 (.bipush 16), none, a1 (.irem), a1 (.iastore), a3 (.iinc 4 1), none, none, a3 (.goto (-32)), none, none, a1 (.aload_n 0), a0 (.invokevirtual 169) 3 292 10 165 1 0, none, none, a3 (.iinc 3 1), none, none, a3 (.goto (-50)), none],
  [none, a1 (.iload_n 2), a1 (.aload_n 0), a0 (.invokevirtual 184) 3 297 10 170 1 0, none, none, a1 (.isub), a1 (.ireturn)]]
/-- 215: EnvyRustModel.drawn -/
noncomputable def mk_215 : List (List (Option mEnt)) := [[a1 (.aload_n 0), a0 (.getfield 9) 3 229 0 4 0 0, none, none, a1 (.iconst 3), a1 (.aload_n 0), a0 (.getfield 9) 3 229 0 4 0 0, none, none, a1 (.iconst 3), a1 (.iaload), a0 (.ldc 250) 2 346 2 0 0 1103515245, none, a1 (.imul), a3 (.sipush 12345), none, none, a1 (.iadd), a1 (.iastore), a1 (.aload_n 0), a0 (.getfield 9) 3 229 0 4 0 0, none, none, a1 (.iconst 3), a1 (.iaload), a2 (.bipush 8), none, a1 (.iushr), a1 (.ireturn)]]
/-- 216: EnvyRustModel.odds -/
noncomputable def mk_216 : List (List (Option mEnt)) := [[a1 (.iload_n 1), a1 (.iconst 0), a2 (.bipush 14), none, a0 (.invokestatic 80) 3 254 12 133 3 0, none, none, a3 (.ifCond .eq 12), none, none, a1 (.iload_n 2), a1 (.iconst 0), a1 (.iconst 1), a0 (.invokestatic 80) 3 254 12 133 3 0, none, none, a3 (.ifCond .ne 11), none, none, a1 (.aload_n 0), a0 (.ldc 70) 2 256 2 0 0 (-1000001), none, a0 (.invokevirtual 76) 3 257 10 135 2 0, none, none, a1 (.i2l), a1 (.lreturn), a1 (.iconst 0), a1 (.istore_n 3), a1 (.iconst 0), a2 (.istore 4), none],
  [a2 (.iload 4), none, a1 (.aload_n 0), a0 (.getfield 9) 3 229 0 4 0 0, none, none, a1 (.iconst 1), a1 (.iaload), a3 (.if_icmp .ge 21), none, none, a1 (.iload_n 3), a1 (.iconst 1), a1 (.aload_n 0), a2 (.iload 4), none, a1 (.iconst 1), a0 (.invokevirtual 103) 3 266 10 143 3 0, none, none, a1 (.ishl), a1 (.ior), a1 (.istore_n 3), a3 (.iinc 4 1), none, none, a3 (.goto (-26)), none, none, a2 (.bipush 16), none, a1 (.iload_n 3)],
  [a0 (.invokestatic 181) 3 295 12 168 1 0, none, none, a1 (.isub), a2 (.istore 4), none, a2 (.bipush 16), none, a2 (.istore 5), none, a2 (.iload 4), none, a1 (.iconst 2), a1 (.irem), a3 (.ifCond .ne 25), none, none, a2 (.iload 5), none, a1 (.iconst 2), a1 (.irem), a3 (.ifCond .ne 18), none, none, a2 (.iload 4), none, a1 (.iconst 2), a1 (.idiv), a2 (.istore 4), none, a2 (.iload 5), none],
  [a1 (.iconst 2), a1 (.idiv), a2 (.istore 5), none, a3 (.goto (-26)), none, none, a1 (.lconst 1), a2 (.lstore 6), none, a1 (.iconst 0), a2 (.istore 8), none, a2 (.iload 8), none, a1 (.iload_n 1), a3 (.if_icmp .ge 27), none, none, a2 (.lload 6), none, a1 (.iload_n 2), a3 (.ifCond .ne 9), none, none, a2 (.iload 4), none, a1 (.i2l), a3 (.goto 6), none, none, a2 (.iload 5)],
  [none, a1 (.i2l), a1 (.lmul), a2 (.lstore 6), none, a3 (.iinc 8 1), none, none, a3 (.goto (-27)), none, none, a2 (.lload 6), none, a1 (.lreturn)]]
/-- 217: EnvyRustModel.seed -/
noncomputable def mk_217 : List (List (Option mEnt)) := [[a1 (.aload_n 0), a1 (.iconst 3), a1 (.iload_n 1), a0 (.invokevirtual 153) 3 281 10 155 3 0, none, none, a1 (.ireturn)]]
/-- 218: EnvyRustModel.feed -/
noncomputable def mk_218 : List (List (Option mEnt)) := [[a1 (.iload_n 2), a1 (.iconst 1), a1 (.iconst 4), a0 (.invokestatic 80) 3 254 12 133 3 0, none, none, a3 (.ifCond .ne 10), none, none, a1 (.aload_n 0), a0 (.ldc 70) 2 256 2 0 0 (-1000001), none, a0 (.invokevirtual 76) 3 257 10 135 2 0, none, none, a1 (.ireturn), a1 (.aload_n 0), a0 (.getfield 254) 3 238 0 4 9 0, none, none, a1 (.iload_n 2), a1 (.iadd), a2 (.bipush 120), none, a3 (.if_icmp .le 10), none, none, a1 (.aload_n 0), a0 (.ldc 95) 2 258 2 0 0 (-1000002), none, a0 (.invokevirtual 76) 3 257 10 135 2 0, none],
  [none, a1 (.ireturn), a1 (.iload_n 2), a1 (.iconst 1), a1 (.isub), a1 (.istore_n 3), a1 (.iload_n 3), a3 (.ifCond .lt 38), none, none, a1 (.aload_n 0), a0 (.getfield 32) 3 237 0 4 8 0, none, none, a1 (.aload_n 0), a0 (.getfield 254) 3 238 0 4 9 0, none, none, a1 (.iload_n 1), a2 (.bipush 8), none, a1 (.iload_n 3), a1 (.imul), a1 (.ishr), a3 (.sipush 255), none, none, a1 (.iand), a1 (.iastore), a1 (.aload_n 0), a1 (.dup), a0 (.getfield 254) 3 238 0 4 9 0],
  [none, none, a1 (.iconst 1), a1 (.iadd), a0 (.putfield 254) 3 238 0 4 9 0, none, none, a3 (.iinc 3 (-1)), none, none, a3 (.goto (-36)), none, none, a1 (.aload_n 0), a0 (.getfield 254) 3 238 0 4 9 0, none, none, a1 (.ireturn)]]
/-- 219: EnvyRustModel.wipe -/
noncomputable def mk_219 : List (List (Option mEnt)) := [[a1 (.aload_n 0), a0 (.getfield 254) 3 238 0 4 9 0, none, none, a1 (.istore_n 1), a1 (.aload_n 0), a1 (.iconst 0), a0 (.putfield 254) 3 238 0 4 9 0, none, none, a1 (.iload_n 1), a1 (.ireturn)]]
/-- 220: EnvyRustModel.text -/
noncomputable def mk_220 : List (List (Option mEnt)) := [[a1 (.aload_n 0), a1 (.iconst 0), a0 (.putfield 257) 3 240 0 4 11 0, none, none, a1 (.aload_n 0), a1 (.iconst 0), a0 (.putfield 279) 3 243 0 4 14 0, none, none, a1 (.aload_n 0), a1 (.iconst 0), a0 (.putfield 290) 3 246 0 4 17 0, none, none, a1 (.aload_n 0), a1 (.aload_n 0), a0 (.getfield 9) 3 229 0 4 0 0, none, none, a1 (.iconst 1), a1 (.iaload), a0 (.putfield 321) 3 247 0 4 18 0, none, none, a1 (.aload_n 0), a1 (.aload_n 0), a0 (.getfield 9) 3 229 0 4 0 0, none, none, a1 (.iconst 2), a1 (.iaload)],
  [a0 (.putfield 303) 3 248 0 4 19 0, none, none, a1 (.aload_n 0), a0 (.invokevirtual 283) 3 352 10 221 1 0, none, none, a1 (.aload_n 0), a0 (.invokevirtual 332) 3 354 10 223 1 0, none, none, a1 (.aload_n 0), a0 (.getfield 279) 3 243 0 4 14 0, none, none, a3 (.ifCond .ne 37), none, none, a1 (.aload_n 0), a0 (.getfield 269) 3 241 0 4 12 0, none, none, a1 (.iconst 3), a3 (.if_icmp .ne 29), none, none, a1 (.aload_n 0), a0 (.getfield 32) 3 237 0 4 8 0, none, none, a1 (.aload_n 0), a0 (.getfield 260) 3 239 0 4 10 0],
  [none, none, a1 (.iaload), a2 (.bipush 59), none, a3 (.if_icmp .ne 15), none, none, a1 (.aload_n 0), a1 (.iconst 1), a0 (.invokevirtual 286) 3 359 10 226 2 0, none, none, a1 (.aload_n 0), a0 (.invokevirtual 332) 3 354 10 223 1 0, none, none, a3 (.goto (-38)), none, none, a1 (.aload_n 0), a1 (.aload_n 0), a0 (.getfield 269) 3 241 0 4 12 0, none, none, a3 (.ifCond .ne 7), none, none, a1 (.iconst 1), a3 (.goto 4), none, none],
  [a1 (.iconst 0), a0 (.invokevirtual 286) 3 359 10 226 2 0, none, none, a1 (.aload_n 0), a1 (.iconst 0), a0 (.putfield 254) 3 238 0 4 9 0, none, none, a1 (.aload_n 0), a0 (.getfield 279) 3 243 0 4 14 0, none, none, a3 (.ifCond .eq 10), none, none, a1 (.iconst (-1)), a1 (.aload_n 0), a0 (.getfield 260) 3 239 0 4 10 0, none, none, a1 (.isub), a1 (.ireturn), a1 (.iconst 0), a1 (.istore_n 1), a1 (.iconst 0), a1 (.istore_n 2), a1 (.iload_n 2), a1 (.aload_n 0), a0 (.getfield 290) 3 246 0 4 17 0, none, none],
  [a3 (.if_icmp .ge 28), none, none, a1 (.iload_n 1), a1 (.aload_n 0), a2 (.bipush 7), none, a1 (.iload_n 2), a1 (.imul), a0 (.invokevirtual 335) 3 371 10 230 2 0, none, none, a3 (.ifCond .ge 7), none, none, a1 (.iconst 0), a3 (.goto 4), none, none, a1 (.iconst 1), a1 (.iadd), a1 (.istore_n 1), a3 (.iinc 2 1), none, none, a3 (.goto (-30)), none, none, a1 (.iload_n 1), a1 (.ireturn)]]
/-- 221: EnvyRustModel.next -/
noncomputable def mk_221 : List (List (Option mEnt)) := [[a1 (.aload_n 0), a1 (.aload_n 0), a0 (.getfield 257) 3 240 0 4 11 0, none, none, a0 (.putfield 260) 3 239 0 4 10 0, none, none, a1 (.aload_n 0), a1 (.aload_n 0), a0 (.getfield 260) 3 239 0 4 10 0, none, none, a0 (.invokevirtual 263) 3 353 10 222 2 0, none, none, a2 (.bipush 32), none, a3 (.if_icmp .ne 16), none, none, a1 (.aload_n 0), a1 (.dup), a0 (.getfield 260) 3 239 0 4 10 0, none, none, a1 (.iconst 1), a1 (.iadd), a0 (.putfield 260) 3 239 0 4 10 0, none, none, a3 (.goto (-23))],
  [none, none, a1 (.aload_n 0), a1 (.aload_n 0), a0 (.getfield 260) 3 239 0 4 10 0, none, none, a0 (.invokevirtual 263) 3 353 10 222 2 0, none, none, a1 (.istore_n 1), a1 (.aload_n 0), a1 (.aload_n 0), a0 (.getfield 260) 3 239 0 4 10 0, none, none, a0 (.putfield 257) 3 240 0 4 11 0, none, none, a1 (.aload_n 0), a1 (.iconst 0), a0 (.putfield 266) 3 242 0 4 13 0, none, none, a1 (.iload_n 1), a3 (.ifCond .ge 11), none, none, a1 (.aload_n 0), a1 (.iconst 0), a0 (.putfield 269) 3 241 0 4 12 0, none],
  [none, a3 (.goto 141), none, none, a1 (.iload_n 1), a2 (.bipush 97), none, a2 (.bipush 122), none, a0 (.invokestatic 80) 3 254 12 133 3 0, none, none, a3 (.ifCond .eq 39), none, none, a1 (.aload_n 0), a1 (.iconst 1), a0 (.putfield 269) 3 241 0 4 12 0, none, none, a1 (.aload_n 0), a1 (.aload_n 0), a0 (.getfield 257) 3 240 0 4 11 0, none, none, a0 (.invokevirtual 263) 3 353 10 222 2 0, none, none, a2 (.bipush 97), none, a2 (.bipush 122), none],
  [a0 (.invokestatic 80) 3 254 12 133 3 0, none, none, a3 (.ifCond .eq 107), none, none, a1 (.aload_n 0), a1 (.dup), a0 (.getfield 257) 3 240 0 4 11 0, none, none, a1 (.iconst 1), a1 (.iadd), a0 (.putfield 257) 3 240 0 4 11 0, none, none, a3 (.goto (-28)), none, none, a1 (.iload_n 1), a2 (.bipush 48), none, a2 (.bipush 57), none, a0 (.invokestatic 80) 3 254 12 133 3 0, none, none, a3 (.ifCond .eq 68), none, none, a1 (.aload_n 0), a1 (.iconst 2)],
  [a0 (.putfield 269) 3 241 0 4 12 0, none, none, a1 (.aload_n 0), a1 (.aload_n 0), a0 (.getfield 257) 3 240 0 4 11 0, none, none, a0 (.invokevirtual 263) 3 353 10 222 2 0, none, none, a2 (.bipush 48), none, a2 (.bipush 57), none, a0 (.invokestatic 80) 3 254 12 133 3 0, none, none, a3 (.ifCond .eq 60), none, none, a1 (.aload_n 0), a3 (.sipush 1000), none, none, a2 (.bipush 10), none, a1 (.aload_n 0), a0 (.getfield 266) 3 242 0 4 13 0, none, none, a1 (.imul)],
  [a1 (.aload_n 0), a1 (.aload_n 0), a0 (.getfield 257) 3 240 0 4 11 0, none, none, a0 (.invokevirtual 263) 3 353 10 222 2 0, none, none, a1 (.iadd), a2 (.bipush 48), none, a1 (.isub), a0 (.invokestatic 128) 3 273 25 0 0 0, none, none, a0 (.putfield 266) 3 242 0 4 13 0, none, none, a1 (.aload_n 0), a1 (.dup), a0 (.getfield 257) 3 240 0 4 11 0, none, none, a1 (.iconst 1), a1 (.iadd), a0 (.putfield 257) 3 240 0 4 11 0, none, none, a3 (.goto (-57)), none, none, a1 (.aload_n 0)],
  [a1 (.iconst 3), a0 (.putfield 269) 3 241 0 4 12 0, none, none, a1 (.aload_n 0), a1 (.dup), a0 (.getfield 257) 3 240 0 4 11 0, none, none, a1 (.iconst 1), a1 (.iadd), a0 (.putfield 257) 3 240 0 4 11 0, none, none, a1 (.return_)]]
/-- 222: EnvyRustModel.byteAt -/
noncomputable def mk_222 : List (List (Option mEnt)) := [[a1 (.iload_n 1), a1 (.aload_n 0), a0 (.getfield 254) 3 238 0 4 9 0, none, none, a3 (.if_icmp .ge 12), none, none, a1 (.aload_n 0), a0 (.getfield 32) 3 237 0 4 8 0, none, none, a1 (.iload_n 1), a1 (.iaload), a3 (.goto 4), none, none, a1 (.iconst (-1)), a1 (.ireturn)]]
/-- 223: EnvyRustModel.readItem -/
noncomputable def mk_223_0 : List (List (Option mEnt)) := [[a1 (.aload_n 0), a0 (.invokevirtual 300) 3 355 10 224 1 0, none, none, a1 (.istore_n 1), a1 (.iload_n 1), a3 (.ifCond .lt 149), none, none, a1 (.aload_n 0), a1 (.aload_n 0), a0 (.getfield 303) 3 248 0 4 19 0, none, none, a2 (.bipush 8), none, a3 (.if_icmp .ge 7), none, none, a1 (.iconst 1), a3 (.goto 4), none, none, a1 (.iconst 0), a0 (.invokevirtual 286) 3 359 10 226 2 0, none, none, a1 (.aload_n 0), a1 (.dup), a0 (.getfield 303) 3 248 0 4 19 0, none, none],
  [a1 (.iconst 1), a1 (.iadd), a0 (.putfield 303) 3 248 0 4 19 0, none, none, a1 (.aload_n 0), a0 (.ldc_w 306) 3 360 3 0 8 0, none, none, a1 (.iconst 0), a1 (.iconst 0), a2 (.bipush 15), none, a0 (.invokevirtual 307) 3 361 10 227 5 0, none, none, a1 (.istore_n 2), a1 (.aload_n 0), a0 (.ldc_w 311) 3 363 3 0 9 0, none, none, a1 (.iconst 1), a1 (.iconst 0), a2 (.bipush 15), none, a0 (.invokevirtual 307) 3 361 10 227 5 0, none, none, a1 (.istore_n 3), a1 (.aload_n 0), a0 (.ldc_w 313) 3 364 3 0 10 0, none],
  [none, a1 (.iconst (-1)), a1 (.iconst 0), a2 (.bipush 9), none, a0 (.invokevirtual 307) 3 361 10 227 5 0, none, none, a2 (.istore 4), none, a2 (.iload 4), none, a3 (.ifCond .ge 7), none, none, a1 (.iconst 1), a3 (.goto 10), none, none, a1 (.aload_n 0), a1 (.iconst 0), a2 (.bipush 9), none, a0 (.invokevirtual 297) 3 362 10 228 3 0, none, none, a2 (.istore 5), none, a2 (.iload 4), none, a3 (.ifCond .ge 7), none],
  [none, a1 (.iconst 1), a3 (.goto 10), none, none, a1 (.aload_n 0), a1 (.iconst 0), a2 (.bipush 9), none, a0 (.invokevirtual 297) 3 362 10 228 3 0, none, none, a2 (.istore 6), none, a2 (.iload 4), none, a3 (.ifCond .ge 7), none, none, a1 (.iconst 1), a3 (.goto 10), none, none, a1 (.aload_n 0), a1 (.iconst 0), a2 (.bipush 9), none, a0 (.invokevirtual 297) 3 362 10 228 3 0, none, none, a2 (.istore 7), none],
  [a1 (.aload_n 0), a1 (.iload_n 1), a1 (.iload_n 2), a1 (.iload_n 3), a2 (.iload 4), none, a3 (.ifCond .ge 7), none, none, a1 (.iconst 1), a3 (.goto 5), none, none, a2 (.iload 4), none, a2 (.iload 5), none, a2 (.iload 6), none, a2 (.iload 7), none, a0 (.invokevirtual 315) 3 365 10 229 8 0, none, none, a3 (.goto 138), none, none, a1 (.aload_n 0), a1 (.aload_n 0), a0 (.ldc_w 319) 3 366 3 0 0 0, none, none],
  [a0 (.invokevirtual 293) 3 356 10 225 2 0, none, none, a3 (.ifCond .eq 16), none, none, a1 (.aload_n 0), a0 (.getfield 321) 3 247 0 4 18 0, none, none, a2 (.bipush 8), none, a3 (.if_icmp .ge 7), none, none, a1 (.iconst 1), a3 (.goto 4), none, none, a1 (.iconst 0), a0 (.invokevirtual 286) 3 359 10 226 2 0, none, none, a1 (.aload_n 0), a1 (.iconst 0), a1 (.iconst 3), a0 (.invokevirtual 297) 3 362 10 228 3 0, none, none, a1 (.istore_n 2), a1 (.aload_n 0), a0 (.ldc_w 306) 3 360 3 0 8 0],
  [none, none, a1 (.iconst 0), a1 (.iconst 0), a2 (.bipush 15), none, a0 (.invokevirtual 307) 3 361 10 227 5 0, none, none, a1 (.istore_n 3), a1 (.aload_n 0), a0 (.ldc_w 324) 3 367 3 0 11 0, none, none, a2 (.bipush 100), none, a1 (.iconst 0), a3 (.sipush 999), none, none, a0 (.invokevirtual 307) 3 361 10 227 5 0, none, none, a2 (.istore 4), none, a1 (.aload_n 0), a0 (.ldc_w 326) 3 368 3 0 12 0, none, none, a1 (.iconst 0), a1 (.iconst 0), a2 (.bipush 9)],
  [none, a0 (.invokevirtual 307) 3 361 10 227 5 0, none, none, a2 (.istore 5), none, a1 (.aload_n 0), a0 (.ldc_w 328) 3 369 3 0 13 0, none, none, a1 (.iconst (-1)), a1 (.iconst 0), a1 (.aload_n 0), a0 (.getfield 303) 3 248 0 4 19 0, none, none, a1 (.iconst 1), a1 (.isub), a0 (.invokevirtual 307) 3 361 10 227 5 0, none, none, a2 (.istore 6), none, a1 (.aload_n 0), a0 (.ldc_w 330) 3 370 3 0 14 0, none, none, a1 (.iconst (-1)), a1 (.iconst 0), a1 (.aload_n 0), a0 (.getfield 321) 3 247 0 4 18 0, none]]
noncomputable def mk_223_1 : List (List (Option mEnt)) := [[none, a1 (.iconst 1), a1 (.isub), a0 (.invokevirtual 307) 3 361 10 227 5 0, none, none, a2 (.istore 7), none, a1 (.aload_n 0), a1 (.dup), a0 (.getfield 321) 3 247 0 4 18 0, none, none, a1 (.iconst 1), a1 (.iadd), a0 (.putfield 321) 3 247 0 4 18 0, none, none, a1 (.aload_n 0), a2 (.bipush 10), none, a1 (.iload_n 2), a1 (.iload_n 3), a2 (.iload 4), none, a2 (.iload 5), none, a2 (.iload 6), none, a2 (.iload 7), none, a0 (.invokevirtual 315) 3 365 10 229 8 0],
  [none, none, a1 (.return_)]]
noncomputable def mk_223 : List (List (Option mEnt)) := mk_223_0 ++ (mk_223_1)
/-- 224: EnvyRustModel.kindTold -/
noncomputable def mk_224 : List (List (Option mEnt)) := [[a1 (.iconst (-1)), a1 (.istore_n 1), a1 (.iconst 0), a1 (.istore_n 2), a1 (.iload_n 2), a1 (.aload_n 0), a0 (.getfield 51) 3 244 0 4 15 0, none, none, a1 (.arraylength), a3 (.if_icmp .ge 28), none, none, a1 (.aload_n 0), a1 (.aload_n 0), a0 (.getfield 51) 3 244 0 4 15 0, none, none, a1 (.iload_n 2), a1 (.aaload), a0 (.invokevirtual 293) 3 356 10 225 2 0, none, none, a3 (.ifCond .eq 7), none, none, a1 (.iload_n 2), a3 (.goto 4), none, none, a1 (.iload_n 1), a1 (.istore_n 1)],
  [a3 (.iinc 2 1), none, none, a3 (.goto (-31)), none, none, a1 (.iload_n 1), a1 (.ireturn)]]
/-- 225: EnvyRustModel.isWord -/
noncomputable def mk_225 : List (List (Option mEnt)) := [[a1 (.aload_n 0), a0 (.getfield 269) 3 241 0 4 12 0, none, none, a1 (.iconst 1), a3 (.if_icmp .ne 23), none, none, a1 (.aload_n 0), a0 (.getfield 257) 3 240 0 4 11 0, none, none, a1 (.aload_n 0), a0 (.getfield 260) 3 239 0 4 10 0, none, none, a1 (.isub), a1 (.aload_n 1), a0 (.invokevirtual 272) 3 357 22 0 0 0, none, none, a3 (.if_icmp .ne 7), none, none, a1 (.iconst 1), a3 (.goto 4), none, none, a1 (.iconst 0), a1 (.istore_n 2), a1 (.iconst 0), a1 (.istore_n 3)],
  [a1 (.iload_n 3), a1 (.aload_n 1), a0 (.invokevirtual 272) 3 357 22 0 0 0, none, none, a3 (.if_icmp .ge 38), none, none, a1 (.iload_n 2), a3 (.ifCond .eq 34), none, none, a1 (.aload_n 0), a0 (.getfield 32) 3 237 0 4 8 0, none, none, a1 (.aload_n 0), a0 (.getfield 260) 3 239 0 4 10 0, none, none, a1 (.iload_n 3), a1 (.iadd), a1 (.iaload), a1 (.aload_n 1), a1 (.iload_n 3), a0 (.invokevirtual 275) 3 358 23 0 0 0, none, none, a3 (.if_icmp .ne 7), none, none, a1 (.iconst 1)],
  [a3 (.goto 4), none, none, a1 (.iconst 0), a1 (.istore_n 2), a3 (.iinc 3 1), none, none, a3 (.goto (-40)), none, none, a1 (.iload_n 2), a1 (.ireturn)]]
/-- 226: EnvyRustModel.must -/
noncomputable def mk_226 : List (List (Option mEnt)) := [[a1 (.aload_n 0), a1 (.aload_n 0), a0 (.getfield 279) 3 243 0 4 14 0, none, none, a3 (.ifCond .ne 7), none, none, a1 (.iload_n 1), a3 (.ifCond .ne 7), none, none, a1 (.iconst 1), a3 (.goto 4), none, none, a1 (.iconst 0), a0 (.putfield 279) 3 243 0 4 14 0, none, none, a1 (.aload_n 0), a0 (.getfield 279) 3 243 0 4 14 0, none, none, a3 (.ifCond .ne 7), none, none, a1 (.aload_n 0), a0 (.invokevirtual 283) 3 352 10 221 1 0, none, none, a1 (.return_)]]
/-- 227: EnvyRustModel.afterWord -/
noncomputable def mk_227 : List (List (Option mEnt)) := [[a1 (.aload_n 0), a0 (.getfield 279) 3 243 0 4 14 0, none, none, a3 (.ifCond .ne 11), none, none, a1 (.aload_n 0), a1 (.aload_n 1), a0 (.invokevirtual 293) 3 356 10 225 2 0, none, none, a3 (.ifCond .ne 5), none, none, a1 (.iload_n 2), a1 (.ireturn), a1 (.aload_n 0), a1 (.iconst 1), a0 (.invokevirtual 286) 3 359 10 226 2 0, none, none, a1 (.aload_n 0), a1 (.iload_n 3), a2 (.iload 4), none, a0 (.invokevirtual 297) 3 362 10 228 3 0, none, none, a1 (.ireturn)]]
/-- 228: EnvyRustModel.number -/
noncomputable def mk_228 : List (List (Option mEnt)) := [[a1 (.aload_n 0), a0 (.getfield 266) 3 242 0 4 13 0, none, none, a1 (.istore_n 3), a1 (.aload_n 0), a1 (.aload_n 0), a0 (.getfield 269) 3 241 0 4 12 0, none, none, a1 (.iconst 2), a3 (.if_icmp .ne 16), none, none, a1 (.iload_n 3), a1 (.iload_n 1), a1 (.iload_n 2), a0 (.invokestatic 80) 3 254 12 133 3 0, none, none, a3 (.ifCond .eq 7), none, none, a1 (.iconst 1), a3 (.goto 4), none, none, a1 (.iconst 0), a0 (.invokevirtual 286) 3 359 10 226 2 0, none, none, a1 (.iload_n 3)],
  [a1 (.ireturn)]]
/-- 229: EnvyRustModel.item -/
noncomputable def mk_229 : List (List (Option mEnt)) := [[a2 (.bipush 7), none, a1 (.aload_n 0), a0 (.getfield 290) 3 246 0 4 17 0, none, none, a1 (.imul), a2 (.istore 8), none, a1 (.aload_n 0), a0 (.getfield 55) 3 245 0 4 16 0, none, none, a2 (.iload 8), none, a1 (.iload_n 1), a1 (.iastore), a1 (.aload_n 0), a0 (.getfield 55) 3 245 0 4 16 0, none, none, a2 (.iload 8), none, a1 (.iconst 1), a1 (.iadd), a1 (.iload_n 2), a1 (.iastore), a1 (.aload_n 0), a0 (.getfield 55) 3 245 0 4 16 0, none, none, a2 (.iload 8)],
  [none, a1 (.iconst 2), a1 (.iadd), a1 (.iload_n 3), a1 (.iastore), a1 (.aload_n 0), a0 (.getfield 55) 3 245 0 4 16 0, none, none, a2 (.iload 8), none, a1 (.iconst 3), a1 (.iadd), a2 (.iload 4), none, a1 (.iastore), a1 (.aload_n 0), a0 (.getfield 55) 3 245 0 4 16 0, none, none, a2 (.iload 8), none, a1 (.iconst 4), a1 (.iadd), a2 (.iload 5), none, a1 (.iastore), a1 (.aload_n 0), a0 (.getfield 55) 3 245 0 4 16 0, none, none, a2 (.iload 8)],
  [none, a1 (.iconst 5), a1 (.iadd), a2 (.iload 6), none, a1 (.iastore), a1 (.aload_n 0), a0 (.getfield 55) 3 245 0 4 16 0, none, none, a2 (.iload 8), none, a2 (.bipush 6), none, a1 (.iadd), a2 (.iload 7), none, a1 (.iastore), a1 (.aload_n 0), a1 (.dup), a0 (.getfield 290) 3 246 0 4 17 0, none, none, a1 (.iconst 1), a1 (.iadd), a0 (.putfield 290) 3 246 0 4 17 0, none, none, a1 (.return_)]]
/-- 230: EnvyRustModel.isToldSo -/
noncomputable def mk_230 : List (List (Option mEnt)) := [[a1 (.aload_n 0), a0 (.getfield 55) 3 245 0 4 16 0, none, none, a1 (.iload_n 1), a1 (.iaload), a2 (.bipush 10), none, a3 (.if_icmp .ne 57), none, none, a1 (.aload_n 0), a1 (.aload_n 0), a0 (.getfield 55) 3 245 0 4 16 0, none, none, a1 (.iload_n 1), a1 (.iconst 1), a1 (.iadd), a1 (.iaload), a1 (.aload_n 0), a0 (.getfield 55) 3 245 0 4 16 0, none, none, a1 (.iload_n 1), a1 (.iconst 2), a1 (.iadd), a1 (.iaload), a1 (.aload_n 0), a0 (.getfield 55) 3 245 0 4 16 0, none, none],
  [a1 (.iload_n 1), a1 (.iconst 3), a1 (.iadd), a1 (.iaload), a1 (.aload_n 0), a0 (.getfield 55) 3 245 0 4 16 0, none, none, a1 (.iload_n 1), a1 (.iconst 4), a1 (.iadd), a1 (.iaload), a1 (.aload_n 0), a0 (.getfield 55) 3 245 0 4 16 0, none, none, a1 (.iload_n 1), a1 (.iconst 5), a1 (.iadd), a1 (.iaload), a1 (.aload_n 0), a0 (.getfield 55) 3 245 0 4 16 0, none, none, a1 (.iload_n 1), a2 (.bipush 6), none, a1 (.iadd), a1 (.iaload), a0 (.invokevirtual 96) 3 259 10 136 7 0, none, none],
  [a1 (.ireturn), a1 (.aload_n 0), a1 (.aload_n 0), a0 (.getfield 55) 3 245 0 4 16 0, none, none, a1 (.iload_n 1), a1 (.iaload), a1 (.aload_n 0), a0 (.getfield 55) 3 245 0 4 16 0, none, none, a1 (.iload_n 1), a1 (.iconst 1), a1 (.iadd), a1 (.iaload), a1 (.aload_n 0), a0 (.getfield 55) 3 245 0 4 16 0, none, none, a1 (.iload_n 1), a1 (.iconst 2), a1 (.iadd), a1 (.iaload), a0 (.invokevirtual 159) 3 284 10 158 4 0, none, none, a1 (.istore_n 2), a1 (.iconst 0), a1 (.istore_n 3), a1 (.iload_n 3), a1 (.iconst 4)],
  [a3 (.if_icmp .ge 31), none, none, a1 (.aload_n 0), a0 (.getfield 9) 3 229 0 4 0 0, none, none, a1 (.iload_n 2), a1 (.iconst 3), a1 (.iload_n 3), a1 (.iadd), a0 (.invokestatic 88) 3 265 12 142 2 0, none, none, a1 (.aload_n 0), a0 (.getfield 55) 3 245 0 4 16 0, none, none, a1 (.iload_n 1), a1 (.iconst 3), a1 (.iadd), a1 (.iload_n 3), a1 (.iadd), a1 (.iaload), a1 (.iastore), a3 (.iinc 3 1), none, none, a3 (.goto (-30)), none, none, a1 (.iload_n 2)],
  [a1 (.ireturn)]]
/-- 231: EnvyRustModel.hold -/
noncomputable def mk_231 : List (List (Option mEnt)) := [[a1 (.iload_n 1), a0 (.invokestatic 338) 3 373 12 232 1 0, none, none, a3 (.ifCond .eq 16), none, none, a1 (.iload_n 2), a1 (.iconst (-1)), a3 (.if_icmp .eq 18), none, none, a1 (.aload_n 0), a1 (.iload_n 2), a0 (.invokevirtual 143) 3 278 10 153 2 0, none, none, a3 (.ifCond .ne 10), none, none, a1 (.aload_n 0), a0 (.ldc 70) 2 256 2 0 0 (-1000001), none, a0 (.invokevirtual 76) 3 257 10 135 2 0, none, none, a1 (.ireturn), a1 (.aload_n 0), a0 (.getfield 9) 3 229 0 4 0 0, none, none, a1 (.iconst 4)],
  [a1 (.iload_n 1), a1 (.iadd), a1 (.iload_n 2), a1 (.iastore), a1 (.iconst 1), a1 (.ireturn)]]
/-- 232: EnvyRustModel.isSpot -/
noncomputable def mk_232 : List (List (Option mEnt)) := [[a1 (.iload_n 0), a1 (.iconst 0), a2 (.bipush 9), none, a0 (.invokestatic 80) 3 254 12 133 3 0, none, none, a1 (.ireturn)]]
/-- 233: EnvyRustModel.as -/
noncomputable def mk_233 : List (List (Option mEnt)) := [[a1 (.iload_n 1), a0 (.invokestatic 338) 3 373 12 232 1 0, none, none, a3 (.ifCond .eq 10), none, none, a1 (.iload_n 2), a0 (.invokestatic 156) 3 283 12 157 1 0, none, none, a3 (.ifCond .ne 10), none, none, a1 (.aload_n 0), a0 (.ldc 70) 2 256 2 0 0 (-1000001), none, a0 (.invokevirtual 76) 3 257 10 135 2 0, none, none, a1 (.ireturn), a1 (.aload_n 0), a0 (.getfield 9) 3 229 0 4 0 0, none, none, a1 (.iconst 4), a1 (.iload_n 1), a1 (.iadd), a1 (.iaload), a1 (.istore_n 3), a1 (.iload_n 3), a3 (.ifCond .ge 10)],
  [none, none, a1 (.aload_n 0), a0 (.ldc 240) 2 340 2 0 0 (-1000006), none, a0 (.invokevirtual 76) 3 257 10 135 2 0, none, none, a1 (.ireturn), a1 (.aload_n 0), a1 (.iload_n 3), a1 (.iconst 0), a0 (.invokevirtual 109) 3 264 10 141 3 0, none, none, a1 (.iload_n 2), a0 (.invokestatic 112) 3 270 12 147 2 0, none, none, a3 (.ifCond .eq 7), none, none, a1 (.iload_n 3), a3 (.goto 10), none, none, a1 (.aload_n 0), a0 (.ldc_w 341) 3 375 2 0 0 (-1000003), none, none, a0 (.invokevirtual 76) 3 257 10 135 2 0, none],
  [none, a1 (.ireturn)]]
/-- 234: EnvyRustModel.sheet -/
noncomputable def mk_234 : List (List (Option mEnt)) := [[a1 (.iload_n 1), a0 (.invokestatic 237) 3 339 12 210 1 0, none, none, a3 (.ifCond .eq 25), none, none, a1 (.iload_n 2), a3 (.ifCond .eq 28), none, none, a1 (.iload_n 2), a2 (.bipush 8), none, a3 (.if_icmp .eq 22), none, none, a1 (.iload_n 2), a2 (.bipush 16), none, a3 (.if_icmp .eq 16), none, none, a1 (.iload_n 2), a2 (.bipush 32), none, a3 (.if_icmp .eq 10), none, none, a1 (.aload_n 0), a0 (.ldc 70) 2 256 2 0 0 (-1000001), none],
  [a0 (.invokevirtual 76) 3 257 10 135 2 0, none, none, a1 (.ireturn), a1 (.iload_n 3), a3 (.ifCond .ge 11), none, none, a1 (.aload_n 0), a0 (.ldc_w 342) 3 377 2 0 0 (-1000007), none, none, a0 (.invokevirtual 76) 3 257 10 135 2 0, none, none, a1 (.ireturn), a1 (.iload_n 3), a2 (.bipush 40), none, a3 (.if_icmp .le 10), none, none, a1 (.aload_n 0), a0 (.ldc 70) 2 256 2 0 0 (-1000001), none, a0 (.invokevirtual 76) 3 257 10 135 2 0, none, none, a1 (.ireturn), a1 (.aload_n 0), a0 (.getfield 58) 3 249 0 4 20 0, none],
  [none, a1 (.iload_n 1), a1 (.iload_n 2), a1 (.iastore), a1 (.aload_n 0), a0 (.getfield 61) 3 250 0 4 21 0, none, none, a1 (.iload_n 1), a1 (.iload_n 2), a3 (.ifCond .ne 7), none, none, a1 (.iconst 0), a3 (.goto 4), none, none, a1 (.iload_n 3), a1 (.iastore), a1 (.iconst 0), a2 (.istore 4), none, a2 (.iload 4), none, a2 (.bipush 40), none, a3 (.if_icmp .ge 22), none, none, a1 (.aload_n 0), a0 (.getfield 64) 3 251 0 4 22 0, none],
  [none, a2 (.bipush 40), none, a1 (.iload_n 1), a1 (.imul), a2 (.iload 4), none, a1 (.iadd), a1 (.iconst 0), a1 (.iastore), a3 (.iinc 4 1), none, none, a3 (.goto (-23)), none, none, a1 (.aload_n 0), a0 (.getfield 61) 3 250 0 4 21 0, none, none, a1 (.iload_n 1), a1 (.iaload), a1 (.ireturn)]]
/-- 235: EnvyRustModel.write -/
noncomputable def mk_235 : List (List (Option mEnt)) := [[a1 (.iload_n 1), a0 (.invokestatic 237) 3 339 12 210 1 0, none, none, a3 (.ifCond .ne 10), none, none, a1 (.aload_n 0), a0 (.ldc 70) 2 256 2 0 0 (-1000001), none, a0 (.invokevirtual 76) 3 257 10 135 2 0, none, none, a1 (.ireturn), a1 (.aload_n 0), a0 (.getfield 58) 3 249 0 4 20 0, none, none, a1 (.iload_n 1), a1 (.iaload), a3 (.ifCond .ne 10), none, none, a1 (.aload_n 0), a0 (.ldc 240) 2 340 2 0 0 (-1000006), none, a0 (.invokevirtual 76) 3 257 10 135 2 0, none, none, a1 (.ireturn), a1 (.iload_n 2), a1 (.iconst 0)],
  [a1 (.aload_n 0), a0 (.getfield 61) 3 250 0 4 21 0, none, none, a1 (.iload_n 1), a1 (.iaload), a1 (.iconst 1), a1 (.isub), a0 (.invokestatic 80) 3 254 12 133 3 0, none, none, a3 (.ifCond .ne 10), none, none, a1 (.aload_n 0), a0 (.ldc 70) 2 256 2 0 0 (-1000001), none, a0 (.invokevirtual 76) 3 257 10 135 2 0, none, none, a1 (.ireturn), a1 (.aload_n 0), a0 (.getfield 64) 3 251 0 4 22 0, none, none, a2 (.bipush 40), none, a1 (.iload_n 1), a1 (.imul), a1 (.iload_n 2), a1 (.iadd), a1 (.iload_n 3)],
  [a1 (.aload_n 0), a0 (.getfield 58) 3 249 0 4 20 0, none, none, a1 (.iload_n 1), a1 (.iaload), a0 (.invokestatic 343) 3 379 12 236 2 0, none, none, a1 (.iastore), a1 (.iconst 1), a1 (.ireturn)]]
/-- 236: EnvyRustModel.cutTo -/
noncomputable def mk_236 : List (List (Option mEnt)) := [[a1 (.iload_n 1), a2 (.bipush 8), none, a3 (.if_icmp .ne 8), none, none, a1 (.iload_n 0), a1 (.i2b), a3 (.goto 15), none, none, a1 (.iload_n 1), a2 (.bipush 16), none, a3 (.if_icmp .ne 8), none, none, a1 (.iload_n 0), a1 (.i2s), a3 (.goto 4), none, none, a1 (.iload_n 0), a1 (.ireturn)]]
/-- 237: EnvyRustModel.copy -/
noncomputable def mk_237 : List (List (Option mEnt)) := [[a1 (.iload_n 1), a0 (.invokestatic 237) 3 339 12 210 1 0, none, none, a3 (.ifCond .eq 10), none, none, a1 (.iload_n 3), a0 (.invokestatic 237) 3 339 12 210 1 0, none, none, a3 (.ifCond .ne 10), none, none, a1 (.aload_n 0), a0 (.ldc 70) 2 256 2 0 0 (-1000001), none, a0 (.invokevirtual 76) 3 257 10 135 2 0, none, none, a1 (.ireturn), a1 (.aload_n 0), a0 (.getfield 58) 3 249 0 4 20 0, none, none, a1 (.iload_n 1), a1 (.iaload), a3 (.ifCond .eq 12), none, none, a1 (.aload_n 0), a0 (.getfield 58) 3 249 0 4 20 0],
  [none, none, a1 (.iload_n 3), a1 (.iaload), a3 (.ifCond .ne 10), none, none, a1 (.aload_n 0), a0 (.ldc 240) 2 340 2 0 0 (-1000006), none, a0 (.invokevirtual 76) 3 257 10 135 2 0, none, none, a1 (.ireturn), a1 (.aload_n 0), a0 (.getfield 58) 3 249 0 4 20 0, none, none, a1 (.iload_n 1), a1 (.iaload), a1 (.aload_n 0), a0 (.getfield 58) 3 249 0 4 20 0, none, none, a1 (.iload_n 3), a1 (.iaload), a3 (.if_icmp .eq 11), none, none, a1 (.aload_n 0), a0 (.ldc_w 341) 3 375 2 0 0 (-1000003), none],
  [none, a0 (.invokevirtual 76) 3 257 10 135 2 0, none, none, a1 (.ireturn), a1 (.iload_n 2), a3 (.ifCond .lt 48), none, none, a2 (.iload 4), none, a3 (.ifCond .lt 43), none, none, a2 (.iload 5), none, a3 (.ifCond .lt 38), none, none, a1 (.iload_n 2), a1 (.i2l), a2 (.iload 5), none, a1 (.i2l), a1 (.ladd), a1 (.aload_n 0), a0 (.getfield 61) 3 250 0 4 21 0, none, none, a1 (.iload_n 1), a1 (.iaload), a1 (.i2l)],
  [a1 (.lcmp), a3 (.ifCond .gt 21), none, none, a2 (.iload 4), none, a1 (.i2l), a2 (.iload 5), none, a1 (.i2l), a1 (.ladd), a1 (.aload_n 0), a0 (.getfield 61) 3 250 0 4 21 0, none, none, a1 (.iload_n 3), a1 (.iaload), a1 (.i2l), a1 (.lcmp), a3 (.ifCond .le 10), none, none, a1 (.aload_n 0), a0 (.ldc 70) 2 256 2 0 0 (-1000001), none, a0 (.invokevirtual 76) 3 257 10 135 2 0, none, none, a1 (.ireturn), a1 (.iconst 0), a2 (.istore 6), none],
  [a2 (.iload 6), none, a2 (.iload 5), none, a3 (.if_icmp .ge 30), none, none, a1 (.aload_n 0), a0 (.getfield 67) 3 252 0 4 23 0, none, none, a2 (.iload 6), none, a1 (.aload_n 0), a0 (.getfield 64) 3 251 0 4 22 0, none, none, a2 (.bipush 40), none, a1 (.iload_n 1), a1 (.imul), a1 (.iload_n 2), a1 (.iadd), a2 (.iload 6), none, a1 (.iadd), a1 (.iaload), a1 (.iastore), a3 (.iinc 6 1), none, none, a3 (.goto (-31))],
  [none, none, a1 (.iconst 0), a2 (.istore 6), none, a2 (.iload 6), none, a2 (.iload 5), none, a3 (.if_icmp .ge 31), none, none, a1 (.aload_n 0), a0 (.getfield 64) 3 251 0 4 22 0, none, none, a2 (.bipush 40), none, a1 (.iload_n 3), a1 (.imul), a2 (.iload 4), none, a1 (.iadd), a2 (.iload 6), none, a1 (.iadd), a1 (.aload_n 0), a0 (.getfield 67) 3 252 0 4 23 0, none, none, a2 (.iload 6), none],
  [a1 (.iaload), a1 (.iastore), a3 (.iinc 6 1), none, none, a3 (.goto (-32)), none, none, a2 (.iload 5), none, a1 (.ireturn)]]
/-- 238: EnvyRustModel.load -/
noncomputable def mk_238 : List (List (Option mEnt)) := [[a1 (.aload_n 0), a1 (.iload_n 1), a0 (.invokevirtual 244) 3 338 10 209 2 0, none, none, a3 (.ifCond .eq 13), none, none, a1 (.aload_n 0), a1 (.aload_n 0), a1 (.iload_n 1), a0 (.invokevirtual 244) 3 338 10 209 2 0, none, none, a0 (.invokevirtual 76) 3 257 10 135 2 0, none, none, a1 (.ireturn), a1 (.iconst 0), a1 (.istore_n 2), a1 (.iload_n 2), a1 (.aload_n 0), a0 (.getfield 61) 3 250 0 4 21 0, none, none, a1 (.iload_n 1), a1 (.iaload), a3 (.if_icmp .ge 55), none, none, a1 (.aload_n 0), a1 (.iload_n 2)],
  [a0 (.invokevirtual 131) 3 262 10 139 2 0, none, none, a3 (.ifCond .eq 47), none, none, a1 (.aload_n 0), a0 (.getfield 64) 3 251 0 4 22 0, none, none, a2 (.bipush 40), none, a1 (.iload_n 1), a1 (.imul), a1 (.iload_n 2), a1 (.iadd), a1 (.iaload), a0 (.invokestatic 137) 3 276 12 151 1 0, none, none, a3 (.ifCond .eq 30), none, none, a1 (.aload_n 0), a0 (.getfield 9) 3 229 0 4 0 0, none, none, a1 (.iload_n 2), a1 (.iconst 2), a0 (.invokestatic 84) 3 260 12 137 2 0, none, none],
  [a1 (.aload_n 0), a0 (.getfield 64) 3 251 0 4 22 0, none, none, a2 (.bipush 40), none, a1 (.iload_n 1), a1 (.imul), a1 (.iload_n 2), a1 (.iadd), a1 (.iaload), a1 (.iastore), a3 (.iinc 2 1), none, none, a3 (.goto (-59)), none, none, a1 (.iload_n 2), a1 (.ireturn)]]
/-- 239: EnvyRustModel.judge -/
noncomputable def mk_239 : List (List (Option mEnt)) := [[a1 (.aload_n 0), a1 (.iload_n 1), a0 (.invokevirtual 244) 3 338 10 209 2 0, none, none, a3 (.ifCond .eq 13), none, none, a1 (.aload_n 0), a1 (.aload_n 0), a1 (.iload_n 1), a0 (.invokevirtual 244) 3 338 10 209 2 0, none, none, a0 (.invokevirtual 76) 3 257 10 135 2 0, none, none, a1 (.ireturn), a1 (.iconst 0), a1 (.istore_n 2), a1 (.iconst 1), a1 (.istore_n 3), a1 (.iload_n 2), a1 (.aload_n 0), a0 (.getfield 61) 3 250 0 4 21 0, none, none, a1 (.iload_n 1), a1 (.iaload), a3 (.if_icmp .ge 77), none, none],
  [a1 (.iload_n 3), a3 (.ifCond .eq 73), none, none, a1 (.aload_n 0), a0 (.getfield 64) 3 251 0 4 22 0, none, none, a2 (.bipush 40), none, a1 (.iload_n 1), a1 (.imul), a1 (.iload_n 2), a1 (.iadd), a1 (.iaload), a2 (.istore 4), none, a1 (.aload_n 0), a2 (.iload 4), none, a0 (.invokevirtual 131) 3 262 10 139 2 0, none, none, a3 (.ifCond .eq 34), none, none, a1 (.iload_n 2), a3 (.ifCond .eq 26), none, none, a1 (.aload_n 0), a1 (.aload_n 0)],
  [a0 (.getfield 64) 3 251 0 4 22 0, none, none, a2 (.bipush 40), none, a1 (.iload_n 1), a1 (.imul), a1 (.iload_n 2), a1 (.iadd), a1 (.iconst 1), a1 (.isub), a1 (.iaload), a1 (.iconst 5), a0 (.invokevirtual 103) 3 266 10 143 3 0, none, none, a2 (.iload 4), none, a3 (.if_icmp .ne 7), none, none, a1 (.iconst 1), a3 (.goto 4), none, none, a1 (.iconst 0), a1 (.istore_n 3), a1 (.iload_n 2), a1 (.iload_n 3), a3 (.ifCond .eq 7), none, none],
  [a1 (.iconst 1), a3 (.goto 4), none, none, a1 (.iconst 0), a1 (.iadd), a1 (.istore_n 2), a3 (.goto (-81)), none, none, a1 (.iload_n 3), a3 (.ifCond .eq 7), none, none, a1 (.iconst 0), a3 (.goto 6), none, none, a1 (.iconst 1), a1 (.iload_n 2), a1 (.iadd), a1 (.ireturn)]]
/-- 240: EnvyRustModel.image -/
noncomputable def mk_240 : List (List (Option mEnt)) := [[a1 (.aload_n 0), a0 (.getfield 9) 3 229 0 4 0 0, none, none, a1 (.aload_n 0), a0 (.getfield 13) 3 230 0 4 1 0, none, none, a0 (.invokestatic 71) 3 301 12 174 2 0, none, none, a1 (.aload_n 0), a1 (.iconst 1), a0 (.putfield 346) 3 232 0 4 3 0, none, none, a1 (.iconst 1), a1 (.ireturn)]]
/-- 241: EnvyRustModel.undo -/
noncomputable def mk_241 : List (List (Option mEnt)) := [[a1 (.aload_n 0), a0 (.getfield 346) 3 232 0 4 3 0, none, none, a3 (.ifCond .ne 10), none, none, a1 (.aload_n 0), a0 (.ldc 75) 2 305 2 0 0 (-1000004), none, a0 (.invokevirtual 76) 3 257 10 135 2 0, none, none, a1 (.ireturn), a1 (.aload_n 0), a0 (.getfield 13) 3 230 0 4 1 0, none, none, a1 (.aload_n 0), a0 (.getfield 9) 3 229 0 4 0 0, none, none, a0 (.invokestatic 71) 3 301 12 174 2 0, none, none, a1 (.aload_n 0), a0 (.getfield 9) 3 229 0 4 0 0, none, none, a1 (.iconst 0), a1 (.iaload), a1 (.ireturn)]]
/-- 242: EnvyRustModel.tear -/
noncomputable def mk_242 : List (List (Option mEnt)) := [[a1 (.aload_n 0), a0 (.getfield 346) 3 232 0 4 3 0, none, none, a3 (.ifCond .eq 7), none, none, a1 (.iconst 1), a3 (.goto 4), none, none, a1 (.iconst 0), a1 (.istore_n 1), a1 (.aload_n 0), a1 (.iconst 0), a0 (.putfield 346) 3 232 0 4 3 0, none, none, a1 (.iload_n 1), a1 (.ireturn)]]
/-- 243: EnvyRustModel.count -/
noncomputable def mk_243 : List (List (Option mEnt)) := [[a1 (.iconst 0), a1 (.istore_n 2), a1 (.iload_n 1), a0 (.tableswitch 126 0 7 #[45, 52, 59, 66, 74, 79, 84, 91]) 45 0 0 0 0 0, none, none, none, none, none, none, none, none, none, none, none, none, none, none, none, none, none, none, none, none, none, none, none, none, none, none, none, none],
  [none, none, none, none, none, none, none, none, none, none, none, none, none, none, none, none, a1 (.aload_n 0), a0 (.getfield 9) 3 229 0 4 0 0, none, none, a1 (.iconst 0), a1 (.iaload), a1 (.ireturn), a1 (.aload_n 0), a0 (.getfield 9) 3 229 0 4 0 0, none, none, a1 (.iconst 1), a1 (.iaload), a1 (.ireturn), a1 (.aload_n 0), a0 (.getfield 9) 3 229 0 4 0 0],
  [none, none, a1 (.iconst 2), a1 (.iaload), a1 (.ireturn), a1 (.aload_n 0), a0 (.invokevirtual 177) 3 294 10 167 1 0, none, none, a0 (.invokestatic 181) 3 295 12 168 1 0, none, none, a1 (.ireturn), a1 (.aload_n 0), a0 (.invokevirtual 184) 3 297 10 170 1 0, none, none, a1 (.ireturn), a1 (.aload_n 0), a0 (.getfield 254) 3 238 0 4 9 0, none, none, a1 (.ireturn), a1 (.aload_n 0), a0 (.getfield 9) 3 229 0 4 0 0, none, none, a1 (.iconst 3), a1 (.iaload), a1 (.ireturn), a1 (.iconst 0), a1 (.istore_n 3)],
  [a1 (.iload_n 3), a2 (.bipush 10), none, a3 (.if_icmp .ge 28), none, none, a1 (.iload_n 2), a1 (.aload_n 0), a0 (.getfield 9) 3 229 0 4 0 0, none, none, a1 (.iconst 4), a1 (.iload_n 3), a1 (.iadd), a1 (.iaload), a3 (.ifCond .ge 7), none, none, a1 (.iconst 0), a3 (.goto 4), none, none, a1 (.iconst 1), a1 (.iadd), a1 (.istore_n 2), a3 (.iinc 3 1), none, none, a3 (.goto (-28)), none, none, a1 (.iload_n 2)],
  [a1 (.ireturn), a1 (.aload_n 0), a0 (.ldc 70) 2 256 2 0 0 (-1000001), none, a0 (.invokevirtual 76) 3 257 10 135 2 0, none, none, a1 (.ireturn)]]
/-- 244: EnvyRustModel.status -/
noncomputable def mk_244 : List (List (Option mEnt)) := [[a1 (.iload_n 1), a1 (.iconst (-1)), a2 (.bipush 6), none, a0 (.invokestatic 80) 3 254 12 133 3 0, none, none, a3 (.ifCond .eq 14), none, none, a1 (.aload_n 0), a0 (.getfield 19) 3 233 0 4 4 0, none, none, a1 (.iload_n 1), a1 (.iconst 1), a1 (.iadd), a1 (.iaload), a3 (.goto 9), none, none, a1 (.aload_n 0), a0 (.ldc 70) 2 256 2 0 0 (-1000001), none, a0 (.invokevirtual 76) 3 257 10 135 2 0, none, none, a1 (.ireturn)]]
/-- 245: EnvyRustLaw.law -/
noncomputable def mk_245_0 : List (List (Option mEnt)) := [[a0 (.new 7) 3 0 4 3 0 0, none, none, a1 (.dup), a0 (.invokespecial 9) 3 1 14 0 1 0, none, none, a1 (.astore_n 1), a0 (.new 10) 3 218 4 4 0 0, none, none, a1 (.dup), a0 (.invokespecial 12) 3 219 14 131 1 0, none, none, a1 (.astore_n 2), a1 (.iconst 0), a1 (.istore_n 3), a1 (.iload_n 3), a1 (.aload_n 0), a1 (.arraylength), a2 (.bipush 6), none, a1 (.isub), a3 (.if_icmp .gt 1701), none, none, a1 (.aload_n 0), a1 (.iload_n 3), a1 (.iaload), a2 (.bipush 63), none],
  [a1 (.iand), a0 (.tableswitch 1686 0 49 #[215, 248, 281, 324, 357, 390, 433, 466, 489, 512, 545, 568, 591, 614, 647, 680, 713, 746, 779, 802, 835, 868, 891, 914, 927, 940, 973, 1016, 1059, 1102, 1115, 1158, 1201, 1224, 1258, 1281, 1314, 1327, 1340, 1373, 1406, 1449, 1492, 1555, 1578, 1601, 1614, 1627, 1640, 1663]) 215 0 0 0 0 0, none, none, none, none, none, none, none, none, none, none, none, none, none, none, none, none, none, none, none, none, none, none, none, none, none, none, none, none, none, none],
  [none, none, none, none, none, none, none, none, none, none, none, none, none, none, none, none, none, none, none, none, none, none, none, none, none, none, none, none, none, none, none, none],
  [none, none, none, none, none, none, none, none, none, none, none, none, none, none, none, none, none, none, none, none, none, none, none, none, none, none, none, none, none, none, none, none],
  [none, none, none, none, none, none, none, none, none, none, none, none, none, none, none, none, none, none, none, none, none, none, none, none, none, none, none, none, none, none, none, none],
  [none, none, none, none, none, none, none, none, none, none, none, none, none, none, none, none, none, none, none, none, none, none, none, none, none, none, none, none, none, none, none, none],
  [none, none, none, none, none, none, none, none, none, none, none, none, none, none, none, none, none, none, none, none, none, none, none, none, none, none, none, none, none, none, none, none],
  [none, none, none, none, none, none, none, none, none, none, none, none, none, none, none, none, none, none, none, none, none, none, none, none, a1 (.aload_n 1), a1 (.aload_n 0), a1 (.iload_n 3), a1 (.iconst 1), a1 (.iadd), a1 (.iaload), a1 (.aload_n 0), a1 (.iload_n 3)]]
noncomputable def mk_245_1 : List (List (Option mEnt)) := [[a1 (.iconst 2), a1 (.iadd), a1 (.iaload), a0 (.invokevirtual 13) 3 58 10 5 3 0, none, none, a1 (.pop), a1 (.aload_n 2), a1 (.aload_n 0), a1 (.iload_n 3), a1 (.iconst 1), a1 (.iadd), a1 (.iaload), a1 (.aload_n 0), a1 (.iload_n 3), a1 (.iconst 2), a1 (.iadd), a1 (.iaload), a0 (.invokevirtual 17) 3 253 10 132 3 0, none, none, a1 (.pop), a3 (.goto 1441), none, none, a1 (.aload_n 1), a1 (.aload_n 0), a1 (.iload_n 3), a1 (.iconst 1), a1 (.iadd), a1 (.iaload), a1 (.aload_n 0)],
  [a1 (.iload_n 3), a1 (.iconst 2), a1 (.iadd), a1 (.iaload), a0 (.invokevirtual 18) 3 64 10 9 3 0, none, none, a1 (.pop), a1 (.aload_n 2), a1 (.aload_n 0), a1 (.iload_n 3), a1 (.iconst 1), a1 (.iadd), a1 (.iaload), a1 (.aload_n 0), a1 (.iload_n 3), a1 (.iconst 2), a1 (.iadd), a1 (.iaload), a0 (.invokevirtual 21) 3 261 10 138 3 0, none, none, a1 (.pop), a3 (.goto 1408), none, none, a1 (.aload_n 1), a1 (.aload_n 0), a1 (.iload_n 3), a1 (.iconst 1), a1 (.iadd), a1 (.iaload)],
  [a1 (.aload_n 0), a1 (.iload_n 3), a1 (.iconst 2), a1 (.iadd), a1 (.iaload), a1 (.aload_n 0), a1 (.iload_n 3), a1 (.iconst 3), a1 (.iadd), a1 (.iaload), a0 (.invokevirtual 22) 3 74 10 17 4 0, none, none, a1 (.pop), a1 (.aload_n 2), a1 (.aload_n 0), a1 (.iload_n 3), a1 (.iconst 1), a1 (.iadd), a1 (.iaload), a1 (.aload_n 0), a1 (.iload_n 3), a1 (.iconst 2), a1 (.iadd), a1 (.iaload), a1 (.aload_n 0), a1 (.iload_n 3), a1 (.iconst 3), a1 (.iadd), a1 (.iaload), a0 (.invokevirtual 26) 3 274 10 149 4 0, none],
  [none, a1 (.pop), a3 (.goto 1365), none, none, a1 (.aload_n 1), a1 (.aload_n 0), a1 (.iload_n 3), a1 (.iconst 1), a1 (.iadd), a1 (.iaload), a1 (.aload_n 0), a1 (.iload_n 3), a1 (.iconst 2), a1 (.iadd), a1 (.iaload), a0 (.invokevirtual 27) 3 81 10 22 3 0, none, none, a1 (.pop), a1 (.aload_n 2), a1 (.aload_n 0), a1 (.iload_n 3), a1 (.iconst 1), a1 (.iadd), a1 (.iaload), a1 (.aload_n 0), a1 (.iload_n 3), a1 (.iconst 2), a1 (.iadd), a1 (.iaload), a0 (.invokevirtual 30) 3 282 10 156 3 0],
  [none, none, a1 (.pop), a3 (.goto 1332), none, none, a1 (.aload_n 1), a1 (.aload_n 0), a1 (.iload_n 3), a1 (.iconst 1), a1 (.iadd), a1 (.iaload), a1 (.aload_n 0), a1 (.iload_n 3), a1 (.iconst 2), a1 (.iadd), a1 (.iaload), a0 (.invokevirtual 31) 3 83 10 24 3 0, none, none, a1 (.pop), a1 (.aload_n 2), a1 (.aload_n 0), a1 (.iload_n 3), a1 (.iconst 1), a1 (.iadd), a1 (.iaload), a1 (.aload_n 0), a1 (.iload_n 3), a1 (.iconst 2), a1 (.iadd), a1 (.iaload)],
  [a0 (.invokevirtual 34) 3 285 10 159 3 0, none, none, a1 (.pop), a3 (.goto 1299), none, none, a1 (.aload_n 1), a1 (.aload_n 0), a1 (.iload_n 3), a1 (.iconst 1), a1 (.iadd), a1 (.iaload), a1 (.aload_n 0), a1 (.iload_n 3), a1 (.iconst 2), a1 (.iadd), a1 (.iaload), a1 (.aload_n 0), a1 (.iload_n 3), a1 (.iconst 3), a1 (.iadd), a1 (.iaload), a0 (.invokevirtual 35) 3 85 10 26 4 0, none, none, a1 (.pop), a1 (.aload_n 2), a1 (.aload_n 0), a1 (.iload_n 3), a1 (.iconst 1), a1 (.iadd)],
  [a1 (.iaload), a1 (.aload_n 0), a1 (.iload_n 3), a1 (.iconst 2), a1 (.iadd), a1 (.iaload), a1 (.aload_n 0), a1 (.iload_n 3), a1 (.iconst 3), a1 (.iadd), a1 (.iaload), a0 (.invokevirtual 38) 3 287 10 161 4 0, none, none, a1 (.pop), a3 (.goto 1256), none, none, a1 (.aload_n 1), a1 (.aload_n 0), a1 (.iload_n 3), a1 (.iconst 1), a1 (.iadd), a1 (.iaload), a1 (.aload_n 0), a1 (.iload_n 3), a1 (.iconst 2), a1 (.iadd), a1 (.iaload), a0 (.invokevirtual 39) 3 87 10 28 3 0, none, none],
  [a1 (.pop), a1 (.aload_n 2), a1 (.aload_n 0), a1 (.iload_n 3), a1 (.iconst 1), a1 (.iadd), a1 (.iaload), a1 (.aload_n 0), a1 (.iload_n 3), a1 (.iconst 2), a1 (.iadd), a1 (.iaload), a0 (.invokevirtual 42) 3 288 10 162 3 0, none, none, a1 (.pop), a3 (.goto 1223), none, none, a1 (.aload_n 1), a1 (.aload_n 0), a1 (.iload_n 3), a1 (.iconst 1), a1 (.iadd), a1 (.iaload), a0 (.invokevirtual 43) 3 89 10 29 2 0, none, none, a1 (.pop), a1 (.aload_n 2), a1 (.aload_n 0), a1 (.iload_n 3)]]
noncomputable def mk_245_2 : List (List (Option mEnt)) := [[a1 (.iconst 1), a1 (.iadd), a1 (.iaload), a0 (.invokevirtual 47) 3 289 10 163 2 0, none, none, a1 (.pop), a3 (.goto 1200), none, none, a1 (.aload_n 1), a1 (.aload_n 0), a1 (.iload_n 3), a1 (.iconst 1), a1 (.iadd), a1 (.iaload), a0 (.invokevirtual 48) 3 102 10 37 2 0, none, none, a1 (.pop), a1 (.aload_n 2), a1 (.aload_n 0), a1 (.iload_n 3), a1 (.iconst 1), a1 (.iadd), a1 (.iaload), a0 (.invokevirtual 51) 3 296 10 169 2 0, none, none, a1 (.pop), a3 (.goto 1177), none],
  [none, a1 (.aload_n 1), a1 (.aload_n 0), a1 (.iload_n 3), a1 (.iconst 1), a1 (.iadd), a1 (.iaload), a1 (.aload_n 0), a1 (.iload_n 3), a1 (.iconst 2), a1 (.iadd), a1 (.iaload), a0 (.invokevirtual 52) 3 106 10 41 3 0, none, none, a1 (.pop), a1 (.aload_n 2), a1 (.aload_n 0), a1 (.iload_n 3), a1 (.iconst 1), a1 (.iadd), a1 (.iaload), a1 (.aload_n 0), a1 (.iload_n 3), a1 (.iconst 2), a1 (.iadd), a1 (.iaload), a0 (.invokevirtual 55) 3 299 10 172 3 0, none, none, a1 (.pop), a3 (.goto 1144)],
  [none, none, a1 (.aload_n 1), a1 (.aload_n 0), a1 (.iload_n 3), a1 (.iconst 1), a1 (.iadd), a1 (.iaload), a0 (.invokevirtual 56) 3 110 10 44 2 0, none, none, a1 (.pop), a1 (.aload_n 2), a1 (.aload_n 0), a1 (.iload_n 3), a1 (.iconst 1), a1 (.iadd), a1 (.iaload), a0 (.invokevirtual 59) 3 303 10 176 2 0, none, none, a1 (.pop), a3 (.goto 1121), none, none, a1 (.aload_n 1), a1 (.aload_n 0), a1 (.iload_n 3), a1 (.iconst 1), a1 (.iadd), a1 (.iaload), a0 (.invokevirtual 60) 3 113 10 45 2 0],
  [none, none, a1 (.pop), a1 (.aload_n 2), a1 (.aload_n 0), a1 (.iload_n 3), a1 (.iconst 1), a1 (.iadd), a1 (.iaload), a0 (.invokevirtual 63) 3 306 10 178 2 0, none, none, a1 (.pop), a3 (.goto 1098), none, none, a1 (.aload_n 1), a1 (.aload_n 0), a1 (.iload_n 3), a1 (.iconst 1), a1 (.iadd), a1 (.iaload), a0 (.invokevirtual 64) 3 114 10 46 2 0, none, none, a1 (.pop), a1 (.aload_n 2), a1 (.aload_n 0), a1 (.iload_n 3), a1 (.iconst 1), a1 (.iadd), a1 (.iaload)],
  [a0 (.invokevirtual 67) 3 307 10 179 2 0, none, none, a1 (.pop), a3 (.goto 1075), none, none, a1 (.aload_n 1), a1 (.aload_n 0), a1 (.iload_n 3), a1 (.iconst 1), a1 (.iadd), a1 (.iaload), a1 (.aload_n 0), a1 (.iload_n 3), a1 (.iconst 2), a1 (.iadd), a1 (.iaload), a0 (.invokevirtual 68) 3 115 10 47 3 0, none, none, a1 (.pop), a1 (.aload_n 2), a1 (.aload_n 0), a1 (.iload_n 3), a1 (.iconst 1), a1 (.iadd), a1 (.iaload), a1 (.aload_n 0), a1 (.iload_n 3), a1 (.iconst 2), a1 (.iadd)],
  [a1 (.iaload), a0 (.invokevirtual 71) 3 309 10 181 3 0, none, none, a1 (.pop), a3 (.goto 1042), none, none, a1 (.aload_n 1), a1 (.aload_n 0), a1 (.iload_n 3), a1 (.iconst 1), a1 (.iadd), a1 (.iaload), a1 (.aload_n 0), a1 (.iload_n 3), a1 (.iconst 2), a1 (.iadd), a1 (.iaload), a0 (.invokevirtual 72) 3 117 10 48 3 0, none, none, a1 (.pop), a1 (.aload_n 2), a1 (.aload_n 0), a1 (.iload_n 3), a1 (.iconst 1), a1 (.iadd), a1 (.iaload), a1 (.aload_n 0), a1 (.iload_n 3), a1 (.iconst 2)],
  [a1 (.iadd), a1 (.iaload), a0 (.invokevirtual 75) 3 310 10 182 3 0, none, none, a1 (.pop), a3 (.goto 1009), none, none, a1 (.aload_n 1), a1 (.aload_n 0), a1 (.iload_n 3), a1 (.iconst 1), a1 (.iadd), a1 (.iaload), a1 (.aload_n 0), a1 (.iload_n 3), a1 (.iconst 2), a1 (.iadd), a1 (.iaload), a0 (.invokevirtual 76) 3 119 10 50 3 0, none, none, a1 (.pop), a1 (.aload_n 2), a1 (.aload_n 0), a1 (.iload_n 3), a1 (.iconst 1), a1 (.iadd), a1 (.iaload), a1 (.aload_n 0), a1 (.iload_n 3)],
  [a1 (.iconst 2), a1 (.iadd), a1 (.iaload), a0 (.invokevirtual 79) 3 313 10 184 3 0, none, none, a1 (.pop), a3 (.goto 976), none, none, a1 (.aload_n 1), a1 (.aload_n 0), a1 (.iload_n 3), a1 (.iconst 1), a1 (.iadd), a1 (.iaload), a1 (.aload_n 0), a1 (.iload_n 3), a1 (.iconst 2), a1 (.iadd), a1 (.iaload), a0 (.invokevirtual 80) 3 120 10 51 3 0, none, none, a1 (.pop), a1 (.aload_n 2), a1 (.aload_n 0), a1 (.iload_n 3), a1 (.iconst 1), a1 (.iadd), a1 (.iaload), a1 (.aload_n 0)]]
noncomputable def mk_245_3 : List (List (Option mEnt)) := [[a1 (.iload_n 3), a1 (.iconst 2), a1 (.iadd), a1 (.iaload), a0 (.invokevirtual 83) 3 314 10 185 3 0, none, none, a1 (.pop), a3 (.goto 943), none, none, a1 (.aload_n 1), a1 (.aload_n 0), a1 (.iload_n 3), a1 (.iconst 1), a1 (.iadd), a1 (.iaload), a1 (.aload_n 0), a1 (.iload_n 3), a1 (.iconst 2), a1 (.iadd), a1 (.iaload), a0 (.invokevirtual 84) 3 122 10 53 3 0, none, none, a1 (.pop), a1 (.aload_n 2), a1 (.aload_n 0), a1 (.iload_n 3), a1 (.iconst 1), a1 (.iadd), a1 (.iaload)],
  [a1 (.aload_n 0), a1 (.iload_n 3), a1 (.iconst 2), a1 (.iadd), a1 (.iaload), a0 (.invokevirtual 87) 3 316 10 187 3 0, none, none, a1 (.pop), a3 (.goto 910), none, none, a1 (.aload_n 1), a1 (.aload_n 0), a1 (.iload_n 3), a1 (.iconst 1), a1 (.iadd), a1 (.iaload), a0 (.invokevirtual 88) 3 123 10 54 2 0, none, none, a1 (.pop), a1 (.aload_n 2), a1 (.aload_n 0), a1 (.iload_n 3), a1 (.iconst 1), a1 (.iadd), a1 (.iaload), a0 (.invokevirtual 91) 3 317 10 188 2 0, none, none, a1 (.pop)],
  [a3 (.goto 887), none, none, a1 (.aload_n 1), a1 (.aload_n 0), a1 (.iload_n 3), a1 (.iconst 1), a1 (.iadd), a1 (.iaload), a1 (.aload_n 0), a1 (.iload_n 3), a1 (.iconst 2), a1 (.iadd), a1 (.iaload), a0 (.invokevirtual 92) 3 124 10 55 3 0, none, none, a1 (.pop), a1 (.aload_n 2), a1 (.aload_n 0), a1 (.iload_n 3), a1 (.iconst 1), a1 (.iadd), a1 (.iaload), a1 (.aload_n 0), a1 (.iload_n 3), a1 (.iconst 2), a1 (.iadd), a1 (.iaload), a0 (.invokevirtual 95) 3 318 10 189 3 0, none, none],
  [a1 (.pop), a3 (.goto 854), none, none, a1 (.aload_n 1), a1 (.aload_n 0), a1 (.iload_n 3), a1 (.iconst 1), a1 (.iadd), a1 (.iaload), a1 (.aload_n 0), a1 (.iload_n 3), a1 (.iconst 2), a1 (.iadd), a1 (.iaload), a0 (.invokevirtual 96) 3 131 10 59 3 0, none, none, a1 (.pop), a1 (.aload_n 2), a1 (.aload_n 0), a1 (.iload_n 3), a1 (.iconst 1), a1 (.iadd), a1 (.iaload), a1 (.aload_n 0), a1 (.iload_n 3), a1 (.iconst 2), a1 (.iadd), a1 (.iaload), a0 (.invokevirtual 99) 3 321 10 192 3 0, none],
  [none, a1 (.pop), a3 (.goto 821), none, none, a1 (.aload_n 1), a1 (.aload_n 0), a1 (.iload_n 3), a1 (.iconst 1), a1 (.iadd), a1 (.iaload), a0 (.invokevirtual 100) 3 132 10 60 2 0, none, none, a1 (.pop), a1 (.aload_n 2), a1 (.aload_n 0), a1 (.iload_n 3), a1 (.iconst 1), a1 (.iadd), a1 (.iaload), a0 (.invokevirtual 103) 3 322 10 193 2 0, none, none, a1 (.pop), a3 (.goto 798), none, none, a1 (.aload_n 1), a1 (.aload_n 0), a1 (.iload_n 3), a1 (.iconst 1)],
  [a1 (.iadd), a1 (.iaload), a0 (.invokevirtual 104) 3 133 10 61 2 0, none, none, a1 (.pop), a1 (.aload_n 2), a1 (.aload_n 0), a1 (.iload_n 3), a1 (.iconst 1), a1 (.iadd), a1 (.iaload), a0 (.invokevirtual 107) 3 324 10 195 2 0, none, none, a1 (.pop), a3 (.goto 775), none, none, a1 (.aload_n 1), a0 (.invokevirtual 108) 3 135 10 63 1 0, none, none, a1 (.pop), a1 (.aload_n 2), a0 (.invokevirtual 112) 3 325 10 196 1 0, none, none, a1 (.pop), a3 (.goto 762), none, none],
  [a1 (.aload_n 1), a0 (.invokevirtual 113) 3 136 10 64 1 0, none, none, a1 (.pop), a1 (.aload_n 2), a0 (.invokevirtual 116) 3 326 10 197 1 0, none, none, a1 (.pop), a3 (.goto 749), none, none, a1 (.aload_n 1), a1 (.aload_n 0), a1 (.iload_n 3), a1 (.iconst 1), a1 (.iadd), a1 (.iaload), a1 (.aload_n 0), a1 (.iload_n 3), a1 (.iconst 2), a1 (.iadd), a1 (.iaload), a0 (.invokevirtual 117) 3 137 10 65 3 0, none, none, a1 (.pop), a1 (.aload_n 2), a1 (.aload_n 0), a1 (.iload_n 3), a1 (.iconst 1)],
  [a1 (.iadd), a1 (.iaload), a1 (.aload_n 0), a1 (.iload_n 3), a1 (.iconst 2), a1 (.iadd), a1 (.iaload), a0 (.invokevirtual 120) 3 327 10 198 3 0, none, none, a1 (.pop), a3 (.goto 716), none, none, a1 (.aload_n 1), a1 (.aload_n 0), a1 (.iload_n 3), a1 (.iconst 1), a1 (.iadd), a1 (.iaload), a1 (.aload_n 0), a1 (.iload_n 3), a1 (.iconst 2), a1 (.iadd), a1 (.iaload), a1 (.aload_n 0), a1 (.iload_n 3), a1 (.iconst 3), a1 (.iadd), a1 (.iaload), a0 (.invokevirtual 121) 3 141 10 68 4 0, none]]
noncomputable def mk_245_4 : List (List (Option mEnt)) := [[none, a1 (.pop), a1 (.aload_n 2), a1 (.aload_n 0), a1 (.iload_n 3), a1 (.iconst 1), a1 (.iadd), a1 (.iaload), a1 (.aload_n 0), a1 (.iload_n 3), a1 (.iconst 2), a1 (.iadd), a1 (.iaload), a1 (.aload_n 0), a1 (.iload_n 3), a1 (.iconst 3), a1 (.iadd), a1 (.iaload), a0 (.invokevirtual 124) 3 330 10 201 4 0, none, none, a1 (.pop), a3 (.goto 673), none, none, a1 (.aload_n 1), a1 (.aload_n 0), a1 (.iload_n 3), a1 (.iconst 1), a1 (.iadd), a1 (.iaload), a1 (.aload_n 0)],
  [a1 (.iload_n 3), a1 (.iconst 2), a1 (.iadd), a1 (.iaload), a1 (.aload_n 0), a1 (.iload_n 3), a1 (.iconst 3), a1 (.iadd), a1 (.iaload), a0 (.invokevirtual 125) 3 145 10 72 4 0, none, none, a1 (.pop), a1 (.aload_n 2), a1 (.aload_n 0), a1 (.iload_n 3), a1 (.iconst 1), a1 (.iadd), a1 (.iaload), a1 (.aload_n 0), a1 (.iload_n 3), a1 (.iconst 2), a1 (.iadd), a1 (.iaload), a1 (.aload_n 0), a1 (.iload_n 3), a1 (.iconst 3), a1 (.iadd), a1 (.iaload), a0 (.invokevirtual 128) 3 333 10 204 4 0, none, none],
  [a1 (.pop), a3 (.goto 630), none, none, a1 (.aload_n 1), a1 (.aload_n 0), a1 (.iload_n 3), a1 (.iconst 1), a1 (.iadd), a1 (.iaload), a1 (.aload_n 0), a1 (.iload_n 3), a1 (.iconst 2), a1 (.iadd), a1 (.iaload), a1 (.aload_n 0), a1 (.iload_n 3), a1 (.iconst 3), a1 (.iadd), a1 (.iaload), a0 (.invokevirtual 129) 3 146 10 73 4 0, none, none, a1 (.pop), a1 (.aload_n 2), a1 (.aload_n 0), a1 (.iload_n 3), a1 (.iconst 1), a1 (.iadd), a1 (.iaload), a1 (.aload_n 0), a1 (.iload_n 3)],
  [a1 (.iconst 2), a1 (.iadd), a1 (.iaload), a1 (.aload_n 0), a1 (.iload_n 3), a1 (.iconst 3), a1 (.iadd), a1 (.iaload), a0 (.invokevirtual 132) 3 335 10 206 4 0, none, none, a1 (.pop), a3 (.goto 587), none, none, a1 (.aload_n 1), a0 (.invokevirtual 133) 3 147 10 74 1 0, none, none, a1 (.pop), a1 (.aload_n 2), a0 (.invokevirtual 136) 3 336 10 207 1 0, none, none, a1 (.pop), a3 (.goto 574), none, none, a1 (.aload_n 1), a1 (.aload_n 0), a1 (.iload_n 3), a1 (.iconst 1)],
  [a1 (.iadd), a1 (.iaload), a1 (.aload_n 0), a1 (.iload_n 3), a1 (.iconst 2), a1 (.iadd), a1 (.iaload), a1 (.aload_n 0), a1 (.iload_n 3), a1 (.iconst 3), a1 (.iadd), a1 (.iaload), a0 (.invokevirtual 137) 3 148 10 75 4 0, none, none, a1 (.pop), a1 (.aload_n 2), a1 (.aload_n 0), a1 (.iload_n 3), a1 (.iconst 1), a1 (.iadd), a1 (.iaload), a1 (.aload_n 0), a1 (.iload_n 3), a1 (.iconst 2), a1 (.iadd), a1 (.iaload), a1 (.aload_n 0), a1 (.iload_n 3), a1 (.iconst 3), a1 (.iadd), a1 (.iaload)],
  [a0 (.invokevirtual 140) 3 337 10 208 4 0, none, none, a1 (.pop), a3 (.goto 531), none, none, a1 (.aload_n 1), a1 (.aload_n 0), a1 (.iload_n 3), a1 (.iconst 1), a1 (.iadd), a1 (.iaload), a1 (.aload_n 0), a1 (.iload_n 3), a1 (.iconst 2), a1 (.iadd), a1 (.iaload), a1 (.aload_n 0), a1 (.iload_n 3), a1 (.iconst 3), a1 (.iadd), a1 (.iaload), a0 (.invokevirtual 141) 3 155 10 81 4 0, none, none, a1 (.pop), a1 (.aload_n 2), a1 (.aload_n 0), a1 (.iload_n 3), a1 (.iconst 1), a1 (.iadd)],
  [a1 (.iaload), a1 (.aload_n 0), a1 (.iload_n 3), a1 (.iconst 2), a1 (.iadd), a1 (.iaload), a1 (.aload_n 0), a1 (.iload_n 3), a1 (.iconst 3), a1 (.iadd), a1 (.iaload), a0 (.invokevirtual 144) 3 343 10 213 4 0, none, none, a1 (.pop), a3 (.goto 488), none, none, a1 (.aload_n 1), a1 (.aload_n 0), a1 (.iload_n 3), a1 (.iconst 1), a1 (.iadd), a1 (.iaload), a0 (.invokevirtual 145) 3 156 10 82 2 0, none, none, a1 (.pop), a1 (.aload_n 2), a1 (.aload_n 0), a1 (.iload_n 3), a1 (.iconst 1)],
  [a1 (.iadd), a1 (.iaload), a0 (.invokevirtual 148) 3 344 10 214 2 0, none, none, a1 (.pop), a3 (.goto 465), none, none, a1 (.aload_n 1), a1 (.aload_n 0), a1 (.iload_n 3), a1 (.iconst 1), a1 (.iadd), a1 (.iaload), a1 (.aload_n 0), a1 (.iload_n 3), a1 (.iconst 2), a1 (.iadd), a1 (.iaload), a0 (.invokevirtual 149) 3 159 10 84 3 0, none, none, a1 (.aload_n 2), a1 (.aload_n 0), a1 (.iload_n 3), a1 (.iconst 1), a1 (.iadd), a1 (.iaload), a1 (.aload_n 0), a1 (.iload_n 3), a1 (.iconst 2)]]
noncomputable def mk_245_5 : List (List (Option mEnt)) := [[a1 (.iadd), a1 (.iaload), a0 (.invokevirtual 153) 3 347 10 216 3 0, none, none, a1 (.lcmp), a3 (.ifCond .eq 433), none, none, a1 (.iconst 0), a1 (.ireturn), a1 (.aload_n 1), a1 (.aload_n 0), a1 (.iload_n 3), a1 (.iconst 1), a1 (.iadd), a1 (.iaload), a0 (.invokevirtual 154) 3 161 10 86 2 0, none, none, a1 (.pop), a1 (.aload_n 2), a1 (.aload_n 0), a1 (.iload_n 3), a1 (.iconst 1), a1 (.iadd), a1 (.iaload), a0 (.invokevirtual 157) 3 348 10 217 2 0, none, none, a1 (.pop), a3 (.goto 408)],
  [none, none, a1 (.aload_n 1), a1 (.aload_n 0), a1 (.iload_n 3), a1 (.iconst 1), a1 (.iadd), a1 (.iaload), a1 (.aload_n 0), a1 (.iload_n 3), a1 (.iconst 2), a1 (.iadd), a1 (.iaload), a0 (.invokevirtual 158) 3 162 10 87 3 0, none, none, a1 (.pop), a1 (.aload_n 2), a1 (.aload_n 0), a1 (.iload_n 3), a1 (.iconst 1), a1 (.iadd), a1 (.iaload), a1 (.aload_n 0), a1 (.iload_n 3), a1 (.iconst 2), a1 (.iadd), a1 (.iaload), a0 (.invokevirtual 161) 3 349 10 218 3 0, none, none, a1 (.pop)],
  [a3 (.goto 375), none, none, a1 (.aload_n 1), a0 (.invokevirtual 162) 3 164 10 89 1 0, none, none, a1 (.pop), a1 (.aload_n 2), a0 (.invokevirtual 165) 3 350 10 219 1 0, none, none, a1 (.pop), a3 (.goto 362), none, none, a1 (.aload_n 1), a0 (.invokevirtual 166) 3 165 10 90 1 0, none, none, a1 (.pop), a1 (.aload_n 2), a0 (.invokevirtual 169) 3 351 10 220 1 0, none, none, a1 (.pop), a3 (.goto 349), none, none, a1 (.aload_n 1), a1 (.aload_n 0), a1 (.iload_n 3)],
  [a1 (.iconst 1), a1 (.iadd), a1 (.iaload), a1 (.aload_n 0), a1 (.iload_n 3), a1 (.iconst 2), a1 (.iadd), a1 (.iaload), a0 (.invokevirtual 170) 3 198 10 114 3 0, none, none, a1 (.pop), a1 (.aload_n 2), a1 (.aload_n 0), a1 (.iload_n 3), a1 (.iconst 1), a1 (.iadd), a1 (.iaload), a1 (.aload_n 0), a1 (.iload_n 3), a1 (.iconst 2), a1 (.iadd), a1 (.iaload), a0 (.invokevirtual 173) 3 372 10 231 3 0, none, none, a1 (.pop), a3 (.goto 316), none, none, a1 (.aload_n 1), a1 (.aload_n 0)],
  [a1 (.iload_n 3), a1 (.iconst 1), a1 (.iadd), a1 (.iaload), a1 (.aload_n 0), a1 (.iload_n 3), a1 (.iconst 2), a1 (.iadd), a1 (.iaload), a0 (.invokevirtual 174) 3 199 10 115 3 0, none, none, a1 (.pop), a1 (.aload_n 2), a1 (.aload_n 0), a1 (.iload_n 3), a1 (.iconst 1), a1 (.iadd), a1 (.iaload), a1 (.aload_n 0), a1 (.iload_n 3), a1 (.iconst 2), a1 (.iadd), a1 (.iaload), a0 (.invokevirtual 177) 3 374 10 233 3 0, none, none, a1 (.pop), a3 (.goto 283), none, none, a1 (.aload_n 1)],
  [a1 (.aload_n 0), a1 (.iload_n 3), a1 (.iconst 1), a1 (.iadd), a1 (.iaload), a1 (.aload_n 0), a1 (.iload_n 3), a1 (.iconst 2), a1 (.iadd), a1 (.iaload), a1 (.aload_n 0), a1 (.iload_n 3), a1 (.iconst 3), a1 (.iadd), a1 (.iaload), a0 (.invokevirtual 178) 3 202 10 116 4 0, none, none, a1 (.pop), a1 (.aload_n 2), a1 (.aload_n 0), a1 (.iload_n 3), a1 (.iconst 1), a1 (.iadd), a1 (.iaload), a1 (.aload_n 0), a1 (.iload_n 3), a1 (.iconst 2), a1 (.iadd), a1 (.iaload), a1 (.aload_n 0), a1 (.iload_n 3)],
  [a1 (.iconst 3), a1 (.iadd), a1 (.iaload), a0 (.invokevirtual 181) 3 376 10 234 4 0, none, none, a1 (.pop), a3 (.goto 240), none, none, a1 (.aload_n 1), a1 (.aload_n 0), a1 (.iload_n 3), a1 (.iconst 1), a1 (.iadd), a1 (.iaload), a1 (.aload_n 0), a1 (.iload_n 3), a1 (.iconst 2), a1 (.iadd), a1 (.iaload), a1 (.aload_n 0), a1 (.iload_n 3), a1 (.iconst 3), a1 (.iadd), a1 (.iaload), a0 (.invokevirtual 182) 3 205 10 118 4 0, none, none, a1 (.pop), a1 (.aload_n 2), a1 (.aload_n 0)],
  [a1 (.iload_n 3), a1 (.iconst 1), a1 (.iadd), a1 (.iaload), a1 (.aload_n 0), a1 (.iload_n 3), a1 (.iconst 2), a1 (.iadd), a1 (.iaload), a1 (.aload_n 0), a1 (.iload_n 3), a1 (.iconst 3), a1 (.iadd), a1 (.iaload), a0 (.invokevirtual 185) 3 378 10 235 4 0, none, none, a1 (.pop), a3 (.goto 197), none, none, a1 (.aload_n 1), a1 (.aload_n 0), a1 (.iload_n 3), a1 (.iconst 1), a1 (.iadd), a1 (.iaload), a1 (.aload_n 0), a1 (.iload_n 3), a1 (.iconst 2), a1 (.iadd), a1 (.iaload)]]
noncomputable def mk_245_6 : List (List (Option mEnt)) := [[a1 (.aload_n 0), a1 (.iload_n 3), a1 (.iconst 3), a1 (.iadd), a1 (.iaload), a1 (.aload_n 0), a1 (.iload_n 3), a1 (.iconst 4), a1 (.iadd), a1 (.iaload), a1 (.aload_n 0), a1 (.iload_n 3), a1 (.iconst 5), a1 (.iadd), a1 (.iaload), a0 (.invokevirtual 186) 3 207 10 120 6 0, none, none, a1 (.pop), a1 (.aload_n 2), a1 (.aload_n 0), a1 (.iload_n 3), a1 (.iconst 1), a1 (.iadd), a1 (.iaload), a1 (.aload_n 0), a1 (.iload_n 3), a1 (.iconst 2), a1 (.iadd), a1 (.iaload), a1 (.aload_n 0), a1 (.iload_n 3)],
  [a1 (.iconst 3), a1 (.iadd), a1 (.iaload), a1 (.aload_n 0), a1 (.iload_n 3), a1 (.iconst 4), a1 (.iadd), a1 (.iaload), a1 (.aload_n 0), a1 (.iload_n 3), a1 (.iconst 5), a1 (.iadd), a1 (.iaload), a0 (.invokevirtual 190) 3 380 10 237 6 0, none, none, a1 (.pop), a3 (.goto 134), none, none, a1 (.aload_n 1), a1 (.aload_n 0), a1 (.iload_n 3), a1 (.iconst 1), a1 (.iadd), a1 (.iaload), a0 (.invokevirtual 191) 3 209 10 122 2 0, none, none, a1 (.pop), a1 (.aload_n 2), a1 (.aload_n 0)],
  [a1 (.iload_n 3), a1 (.iconst 1), a1 (.iadd), a1 (.iaload), a0 (.invokevirtual 194) 3 381 10 238 2 0, none, none, a1 (.pop), a3 (.goto 111), none, none, a1 (.aload_n 1), a1 (.aload_n 0), a1 (.iload_n 3), a1 (.iconst 1), a1 (.iadd), a1 (.iaload), a0 (.invokevirtual 195) 3 210 10 123 2 0, none, none, a1 (.pop), a1 (.aload_n 2), a1 (.aload_n 0), a1 (.iload_n 3), a1 (.iconst 1), a1 (.iadd), a1 (.iaload), a0 (.invokevirtual 198) 3 382 10 239 2 0, none, none, a1 (.pop), a3 (.goto 88)],
  [none, none, a1 (.aload_n 1), a0 (.invokevirtual 199) 3 212 10 125 1 0, none, none, a1 (.pop), a1 (.aload_n 2), a0 (.invokevirtual 202) 3 383 10 240 1 0, none, none, a1 (.pop), a3 (.goto 75), none, none, a1 (.aload_n 1), a0 (.invokevirtual 203) 3 213 10 126 1 0, none, none, a1 (.pop), a1 (.aload_n 2), a0 (.invokevirtual 206) 3 384 10 241 1 0, none, none, a1 (.pop), a3 (.goto 62), none, none, a1 (.aload_n 1), a0 (.invokevirtual 207) 3 214 10 127 1 0, none, none],
  [a1 (.pop), a1 (.aload_n 2), a0 (.invokevirtual 210) 3 385 10 242 1 0, none, none, a1 (.pop), a3 (.goto 49), none, none, a1 (.aload_n 1), a1 (.aload_n 0), a1 (.iload_n 3), a1 (.iconst 1), a1 (.iadd), a1 (.iaload), a0 (.invokevirtual 211) 3 215 10 128 2 0, none, none, a1 (.pop), a1 (.aload_n 2), a1 (.aload_n 0), a1 (.iload_n 3), a1 (.iconst 1), a1 (.iadd), a1 (.iaload), a0 (.invokevirtual 214) 3 386 10 243 2 0, none, none, a1 (.pop), a3 (.goto 26), none, none],
  [a1 (.aload_n 1), a1 (.aload_n 0), a1 (.iload_n 3), a1 (.iconst 1), a1 (.iadd), a1 (.iaload), a0 (.invokevirtual 215) 3 217 10 130 2 0, none, none, a1 (.pop), a1 (.aload_n 2), a1 (.aload_n 0), a1 (.iload_n 3), a1 (.iconst 1), a1 (.iadd), a1 (.iaload), a0 (.invokevirtual 218) 3 387 10 244 2 0, none, none, a1 (.pop), a3 (.goto 3), none, none, a3 (.iinc 3 6), none, none, a3 (.goto (-1704)), none, none, a1 (.iconst 1), a1 (.ireturn)]]
noncomputable def mk_245 : List (List (Option mEnt)) := mk_245_0 ++ (mk_245_1 ++ (mk_245_2 ++ (mk_245_3 ++ (mk_245_4 ++ (mk_245_5 ++ (mk_245_6))))))
noncomputable def mKs : List (List (List (List (Option mEnt)))) := [[mk_0, mk_1, mk_2, mk_3, mk_4, mk_5, mk_6, mk_7, mk_8, mk_9, mk_10, mk_11, mk_12, mk_13, mk_14, mk_15],
  [mk_16, mk_17, mk_18, mk_19, mk_20, mk_21, mk_22, mk_23, mk_24, mk_25, mk_26, mk_27, mk_28, mk_29, mk_30, mk_31],
  [mk_32, mk_33, mk_34, mk_35, mk_36, mk_37, mk_38, mk_39, mk_40, mk_41, mk_42, mk_43, mk_44, mk_45, mk_46, mk_47],
  [mk_48, mk_49, mk_50, mk_51, mk_52, mk_53, mk_54, mk_55, mk_56, mk_57, mk_58, mk_59, mk_60, mk_61, mk_62, mk_63],
  [mk_64, mk_65, mk_66, mk_67, mk_68, mk_69, mk_70, mk_71, mk_72, mk_73, mk_74, mk_75, mk_76, mk_77, mk_78, mk_79],
  [mk_80, mk_81, mk_82, mk_83, mk_84, mk_85, mk_86, mk_87, mk_88, mk_89, mk_90, mk_91, mk_92, mk_93, mk_94, mk_95],
  [mk_96, mk_97, mk_98, mk_99, mk_100, mk_101, mk_102, mk_103, mk_104, mk_105, mk_106, mk_107, mk_108, mk_109, mk_110, mk_111],
  [mk_112, mk_113, mk_114, mk_115, mk_116, mk_117, mk_118, mk_119, mk_120, mk_121, mk_122, mk_123, mk_124, mk_125, mk_126, mk_127],
  [mk_128, mk_129, mk_130, mk_131, mk_132, mk_133, mk_134, mk_135, mk_136, mk_137, mk_138, mk_139, mk_140, mk_141, mk_142, mk_143],
  [mk_144, mk_145, mk_146, mk_147, mk_148, mk_149, mk_150, mk_151, mk_152, mk_153, mk_154, mk_155, mk_156, mk_157, mk_158, mk_159],
  [mk_160, mk_161, mk_162, mk_163, mk_164, mk_165, mk_166, mk_167, mk_168, mk_169, mk_170, mk_171, mk_172, mk_173, mk_174, mk_175],
  [mk_176, mk_177, mk_178, mk_179, mk_180, mk_181, mk_182, mk_183, mk_184, mk_185, mk_186, mk_187, mk_188, mk_189, mk_190, mk_191],
  [mk_192, mk_193, mk_194, mk_195, mk_196, mk_197, mk_198, mk_199, mk_200, mk_201, mk_202, mk_203, mk_204, mk_205, mk_206, mk_207],
  [mk_208, mk_209, mk_210, mk_211, mk_212, mk_213, mk_214, mk_215, mk_216, mk_217, mk_218, mk_219, mk_220, mk_221, mk_222, mk_223],
  [mk_224, mk_225, mk_226, mk_227, mk_228, mk_229, mk_230, mk_231, mk_232, mk_233, mk_234, mk_235, mk_236, mk_237, mk_238, mk_239],
  [mk_240, mk_241, mk_242, mk_243, mk_244, mk_245]]
noncomputable def mMs : List (List mRow) := [[(3, ⟨"EnvyRust", "<init>", "()V"⟩, prog_1_method_1_code, 2, (none), 2, 41),
   (12, ⟨"java/lang/Object", "<init>", "()V"⟩, object_method_1_code, 1, (none), 0, 0),
   (2, ⟨"EnvyRust$Town", "<init>", "()V"⟩, prog_4_method_1_code, 2, (none), 1, 20),
   (1, ⟨"EnvyRust$TextReader", "<init>", "()V"⟩, prog_3_method_1_code, 1, (none), 1, 20),
   (0, ⟨"EnvyRust$Sheet", "<init>", "()V"⟩, prog_2_method_1_code, 1, (none), 1, 20),
   (3, ⟨"EnvyRust", "thing", "(II)I"⟩, prog_1_method_2_code, 3, (some FieldType.int), 2, 44),
   (3, ⟨"EnvyRust", "between", "(III)Z"⟩, prog_1_method_67_code, 3, (some FieldType.boolean), 0, 0),
   (3, ⟨"EnvyRust", "told", "(I)I"⟩, prog_1_method_66_code, 3, (some FieldType.int), 1, 22),
   (2, ⟨"EnvyRust$Town", "addThing", "(II)I"⟩, prog_4_method_7_code, 4, (some FieldType.int), 0, 0),
   (3, ⟨"EnvyRust", "thingOf", "(II)I"⟩, prog_1_method_3_code, 3, (some FieldType.int), 4, 97),
   (2, ⟨"EnvyRust$Town", "isThing", "(I)Z"⟩, prog_4_method_3_code, 2, (some FieldType.boolean), 1, 22),
   (2, ⟨"EnvyRust$Town", "wearOf", "(I)I"⟩, prog_4_method_14_code, 5, (some FieldType.int), 3, 73),
   (2, ⟨"EnvyRust$Town", "envyOf", "(II)I"⟩, prog_4_method_10_code, 4, (some FieldType.int), 2, 50),
   (2, ⟨"EnvyRust$Town", "envyIfOwnedBy", "(III)I"⟩, prog_4_method_11_code, 8, (some FieldType.int), 1, 23),
   (3, ⟨"EnvyRust", "isOrUnder", "(II)Z"⟩, prog_1_method_71_code, 4, (some FieldType.boolean), 0, 0),
   (7, ⟨"java/lang/Math", "max", "(II)I"⟩, prog_8_method_65_code, 2, (some FieldType.int), 0, 0)],
  [(7, ⟨"java/lang/Math", "min", "(II)I"⟩, prog_8_method_69_code, 2, (some FieldType.int), 0, 0),
   (3, ⟨"EnvyRust", "forge", "(III)I"⟩, prog_1_method_4_code, 5, (some FieldType.int), 3, 66),
   (3, ⟨"EnvyRust", "forgeable", "(III)Z"⟩, prog_1_method_5_code, 4, (some FieldType.boolean), 2, 43),
   (2, ⟨"EnvyRust$Town", "isPerson", "(I)Z"⟩, prog_4_method_4_code, 2, (some FieldType.boolean), 1, 22),
   (2, ⟨"EnvyRust$Town", "falling", "(I)I"⟩, prog_4_method_24_code, 7, (some FieldType.int), 1, 21),
   (3, ⟨"EnvyRust", "contains", "(II)Z"⟩, prog_1_method_68_code, 2, (some FieldType.boolean), 0, 0),
   (3, ⟨"EnvyRust", "person", "(II)I"⟩, prog_1_method_6_code, 3, (some FieldType.int), 2, 44),
   (2, ⟨"EnvyRust$Town", "addPerson", "(II)I"⟩, prog_4_method_8_code, 5, (some FieldType.int), 0, 0),
   (3, ⟨"EnvyRust", "of", "(II)I"⟩, prog_1_method_7_code, 3, (some FieldType.int), 2, 44),
   (2, ⟨"EnvyRust$Town", "ownedBy", "(I)I"⟩, prog_4_method_13_code, 4, (some FieldType.int), 0, 0),
   (3, ⟨"EnvyRust", "change", "(III)I"⟩, prog_1_method_8_code, 5, (some FieldType.int), 2, 44),
   (3, ⟨"EnvyRust", "changeable", "(II)Z"⟩, prog_1_method_9_code, 2, (some FieldType.boolean), 1, 22),
   (3, ⟨"EnvyRust", "envy", "(II)I"⟩, prog_1_method_10_code, 3, (some FieldType.int), 3, 73),
   (3, ⟨"EnvyRust", "go", "(I)I"⟩, prog_1_method_11_code, 2, (some FieldType.int), 5, 120),
   (2, ⟨"EnvyRust$Town", "passDays", "(I)V"⟩, prog_4_method_15_code, 4, (none), 4, 97),
   (2, ⟨"EnvyRust$Town", "fallAll", "()V"⟩, prog_4_method_16_code, 5, (none), 1, 21)],
  [(2, ⟨"EnvyRust$Town", "isGone", "(I)Z"⟩, prog_4_method_9_code, 2, (some FieldType.boolean), 0, 0),
   (2, ⟨"EnvyRust$Town", "walkAll", "()V"⟩, prog_4_method_17_code, 2, (none), 1, 21),
   (3, ⟨"EnvyRust", "onward", "(II)I"⟩, prog_1_method_70_code, 2, (some FieldType.int), 0, 0),
   (2, ⟨"EnvyRust$Town", "goneSet", "()I"⟩, prog_4_method_19_code, 3, (some FieldType.int), 1, 21),
   (6, ⟨"java/lang/Integer", "bitCount", "(I)I"⟩, prog_7_method_49_code, 1, (some FieldType.int), 0, 0),
   (3, ⟨"EnvyRust", "now", "(I)I"⟩, prog_1_method_12_code, 2, (some FieldType.int), 5, 119),
   (2, ⟨"EnvyRust$Town", "allThick", "()I"⟩, prog_4_method_20_code, 3, (some FieldType.int), 0, 0),
   (2, ⟨"EnvyRust$Town", "allWear", "()I"⟩, prog_4_method_21_code, 3, (some FieldType.int), 4, 97),
   (2, ⟨"EnvyRust$Town", "visited", "()I"⟩, prog_4_method_22_code, 4, (some FieldType.int), 1, 21),
   (3, ⟨"EnvyRust", "ahead", "(II)I"⟩, prog_1_method_13_code, 3, (some FieldType.int), 5, 120),
   (3, ⟨"EnvyRust", "startTrial", "()V"⟩, prog_1_method_29_code, 1, (none), 2, 52),
   (2, ⟨"EnvyRust$Town", "become", "(LEnvyRust$Town;)V"⟩, prog_4_method_2_code, 3, (none), 1, 30),
   (3, ⟨"EnvyRust", "lasts", "(I)I"⟩, prog_1_method_14_code, 3, (some FieldType.int), 5, 120),
   (3, ⟨"EnvyRust", "gone", "(I)I"⟩, prog_1_method_15_code, 2, (some FieldType.int), 5, 120),
   (3, ⟨"EnvyRust", "worn", "(I)I"⟩, prog_1_method_16_code, 2, (some FieldType.int), 5, 120),
   (3, ⟨"EnvyRust", "sees", "(II)I"⟩, prog_1_method_17_code, 7, (some FieldType.int), 2, 44)],
  [(3, ⟨"EnvyRust", "kindFor", "(II)I"⟩, prog_1_method_18_code, 3, (some FieldType.int), 6, 148),
   (3, ⟨"EnvyRust", "sparingFor", "(IIII)I"⟩, prog_1_method_20_code, 9, (some FieldType.int), 5, 120),
   (3, ⟨"EnvyRust", "walkFor", "(II)I"⟩, prog_1_method_19_code, 3, (some FieldType.int), 6, 148),
   (3, ⟨"EnvyRust", "placeFor", "(II)I"⟩, prog_1_method_21_code, 3, (some FieldType.int), 6, 148),
   (3, ⟨"EnvyRust", "thickestFor", "(IIII)I"⟩, prog_1_method_23_code, 9, (some FieldType.int), 5, 120),
   (3, ⟨"EnvyRust", "ownerFor", "(II)I"⟩, prog_1_method_22_code, 3, (some FieldType.int), 6, 148),
   (3, ⟨"EnvyRust", "worst", "(I)I"⟩, prog_1_method_24_code, 6, (some FieldType.int), 5, 120),
   (3, ⟨"EnvyRust", "paint", "(II)I"⟩, prog_1_method_25_code, 8, (some FieldType.int), 6, 144),
   (3, ⟨"EnvyRust", "wearAlone", "(II[I)V"⟩, prog_1_method_26_code, 5, (none), 5, 120),
   (2, ⟨"EnvyRust$Town", "allThings", "()I"⟩, prog_4_method_5_code, 1, (some FieldType.int), 0, 0),
   (3, ⟨"EnvyRust", "leftPainted", "(I)I"⟩, prog_1_method_27_code, 3, (some FieldType.int), 2, 45),
   (3, ⟨"EnvyRust", "needs", "(II)I"⟩, prog_1_method_28_code, 4, (some FieldType.int), 5, 120),
   (3, ⟨"EnvyRust", "fallsWith", "(I)I"⟩, prog_1_method_30_code, 2, (some FieldType.int), 2, 47),
   (3, ⟨"EnvyRust", "depth", "(I)I"⟩, prog_1_method_31_code, 2, (some FieldType.int), 2, 44),
   (2, ⟨"EnvyRust$Town", "hangingDepth", "(I)I"⟩, prog_4_method_25_code, 4, (some FieldType.int), 0, 0),
   (3, ⟨"EnvyRust", "keystone", "()I"⟩, prog_1_method_32_code, 5, (some FieldType.int), 2, 47)],
  [(3, ⟨"EnvyRust", "fells", "()I"⟩, prog_1_method_33_code, 3, (some FieldType.int), 0, 0),
   (3, ⟨"EnvyRust", "worth", "(II)I"⟩, prog_1_method_34_code, 3, (some FieldType.int), 3, 74),
   (2, ⟨"EnvyRust$Town", "isSet", "(I)Z"⟩, prog_4_method_6_code, 2, (some FieldType.boolean), 1, 22),
   (2, ⟨"EnvyRust$Town", "worthOf", "(II)I"⟩, prog_4_method_12_code, 5, (some FieldType.int), 2, 50),
   (3, ⟨"EnvyRust", "deal", "(III)I"⟩, prog_1_method_35_code, 5, (some FieldType.int), 4, 98),
   (3, ⟨"EnvyRust", "canDeal", "(III)Z"⟩, prog_1_method_38_code, 4, (some FieldType.boolean), 2, 43),
   (3, ⟨"EnvyRust", "isPart", "(II)Z"⟩, prog_1_method_69_code, 2, (some FieldType.boolean), 0, 0),
   (3, ⟨"EnvyRust", "leavesNoEnvy", "(IIII)Z"⟩, prog_1_method_39_code, 5, (some FieldType.boolean), 3, 74),
   (3, ⟨"EnvyRust", "deals", "(III)I"⟩, prog_1_method_36_code, 6, (some FieldType.int), 4, 98),
   (3, ⟨"EnvyRust", "lesser", "(III)I"⟩, prog_1_method_37_code, 8, (some FieldType.int), 3, 74),
   (3, ⟨"EnvyRust", "envious", "()I"⟩, prog_1_method_40_code, 5, (some FieldType.int), 3, 74),
   (3, ⟨"EnvyRust", "fits", "(III)I"⟩, prog_1_method_41_code, 7, (some FieldType.int), 6, 145),
   (3, ⟨"EnvyRust", "findingOfFit", "(III)I"⟩, prog_1_method_43_code, 5, (some FieldType.int), 3, 63),
   (3, ⟨"EnvyRust", "findingOfSheet", "(I)I"⟩, prog_1_method_60_code, 2, (some FieldType.int), 2, 42),
   (3, ⟨"EnvyRust", "isSheet", "(I)Z"⟩, prog_1_method_59_code, 1, (some FieldType.boolean), 1, 22),
   (0, ⟨"EnvyRust$Sheet", "isMissing", "()Z"⟩, prog_2_method_2_code, 1, (some FieldType.boolean), 0, 0)],
  [(3, ⟨"EnvyRust", "fitsWith", "(LEnvyRust$Sheet;III)Z"⟩, prog_1_method_44_code, 6, (some FieldType.boolean), 5, 120),
   (3, ⟨"EnvyRust", "likes", "(III)I"⟩, prog_1_method_42_code, 6, (some FieldType.int), 6, 145),
   (3, ⟨"EnvyRust", "strolls", "(I)I"⟩, prog_1_method_45_code, 4, (some FieldType.int), 5, 120),
   (2, ⟨"EnvyRust$Town", "scatter", "()V"⟩, prog_4_method_18_code, 2, (none), 0, 0),
   (3, ⟨"EnvyRust", "odds", "(II)J"⟩, prog_1_method_46_code, 8, (some FieldType.long), 2, 44),
   (2, ⟨"EnvyRust$Town", "placesOfThings", "()I"⟩, prog_4_method_23_code, 3, (some FieldType.int), 0, 0),
   (3, ⟨"EnvyRust", "seed", "(I)I"⟩, prog_1_method_47_code, 3, (some FieldType.int), 0, 0),
   (3, ⟨"EnvyRust", "feed", "(II)I"⟩, prog_1_method_48_code, 4, (some FieldType.int), 2, 44),
   (1, ⟨"EnvyRust$TextReader", "put", "(B)V"⟩, prog_3_method_2_code, 2, (none), 0, 0),
   (3, ⟨"EnvyRust", "wipe", "()I"⟩, prog_1_method_49_code, 2, (some FieldType.int), 0, 0),
   (3, ⟨"EnvyRust", "text", "()I"⟩, prog_1_method_50_code, 4, (some FieldType.int), 9, 218),
   (1, ⟨"EnvyRust$TextReader", "readInto", "(LEnvyRust$Town;)I"⟩, prog_3_method_3_code, 5, (some FieldType.int), 8, 194),
   (1, ⟨"EnvyRust$TextReader", "advance", "()V"⟩, prog_3_method_12_code, 1, (none), 1, 21),
   (1, ⟨"EnvyRust$TextReader", "isLetter", "(B)Z"⟩, prog_3_method_13_code, 1, (some FieldType.boolean), 0, 0),
   (1, ⟨"EnvyRust$TextReader", "isDigit", "(B)Z"⟩, prog_3_method_14_code, 1, (some FieldType.boolean), 0, 0),
   (1, ⟨"EnvyRust$TextReader", "kindTold", "()I"⟩, prog_3_method_9_code, 2, (some FieldType.int), 6, 143)],
  [(1, ⟨"EnvyRust$TextReader", "wordOfKind", "(I)Ljava/lang/String;"⟩, prog_3_method_10_code, 1, (some (FieldType.object "java/lang/String")), 0, 0),
   (1, ⟨"EnvyRust$TextReader", "isWord", "(Ljava/lang/String;)Z"⟩, prog_3_method_11_code, 3, (some FieldType.boolean), 5, 121),
   (8, ⟨"java/lang/String", "length", "()I"⟩, prog_9_method_54_code, 1, (some FieldType.int), 0, 0),
   (8, ⟨"java/lang/String", "coder", "()B"⟩, prog_9_method_152_code, 1, (some FieldType.byte), 0, 0),
   (8, ⟨"java/lang/String", "charAt", "(I)C"⟩, prog_9_method_56_code, 2, (some FieldType.char), 0, 0),
   (8, ⟨"java/lang/String", "isLatin1", "()Z"⟩, prog_9_method_154_code, 1, (some FieldType.boolean), 0, 0),
   (9, ⟨"java/lang/StringLatin1", "charAt", "([BI)C"⟩, prog_10_method_2_code, 2, (some FieldType.char), 0, 0),
   (8, ⟨"java/lang/String", "checkIndex", "(II)V"⟩, prog_9_method_155_code, 2, (none), 0, 0),
   (11, ⟨"jdk/internal/util/Preconditions", "checkIndex", "(IILjava/util/function/BiFunction;)I"⟩, prog_13_method_11_code, 3, (some FieldType.int), 0, 0),
   (10, ⟨"java/lang/StringUTF16", "charAt", "([BI)C"⟩, prog_11_method_83_code, 2, (some FieldType.char), 0, 0),
   (10, ⟨"java/lang/StringUTF16", "checkIndex", "(I[B)V"⟩, prog_11_method_91_code, 2, (none), 0, 0),
   (10, ⟨"java/lang/StringUTF16", "length", "([B)I"⟩, prog_11_method_6_code, 1, (some FieldType.int), 0, 0),
   (10, ⟨"java/lang/StringUTF16", "getChar", "([BI)C"⟩, prog_11_method_5_code, 2, (some FieldType.char), 0, 0),
   (1, ⟨"EnvyRust$TextReader", "readPerson", "(LEnvyRust$Town;I)V"⟩, prog_3_method_4_code, 7, (none), 7, 166),
   (1, ⟨"EnvyRust$TextReader", "readPerhaps", "(Ljava/lang/String;II)I"⟩, prog_3_method_6_code, 4, (some FieldType.int), 6, 143),
   (1, ⟨"EnvyRust$TextReader", "readNumber", "(I)I"⟩, prog_3_method_7_code, 3, (some FieldType.int), 2, 41)],
  [(1, ⟨"EnvyRust$TextReader", "fail", "()V"⟩, prog_3_method_8_code, 1, (none), 0, 0),
   (1, ⟨"EnvyRust$TextReader", "readThing", "(LEnvyRust$Town;)V"⟩, prog_3_method_5_code, 9, (none), 7, 166),
   (3, ⟨"EnvyRust", "hold", "(II)I"⟩, prog_1_method_51_code, 3, (some FieldType.int), 2, 44),
   (3, ⟨"EnvyRust", "as", "(II)I"⟩, prog_1_method_52_code, 4, (some FieldType.int), 2, 44),
   (3, ⟨"EnvyRust", "sheet", "(III)I"⟩, prog_1_method_53_code, 4, (some FieldType.int), 2, 44),
   (0, ⟨"EnvyRust$Sheet", "lay", "(II)V"⟩, prog_2_method_3_code, 4, (none), 0, 0),
   (3, ⟨"EnvyRust", "write", "(III)I"⟩, prog_1_method_54_code, 5, (some FieldType.int), 3, 63),
   (0, ⟨"EnvyRust$Sheet", "put", "(II)V"⟩, prog_2_method_4_code, 3, (none), 0, 0),
   (3, ⟨"EnvyRust", "copy", "(IIIII)I"⟩, prog_1_method_55_code, 6, (some FieldType.int), 2, 44),
   (0, ⟨"EnvyRust$Sheet", "has", "(II)Z"⟩, prog_2_method_5_code, 3, (some FieldType.boolean), 0, 0),
   (3, ⟨"EnvyRust", "load", "(I)I"⟩, prog_1_method_56_code, 6, (some FieldType.int), 3, 63),
   (3, ⟨"EnvyRust", "judge", "(I)I"⟩, prog_1_method_57_code, 4, (some FieldType.int), 3, 67),
   (3, ⟨"EnvyRust", "isLink", "(LEnvyRust$Sheet;I)Z"⟩, prog_1_method_58_code, 5, (some FieldType.boolean), 2, 43),
   (3, ⟨"EnvyRust", "image", "()I"⟩, prog_1_method_61_code, 1, (some FieldType.int), 2, 52),
   (3, ⟨"EnvyRust", "undo", "()I"⟩, prog_1_method_62_code, 1, (some FieldType.int), 2, 52),
   (3, ⟨"EnvyRust", "tear", "()I"⟩, prog_1_method_63_code, 2, (some FieldType.int), 0, 0)],
  [(3, ⟨"EnvyRust", "count", "(I)I"⟩, prog_1_method_64_code, 2, (some FieldType.int), 2, 44),
   (2, ⟨"EnvyRust$Town", "heldSpots", "()I"⟩, prog_4_method_26_code, 3, (some FieldType.int), 0, 0),
   (3, ⟨"EnvyRust", "status", "(I)I"⟩, prog_1_method_65_code, 4, (some FieldType.int), 2, 44),
   (4, ⟨"EnvyRustModel", "<init>", "()V"⟩, prog_6_method_1_code, 2, (none), 1, 20),
   (4, ⟨"EnvyRustModel", "thing", "(II)I"⟩, prog_6_method_21_code, 3, (some FieldType.int), 2, 48),
   (4, ⟨"EnvyRustModel", "within", "(III)Z"⟩, prog_6_method_3_code, 3, (some FieldType.boolean), 0, 0),
   (4, ⟨"EnvyRustModel", "isPlace", "(I)Z"⟩, prog_6_method_12_code, 1, (some FieldType.boolean), 1, 22),
   (4, ⟨"EnvyRustModel", "finding", "(I)I"⟩, prog_6_method_2_code, 2, (some FieldType.int), 0, 0),
   (4, ⟨"EnvyRustModel", "comes", "(IIIIII)I"⟩, prog_6_method_20_code, 8, (some FieldType.int), 1, 21),
   (4, ⟨"EnvyRustModel", "at", "(II)I"⟩, prog_6_method_16_code, 2, (some FieldType.int), 0, 0),
   (4, ⟨"EnvyRustModel", "thingOf", "(II)I"⟩, prog_6_method_28_code, 3, (some FieldType.int), 6, 135),
   (4, ⟨"EnvyRustModel", "isThing", "(I)Z"⟩, prog_6_method_10_code, 2, (some FieldType.boolean), 1, 22),
   (4, ⟨"EnvyRustModel", "wornNow", "(I)I"⟩, prog_6_method_27_code, 4, (some FieldType.int), 5, 112),
   (4, ⟨"EnvyRustModel", "personIs", "(II)I"⟩, prog_6_method_19_code, 3, (some FieldType.int), 1, 21),
   (4, ⟨"EnvyRustModel", "by", "(II)I"⟩, prog_6_method_18_code, 2, (some FieldType.int), 0, 0),
   (4, ⟨"EnvyRustModel", "thingIs", "(II)I"⟩, prog_6_method_17_code, 3, (some FieldType.int), 1, 21)],
  [(4, ⟨"EnvyRustModel", "envyOf", "(II)I"⟩, prog_6_method_26_code, 3, (some FieldType.int), 4, 90),
   (4, ⟨"EnvyRustModel", "envyIf", "(III)I"⟩, prog_6_method_25_code, 7, (some FieldType.int), 3, 64),
   (4, ⟨"EnvyRustModel", "isGone", "(I)Z"⟩, prog_6_method_24_code, 2, (some FieldType.boolean), 2, 43),
   (4, ⟨"EnvyRustModel", "isUnder", "(II)Z"⟩, prog_6_method_23_code, 3, (some FieldType.boolean), 1, 20),
   (4, ⟨"EnvyRustModel", "above", "(I)I"⟩, prog_6_method_22_code, 1, (some FieldType.int), 0, 0),
   (4, ⟨"EnvyRustModel", "forge", "(III)I"⟩, prog_6_method_31_code, 4, (some FieldType.int), 3, 66),
   (4, ⟨"EnvyRustModel", "mayForge", "(III)Z"⟩, prog_6_method_29_code, 4, (some FieldType.boolean), 2, 43),
   (4, ⟨"EnvyRustModel", "isThick", "(I)Z"⟩, prog_6_method_14_code, 1, (some FieldType.boolean), 1, 22),
   (4, ⟨"EnvyRustModel", "isDigit", "(I)Z"⟩, prog_6_method_15_code, 1, (some FieldType.boolean), 1, 22),
   (4, ⟨"EnvyRustModel", "isPerson", "(I)Z"⟩, prog_6_method_11_code, 2, (some FieldType.boolean), 1, 22),
   (4, ⟨"EnvyRustModel", "hangsOn", "(II)Z"⟩, prog_6_method_30_code, 4, (some FieldType.boolean), 2, 43),
   (4, ⟨"EnvyRustModel", "become", "(II)I"⟩, prog_6_method_4_code, 4, (some FieldType.int), 0, 0),
   (4, ⟨"EnvyRustModel", "person", "(II)I"⟩, prog_6_method_33_code, 3, (some FieldType.int), 2, 46),
   (4, ⟨"EnvyRustModel", "isKind", "(I)Z"⟩, prog_6_method_13_code, 1, (some FieldType.boolean), 1, 22),
   (4, ⟨"EnvyRustModel", "joins", "(III)I"⟩, prog_6_method_32_code, 6, (some FieldType.int), 1, 21),
   (4, ⟨"EnvyRustModel", "of", "(II)I"⟩, prog_6_method_35_code, 3, (some FieldType.int), 3, 66)],
  [(4, ⟨"EnvyRustModel", "ownedBy", "(I)I"⟩, prog_6_method_34_code, 4, (some FieldType.int), 2, 43),
   (4, ⟨"EnvyRustModel", "change", "(III)I"⟩, prog_6_method_36_code, 5, (some FieldType.int), 2, 43),
   (4, ⟨"EnvyRustModel", "envy", "(II)I"⟩, prog_6_method_37_code, 3, (some FieldType.int), 5, 112),
   (4, ⟨"EnvyRustModel", "go", "(I)I"⟩, prog_6_method_43_code, 2, (some FieldType.int), 8, 179),
   (4, ⟨"EnvyRustModel", "days", "(I)V"⟩, prog_6_method_40_code, 3, (none), 7, 157),
   (4, ⟨"EnvyRustModel", "day", "()V"⟩, prog_6_method_39_code, 3, (none), 6, 135),
   (4, ⟨"EnvyRustModel", "falls", "()Z"⟩, prog_6_method_38_code, 3, (some FieldType.boolean), 3, 64),
   (4, ⟨"EnvyRustModel", "goneNow", "()I"⟩, prog_6_method_41_code, 3, (some FieldType.int), 3, 64),
   (4, ⟨"EnvyRustModel", "bits", "(I)I"⟩, prog_6_method_9_code, 3, (some FieldType.int), 0, 0),
   (4, ⟨"EnvyRustModel", "now", "(I)I"⟩, prog_6_method_45_code, 4, (some FieldType.int), 6, 135),
   (4, ⟨"EnvyRustModel", "thickNow", "()I"⟩, prog_6_method_42_code, 3, (some FieldType.int), 2, 43),
   (4, ⟨"EnvyRustModel", "isSomebodyAt", "(I)Z"⟩, prog_6_method_44_code, 4, (some FieldType.boolean), 2, 43),
   (4, ⟨"EnvyRustModel", "ahead", "(II)I"⟩, prog_6_method_47_code, 3, (some FieldType.int), 9, 201),
   (4, ⟨"EnvyRustModel", "thickBehind", "(II)I"⟩, prog_6_method_46_code, 3, (some FieldType.int), 8, 179),
   (4, ⟨"EnvyRustModel", "copyRow", "([I[I)V"⟩, prog_6_method_5_code, 3, (none), 0, 0),
   (4, ⟨"EnvyRustModel", "putBack", "(I)I"⟩, prog_6_method_6_code, 2, (some FieldType.int), 1, 22)],
  [(4, ⟨"EnvyRustModel", "lasts", "(I)I"⟩, prog_6_method_48_code, 3, (some FieldType.int), 7, 157),
   (4, ⟨"EnvyRustModel", "orNone", "(I)I"⟩, prog_6_method_7_code, 2, (some FieldType.int), 1, 21),
   (4, ⟨"EnvyRustModel", "gone", "(I)I"⟩, prog_6_method_49_code, 2, (some FieldType.int), 8, 179),
   (4, ⟨"EnvyRustModel", "worn", "(I)I"⟩, prog_6_method_51_code, 2, (some FieldType.int), 9, 201),
   (4, ⟨"EnvyRustModel", "lostIn", "(I)I"⟩, prog_6_method_50_code, 3, (some FieldType.int), 8, 179),
   (4, ⟨"EnvyRustModel", "sees", "(II)I"⟩, prog_6_method_52_code, 5, (some FieldType.int), 2, 43),
   (4, ⟨"EnvyRustModel", "kindFor", "(II)I"⟩, prog_6_method_54_code, 3, (some FieldType.int), 10, 229),
   (4, ⟨"EnvyRustModel", "leastLoss", "(III)I"⟩, prog_6_method_53_code, 9, (some FieldType.int), 9, 201),
   (4, ⟨"EnvyRustModel", "walkFor", "(II)I"⟩, prog_6_method_55_code, 3, (some FieldType.int), 10, 229),
   (4, ⟨"EnvyRustModel", "placeFor", "(II)I"⟩, prog_6_method_57_code, 3, (some FieldType.int), 10, 230),
   (4, ⟨"EnvyRustModel", "thickest", "(IIII)I"⟩, prog_6_method_56_code, 10, (some FieldType.int), 9, 201),
   (4, ⟨"EnvyRustModel", "ownerFor", "(II)I"⟩, prog_6_method_58_code, 3, (some FieldType.int), 10, 230),
   (4, ⟨"EnvyRustModel", "worst", "(I)I"⟩, prog_6_method_59_code, 6, (some FieldType.int), 9, 201),
   (4, ⟨"EnvyRustModel", "paint", "(II)I"⟩, prog_6_method_61_code, 8, (some FieldType.int), 10, 225),
   (4, ⟨"EnvyRustModel", "lostPainted", "(II)I"⟩, prog_6_method_60_code, 5, (some FieldType.int), 9, 201),
   (4, ⟨"EnvyRustModel", "has", "(II)Z"⟩, prog_6_method_8_code, 2, (some FieldType.boolean), 0, 0)],
  [(4, ⟨"EnvyRustModel", "needs", "(II)I"⟩, prog_6_method_62_code, 6, (some FieldType.int), 9, 201),
   (4, ⟨"EnvyRustModel", "fallsWith", "(I)I"⟩, prog_6_method_64_code, 2, (some FieldType.int), 4, 89),
   (4, ⟨"EnvyRustModel", "fallWith", "(I)I"⟩, prog_6_method_63_code, 4, (some FieldType.int), 3, 66),
   (4, ⟨"EnvyRustModel", "depth", "(I)I"⟩, prog_6_method_65_code, 4, (some FieldType.int), 2, 43),
   (4, ⟨"EnvyRustModel", "keystone", "()I"⟩, prog_6_method_66_code, 5, (some FieldType.int), 4, 89),
   (4, ⟨"EnvyRustModel", "fells", "()I"⟩, prog_6_method_67_code, 3, (some FieldType.int), 2, 43),
   (4, ⟨"EnvyRustModel", "worth", "(II)I"⟩, prog_6_method_70_code, 3, (some FieldType.int), 5, 114),
   (4, ⟨"EnvyRustModel", "areThings", "(I)Z"⟩, prog_6_method_69_code, 2, (some FieldType.boolean), 1, 22),
   (4, ⟨"EnvyRustModel", "worthOf", "(II)I"⟩, prog_6_method_68_code, 5, (some FieldType.int), 4, 90),
   (4, ⟨"EnvyRustModel", "deal", "(III)I"⟩, prog_6_method_74_code, 6, (some FieldType.int), 6, 138),
   (4, ⟨"EnvyRustModel", "isPair", "(III)Z"⟩, prog_6_method_71_code, 4, (some FieldType.boolean), 2, 43),
   (4, ⟨"EnvyRustModel", "isDeal", "(IIII)Z"⟩, prog_6_method_72_code, 5, (some FieldType.boolean), 5, 114),
   (4, ⟨"EnvyRustModel", "deals", "(III)I"⟩, prog_6_method_75_code, 4, (some FieldType.int), 7, 163),
   (4, ⟨"EnvyRustModel", "dealsOf", "(III)I"⟩, prog_6_method_73_code, 6, (some FieldType.int), 6, 138),
   (4, ⟨"EnvyRustModel", "lesser", "(III)I"⟩, prog_6_method_76_code, 8, (some FieldType.int), 5, 114),
   (4, ⟨"EnvyRustModel", "envious", "()I"⟩, prog_6_method_77_code, 4, (some FieldType.int), 5, 114)],
  [(4, ⟨"EnvyRustModel", "fits", "(III)I"⟩, prog_6_method_81_code, 4, (some FieldType.int), 9, 209),
   (4, ⟨"EnvyRustModel", "lacks", "(I)I"⟩, prog_6_method_78_code, 2, (some FieldType.int), 2, 42),
   (4, ⟨"EnvyRustModel", "isSheet", "(I)Z"⟩, prog_6_method_103_code, 1, (some FieldType.boolean), 1, 22),
   (4, ⟨"EnvyRustModel", "fitting", "(III)I"⟩, prog_6_method_80_code, 8, (some FieldType.int), 8, 182),
   (4, ⟨"EnvyRustModel", "isWornSo", "(II)Z"⟩, prog_6_method_79_code, 6, (some FieldType.boolean), 7, 157),
   (4, ⟨"EnvyRustModel", "likes", "(III)I"⟩, prog_6_method_82_code, 6, (some FieldType.int), 9, 209),
   (4, ⟨"EnvyRustModel", "strolls", "(I)I"⟩, prog_6_method_84_code, 5, (some FieldType.int), 7, 157),
   (4, ⟨"EnvyRustModel", "drawn", "()I"⟩, prog_6_method_83_code, 1, (some FieldType.int), 0, 0),
   (4, ⟨"EnvyRustModel", "odds", "(II)J"⟩, prog_6_method_85_code, 9, (some FieldType.long), 2, 43),
   (4, ⟨"EnvyRustModel", "seed", "(I)I"⟩, prog_6_method_86_code, 2, (some FieldType.int), 1, 23),
   (4, ⟨"EnvyRustModel", "feed", "(II)I"⟩, prog_6_method_87_code, 4, (some FieldType.int), 1, 22),
   (4, ⟨"EnvyRustModel", "wipe", "()I"⟩, prog_6_method_88_code, 2, (some FieldType.int), 0, 0),
   (4, ⟨"EnvyRustModel", "text", "()I"⟩, prog_6_method_99_code, 3, (some FieldType.int), 8, 195),
   (4, ⟨"EnvyRustModel", "next", "()V"⟩, prog_6_method_90_code, 2, (none), 1, 22),
   (4, ⟨"EnvyRustModel", "byteAt", "(I)I"⟩, prog_6_method_89_code, 2, (some FieldType.int), 0, 0),
   (4, ⟨"EnvyRustModel", "readItem", "()V"⟩, prog_6_method_97_code, 8, (none), 7, 168)],
  [(4, ⟨"EnvyRustModel", "kindTold", "()I"⟩, prog_6_method_95_code, 3, (some FieldType.int), 6, 144),
   (4, ⟨"EnvyRustModel", "isWord", "(Ljava/lang/String;)Z"⟩, prog_6_method_91_code, 4, (some FieldType.boolean), 5, 121),
   (4, ⟨"EnvyRustModel", "must", "(Z)V"⟩, prog_6_method_92_code, 2, (none), 2, 43),
   (4, ⟨"EnvyRustModel", "afterWord", "(Ljava/lang/String;III)I"⟩, prog_6_method_96_code, 5, (some FieldType.int), 6, 144),
   (4, ⟨"EnvyRustModel", "number", "(II)I"⟩, prog_6_method_93_code, 4, (some FieldType.int), 3, 64),
   (4, ⟨"EnvyRustModel", "item", "(IIIIIII)V"⟩, prog_6_method_94_code, 9, (none), 0, 0),
   (4, ⟨"EnvyRustModel", "isToldSo", "(I)I"⟩, prog_6_method_98_code, 4, (some FieldType.int), 2, 48),
   (4, ⟨"EnvyRustModel", "hold", "(II)I"⟩, prog_6_method_101_code, 3, (some FieldType.int), 2, 43),
   (4, ⟨"EnvyRustModel", "isSpot", "(I)Z"⟩, prog_6_method_100_code, 1, (some FieldType.boolean), 1, 22),
   (4, ⟨"EnvyRustModel", "as", "(II)I"⟩, prog_6_method_102_code, 4, (some FieldType.int), 2, 43),
   (4, ⟨"EnvyRustModel", "sheet", "(III)I"⟩, prog_6_method_105_code, 5, (some FieldType.int), 2, 42),
   (4, ⟨"EnvyRustModel", "write", "(III)I"⟩, prog_6_method_106_code, 4, (some FieldType.int), 2, 42),
   (4, ⟨"EnvyRustModel", "cutTo", "(II)I"⟩, prog_6_method_104_code, 2, (some FieldType.int), 0, 0),
   (4, ⟨"EnvyRustModel", "copy", "(IIIII)I"⟩, prog_6_method_107_code, 7, (some FieldType.int), 2, 42),
   (4, ⟨"EnvyRustModel", "load", "(I)I"⟩, prog_6_method_108_code, 3, (some FieldType.int), 3, 63),
   (4, ⟨"EnvyRustModel", "judge", "(I)I"⟩, prog_6_method_109_code, 5, (some FieldType.int), 3, 63)],
  [(4, ⟨"EnvyRustModel", "image", "()I"⟩, prog_6_method_110_code, 1, (some FieldType.int), 1, 22),
   (4, ⟨"EnvyRustModel", "undo", "()I"⟩, prog_6_method_111_code, 1, (some FieldType.int), 1, 22),
   (4, ⟨"EnvyRustModel", "tear", "()I"⟩, prog_6_method_112_code, 2, (some FieldType.int), 0, 0),
   (4, ⟨"EnvyRustModel", "count", "(I)I"⟩, prog_6_method_113_code, 4, (some FieldType.int), 4, 86),
   (4, ⟨"EnvyRustModel", "status", "(I)I"⟩, prog_6_method_114_code, 2, (some FieldType.int), 1, 22),
   (5, x, code, 4, ret, 11, 252)]]
noncomputable def mMet (i : Nat) : Option mRow := (mMs[i / 16]?).bind fun l => l[i % 16]?
noncomputable def mCode (i : Nat) : Option (List (List (Option mEnt))) := (mKs[i / 16]?).bind fun l => l[i % 16]?
noncomputable def mFetch (i pc : Nat) : Option mEnt := (mCode i).bind fun k => (k[pc / 32]?).bind fun l => (l[pc % 32]?).bind id
noncomputable def mLT : List mLnk := [(5, 7, 4, 3, 0, 0),
  (5, 9, 14, 0, 1, 0),
  (3, 1, 20, 0, 0, 0),
  (3, 7, 4, 2, 0, 0),
  (3, 9, 15, 2, 1, 0),
  (2, 3, 20, 0, 0, 0),
  (2, 11, 6, 3, 0, 0),
  (2, 13, 0, 2, 0, 0),
  (3, 75, 1, 2, 0, 0),
  (1, 99, 1, 2, 0, 0),
  (2, 16, 0, 2, 1, 0),
  (1, 78, 1, 2, 1, 0),
  (3, 102, 1, 2, 1, 0),
  (2, 19, 0, 2, 2, 0),
  (3, 244, 1, 2, 2, 0),
  (2, 23, 0, 2, 3, 0),
  (3, 59, 1, 2, 3, 0),
  (1, 56, 1, 2, 3, 0),
  (2, 27, 0, 2, 4, 0),
  (1, 41, 1, 2, 4, 0),
  (3, 93, 1, 2, 4, 0),
  (2, 30, 0, 2, 5, 0),
  (3, 111, 1, 2, 5, 0),
  (2, 33, 0, 2, 6, 0),
  (3, 227, 1, 2, 6, 0),
  (2, 36, 0, 2, 7, 0),
  (3, 154, 1, 2, 7, 0),
  (3, 22, 4, 1, 0, 0),
  (3, 24, 15, 3, 1, 0),
  (1, 3, 20, 0, 0, 0),
  (1, 9, 0, 1, 0, 0),
  (1, 15, 0, 1, 1, 0),
  (3, 230, 1, 1, 1, 0),
  (1, 19, 0, 1, 2, 0),
  (1, 22, 0, 1, 3, 0),
  (1, 25, 0, 1, 4, 0),
  (1, 28, 0, 1, 5, 0),
  (1, 31, 0, 1, 6, 0),
  (3, 241, 1, 1, 6, 0),
  (3, 29, 5, 2, 0, 0),
  (3, 29, 4, 0, 0, 0),
  (3, 49, 15, 4, 1, 0),
  (0, 3, 20, 0, 0, 0),
  (0, 9, 0, 0, 0, 0),
  (3, 218, 1, 0, 0, 0),
  (0, 15, 0, 0, 1, 0),
  (3, 266, 1, 0, 1, 0),
  (0, 19, 0, 0, 2, 0),
  (3, 215, 1, 0, 2, 0),
  (3, 10, 0, 3, 0, 0),
  (3, 16, 0, 3, 1, 0),
  (3, 19, 0, 3, 2, 0),
  (3, 25, 0, 3, 3, 0),
  (3, 31, 0, 3, 4, 0),
  (3, 35, 0, 3, 5, 0),
  (3, 39, 0, 3, 6, 0),
  (3, 43, 0, 3, 7, 0),
  (3, 46, 0, 3, 8, 0),
  (5, 13, 10, 5, 3, 0),
  (3, 50, 12, 6, 3, 0),
  (3, 54, 2, 0, 0, (-1000001)),
  (3, 55, 10, 7, 2, 0),
  (3, 63, 2, 0, 0, (-1000002)),
  (3, 64, 11, 8, 3, 0),
  (5, 18, 10, 9, 3, 0),
  (3, 68, 11, 10, 2, 0),
  (2, 45, 13, 6, 3, 0),
  (3, 72, 11, 11, 2, 0),
  (2, 70, 10, 12, 3, 0),
  (2, 53, 10, 13, 4, 0),
  (2, 57, 13, 14, 2, 0),
  (3, 279, 7, 0, 0, 0),
  (2, 61, 24, 0, 0, 0),
  (2, 73, 25, 0, 0, 0),
  (5, 22, 10, 17, 4, 0),
  (3, 79, 10, 18, 4, 0),
  (3, 90, 11, 19, 2, 0),
  (3, 82, 11, 20, 2, 0),
  (2, 67, 13, 21, 2, 0),
  (3, 85, 12, 21, 2, 0),
  (3, 89, 2, 0, 0, (-1000005)),
  (5, 27, 10, 22, 3, 0),
  (3, 96, 11, 23, 3, 0),
  (5, 31, 10, 24, 3, 0),
  (3, 99, 11, 25, 2, 0),
  (5, 35, 10, 26, 4, 0),
  (3, 105, 12, 27, 2, 0),
  (5, 39, 10, 28, 3, 0),
  (3, 108, 11, 12, 3, 0),
  (5, 43, 10, 29, 2, 0),
  (3, 114, 2, 0, 0, 99999),
  (3, 115, 11, 30, 2, 0),
  (2, 76, 10, 11, 2, 0),
  (2, 80, 10, 31, 1, 0),
  (2, 86, 10, 32, 2, 0),
  (2, 83, 10, 33, 1, 0),
  (2, 90, 13, 34, 2, 0),
  (3, 119, 11, 35, 1, 0),
  (3, 123, 12, 36, 1, 0),
  (6, 265, 2, 0, 0, 1431655765),
  (6, 266, 2, 0, 0, 858993459),
  (6, 267, 2, 0, 0, 252645135),
  (5, 48, 10, 37, 2, 0),
  (3, 128, 11, 38, 1, 0),
  (3, 131, 11, 39, 1, 0),
  (3, 134, 11, 40, 1, 0),
  (5, 52, 10, 41, 3, 0),
  (3, 137, 10, 42, 1, 0),
  (3, 181, 11, 43, 2, 0),
  (2, 39, 21, 0, 0, 0),
  (5, 56, 10, 44, 2, 0),
  (3, 140, 11, 32, 2, 0),
  (3, 143, 2, 0, 0, (-1000004)),
  (5, 60, 10, 45, 2, 0),
  (5, 64, 10, 46, 2, 0),
  (5, 68, 10, 47, 3, 0),
  (3, 144, 12, 34, 2, 0),
  (5, 72, 10, 48, 3, 0),
  (3, 147, 10, 49, 5, 0),
  (5, 76, 10, 50, 3, 0),
  (5, 80, 10, 51, 3, 0),
  (3, 151, 10, 52, 5, 0),
  (5, 84, 10, 53, 3, 0),
  (5, 88, 10, 54, 2, 0),
  (5, 92, 10, 55, 3, 0),
  (3, 157, 25, 0, 0, 0),
  (3, 162, 10, 56, 4, 0),
  (3, 172, 21, 0, 0, 0),
  (3, 166, 11, 57, 1, 0),
  (3, 169, 10, 58, 2, 0),
  (3, 178, 11, 31, 1, 0),
  (5, 96, 10, 59, 3, 0),
  (5, 100, 10, 60, 2, 0),
  (5, 104, 10, 61, 2, 0),
  (3, 185, 11, 62, 2, 0),
  (5, 108, 10, 63, 1, 0),
  (5, 113, 10, 64, 1, 0),
  (5, 117, 10, 65, 3, 0),
  (3, 188, 11, 66, 2, 0),
  (2, 49, 10, 57, 1, 0),
  (3, 191, 11, 67, 3, 0),
  (5, 121, 10, 68, 4, 0),
  (3, 194, 10, 69, 4, 0),
  (3, 197, 12, 70, 2, 0),
  (3, 200, 10, 71, 5, 0),
  (5, 125, 10, 72, 4, 0),
  (5, 129, 10, 73, 4, 0),
  (5, 133, 10, 74, 1, 0),
  (5, 137, 10, 75, 4, 0),
  (3, 204, 10, 76, 4, 0),
  (3, 212, 10, 77, 2, 0),
  (3, 252, 12, 78, 1, 0),
  (3, 262, 11, 79, 1, 0),
  (3, 247, 2, 0, 0, (-1000006)),
  (3, 208, 10, 80, 5, 0),
  (5, 141, 10, 81, 4, 0),
  (5, 145, 10, 82, 2, 0),
  (3, 221, 11, 83, 1, 0),
  (2, 93, 2, 0, 0, 1103515245),
  (5, 149, 10, 84, 3, 0),
  (3, 224, 11, 85, 1, 0),
  (5, 154, 10, 86, 2, 0),
  (5, 158, 10, 87, 3, 0),
  (3, 233, 11, 88, 2, 0),
  (5, 162, 10, 89, 1, 0),
  (5, 166, 10, 90, 1, 0),
  (3, 237, 11, 91, 2, 0),
  (1, 34, 10, 92, 1, 0),
  (1, 129, 12, 93, 1, 0),
  (1, 133, 12, 94, 1, 0),
  (1, 136, 25, 0, 0, 0),
  (1, 37, 10, 95, 1, 0),
  (1, 102, 12, 96, 1, 0),
  (1, 106, 3, 0, 1, 0),
  (1, 108, 3, 0, 2, 0),
  (1, 110, 3, 0, 3, 0),
  (1, 112, 3, 0, 4, 0),
  (1, 114, 3, 0, 5, 0),
  (1, 116, 3, 0, 6, 0),
  (1, 118, 3, 0, 7, 0),
  (1, 52, 10, 97, 2, 0),
  (1, 120, 22, 0, 0, 0),
  (1, 125, 23, 0, 0, 0),
  (1, 46, 10, 109, 3, 0),
  (1, 66, 3, 0, 8, 0),
  (1, 68, 10, 110, 4, 0),
  (1, 84, 10, 111, 2, 0),
  (1, 63, 10, 112, 1, 0),
  (1, 72, 3, 0, 9, 0),
  (1, 74, 11, 23, 3, 0),
  (1, 82, 3, 0, 10, 0),
  (1, 50, 3, 0, 0, 0),
  (1, 59, 10, 113, 2, 0),
  (1, 88, 3, 0, 11, 0),
  (1, 90, 3, 0, 12, 0),
  (1, 92, 3, 0, 13, 0),
  (1, 94, 3, 0, 14, 0),
  (1, 96, 11, 8, 3, 0),
  (5, 170, 10, 114, 3, 0),
  (5, 174, 10, 115, 3, 0),
  (3, 248, 12, 14, 2, 0),
  (3, 251, 2, 0, 0, (-1000003)),
  (5, 178, 10, 116, 4, 0),
  (3, 255, 2, 0, 0, (-1000007)),
  (3, 256, 11, 117, 3, 0),
  (5, 182, 10, 118, 4, 0),
  (3, 260, 11, 119, 3, 0),
  (5, 186, 10, 120, 6, 0),
  (3, 269, 11, 121, 3, 0),
  (5, 191, 10, 122, 2, 0),
  (5, 195, 10, 123, 2, 0),
  (3, 272, 10, 124, 3, 0),
  (5, 199, 10, 125, 1, 0),
  (5, 203, 10, 126, 1, 0),
  (5, 207, 10, 127, 1, 0),
  (5, 211, 10, 128, 2, 0),
  (3, 276, 11, 129, 1, 0),
  (5, 215, 10, 130, 2, 0),
  (5, 10, 4, 4, 0, 0),
  (5, 12, 14, 131, 1, 0),
  (4, 1, 20, 0, 0, 0),
  (4, 35, 5, 4, 0, 0),
  (4, 37, 3, 0, 7, 0),
  (4, 39, 3, 0, 1, 0),
  (4, 41, 3, 0, 2, 0),
  (4, 43, 3, 0, 3, 0),
  (4, 45, 3, 0, 4, 0),
  (4, 47, 3, 0, 5, 0),
  (4, 49, 3, 0, 6, 0),
  (4, 9, 0, 4, 0, 0),
  (4, 13, 0, 4, 1, 0),
  (4, 16, 0, 4, 2, 0),
  (4, 346, 0, 4, 3, 0),
  (4, 19, 0, 4, 4, 0),
  (4, 22, 0, 4, 5, 0),
  (4, 25, 0, 4, 6, 0),
  (4, 29, 0, 4, 7, 0),
  (4, 32, 0, 4, 8, 0),
  (4, 254, 0, 4, 9, 0),
  (4, 260, 0, 4, 10, 0),
  (4, 257, 0, 4, 11, 0),
  (4, 269, 0, 4, 12, 0),
  (4, 266, 0, 4, 13, 0),
  (4, 279, 0, 4, 14, 0),
  (4, 51, 0, 4, 15, 0),
  (4, 55, 0, 4, 16, 0),
  (4, 290, 0, 4, 17, 0),
  (4, 321, 0, 4, 18, 0),
  (4, 303, 0, 4, 19, 0),
  (4, 58, 0, 4, 20, 0),
  (4, 61, 0, 4, 21, 0),
  (4, 64, 0, 4, 22, 0),
  (4, 67, 0, 4, 23, 0),
  (5, 17, 10, 132, 3, 0),
  (4, 80, 12, 133, 3, 0),
  (4, 91, 12, 134, 1, 0),
  (4, 70, 2, 0, 0, (-1000001)),
  (4, 76, 10, 135, 2, 0),
  (4, 95, 2, 0, 0, (-1000002)),
  (4, 96, 10, 136, 7, 0),
  (4, 84, 12, 137, 2, 0),
  (5, 21, 10, 138, 3, 0),
  (4, 131, 10, 139, 2, 0),
  (4, 134, 10, 140, 2, 0),
  (4, 109, 10, 141, 3, 0),
  (4, 88, 12, 142, 2, 0),
  (4, 103, 10, 143, 3, 0),
  (4, 125, 10, 144, 3, 0),
  (4, 121, 10, 145, 4, 0),
  (4, 106, 10, 146, 2, 0),
  (4, 112, 12, 147, 2, 0),
  (4, 100, 12, 148, 1, 0),
  (4, 116, 24, 0, 0, 0),
  (4, 128, 25, 0, 0, 0),
  (5, 26, 10, 149, 4, 0),
  (4, 146, 10, 150, 4, 0),
  (4, 137, 12, 151, 1, 0),
  (4, 140, 12, 152, 1, 0),
  (4, 143, 10, 153, 2, 0),
  (4, 149, 10, 154, 3, 0),
  (4, 152, 2, 0, 0, (-1000005)),
  (4, 153, 10, 155, 3, 0),
  (5, 30, 10, 156, 3, 0),
  (4, 156, 12, 157, 1, 0),
  (4, 159, 10, 158, 4, 0),
  (5, 34, 10, 159, 3, 0),
  (4, 162, 10, 160, 2, 0),
  (5, 38, 10, 161, 4, 0),
  (5, 42, 10, 162, 3, 0),
  (5, 47, 10, 163, 2, 0),
  (4, 172, 2, 0, 0, 99999),
  (4, 173, 10, 164, 2, 0),
  (4, 169, 10, 165, 1, 0),
  (4, 165, 10, 166, 1, 0),
  (4, 177, 10, 167, 1, 0),
  (4, 181, 12, 168, 1, 0),
  (5, 51, 10, 169, 2, 0),
  (4, 184, 10, 170, 1, 0),
  (4, 187, 10, 171, 2, 0),
  (5, 55, 10, 172, 3, 0),
  (4, 193, 10, 173, 3, 0),
  (4, 71, 12, 174, 2, 0),
  (4, 190, 10, 175, 2, 0),
  (5, 59, 10, 176, 2, 0),
  (4, 196, 10, 177, 2, 0),
  (4, 75, 2, 0, 0, (-1000004)),
  (5, 63, 10, 178, 2, 0),
  (5, 67, 10, 179, 2, 0),
  (4, 199, 10, 180, 2, 0),
  (5, 71, 10, 181, 3, 0),
  (5, 75, 10, 182, 3, 0),
  (4, 205, 10, 183, 4, 0),
  (4, 204, 2, 0, 0, 2147483647),
  (5, 79, 10, 184, 3, 0),
  (5, 83, 10, 185, 3, 0),
  (4, 208, 10, 186, 5, 0),
  (5, 87, 10, 187, 3, 0),
  (5, 91, 10, 188, 2, 0),
  (5, 95, 10, 189, 3, 0),
  (4, 215, 10, 190, 3, 0),
  (4, 212, 12, 191, 2, 0),
  (5, 99, 10, 192, 3, 0),
  (5, 103, 10, 193, 2, 0),
  (4, 218, 10, 194, 2, 0),
  (5, 107, 10, 195, 2, 0),
  (5, 112, 10, 196, 1, 0),
  (5, 116, 10, 197, 1, 0),
  (5, 120, 10, 198, 3, 0),
  (4, 221, 10, 199, 2, 0),
  (4, 224, 10, 200, 3, 0),
  (5, 124, 10, 201, 4, 0),
  (4, 231, 10, 202, 4, 0),
  (4, 227, 10, 203, 5, 0),
  (5, 128, 10, 204, 4, 0),
  (4, 234, 10, 205, 4, 0),
  (5, 132, 10, 206, 4, 0),
  (5, 136, 10, 207, 1, 0),
  (5, 140, 10, 208, 4, 0),
  (4, 244, 10, 209, 2, 0),
  (4, 237, 12, 210, 1, 0),
  (4, 240, 2, 0, 0, (-1000006)),
  (4, 247, 10, 211, 4, 0),
  (4, 241, 10, 212, 3, 0),
  (5, 144, 10, 213, 4, 0),
  (5, 148, 10, 214, 2, 0),
  (4, 251, 10, 215, 1, 0),
  (4, 250, 2, 0, 0, 1103515245),
  (5, 153, 10, 216, 3, 0),
  (5, 157, 10, 217, 2, 0),
  (5, 161, 10, 218, 3, 0),
  (5, 165, 10, 219, 1, 0),
  (5, 169, 10, 220, 1, 0),
  (4, 283, 10, 221, 1, 0),
  (4, 263, 10, 222, 2, 0),
  (4, 332, 10, 223, 1, 0),
  (4, 300, 10, 224, 1, 0),
  (4, 293, 10, 225, 2, 0),
  (4, 272, 22, 0, 0, 0),
  (4, 275, 23, 0, 0, 0),
  (4, 286, 10, 226, 2, 0),
  (4, 306, 3, 0, 8, 0),
  (4, 307, 10, 227, 5, 0),
  (4, 297, 10, 228, 3, 0),
  (4, 311, 3, 0, 9, 0),
  (4, 313, 3, 0, 10, 0),
  (4, 315, 10, 229, 8, 0),
  (4, 319, 3, 0, 0, 0),
  (4, 324, 3, 0, 11, 0),
  (4, 326, 3, 0, 12, 0),
  (4, 328, 3, 0, 13, 0),
  (4, 330, 3, 0, 14, 0),
  (4, 335, 10, 230, 2, 0),
  (5, 173, 10, 231, 3, 0),
  (4, 338, 12, 232, 1, 0),
  (5, 177, 10, 233, 3, 0),
  (4, 341, 2, 0, 0, (-1000003)),
  (5, 181, 10, 234, 4, 0),
  (4, 342, 2, 0, 0, (-1000007)),
  (5, 185, 10, 235, 4, 0),
  (4, 343, 12, 236, 2, 0),
  (5, 190, 10, 237, 6, 0),
  (5, 194, 10, 238, 2, 0),
  (5, 198, 10, 239, 2, 0),
  (5, 202, 10, 240, 1, 0),
  (5, 206, 10, 241, 1, 0),
  (5, 210, 10, 242, 1, 0),
  (5, 214, 10, 243, 2, 0),
  (5, 218, 10, 244, 2, 0)]
noncomputable def mLH : List Nat := [13, 15, 18, 21, 23, 26, 27, 29, 30, 31, 32, 33, 34, 35, 36, 37, 38, 39, 40, 41, 42, 43, 44, 45, 46, 47, 48, 67, 69, 72, 73, 74, 75, 76, 77, 78, 79, 80, 81, 98, 98, 101, 104, 105, 106, 107, 108, 109, 110, 118, 119, 120, 121, 122, 123, 124, 125, 126, 146, 150, 153, 154, 158, 159, 163, 167, 171, 172, 176, 180, 184, 187, 189, 192, 195, 199, 203, 207, 211, 214, 215, 216, 220, 224, 228, 232, 236, 239, 243, 244, 248, 249, 253, 254, 258, 262, 266, 269, 273, 276, 277, 278, 279, 283, 287, 291, 295, 299, 303, 307, 310, 314, 315, 316, 320, 324, 328, 329, 333, 337, 341, 345, 349, 353, 357, 361, 362, 366, 367, 371, 375, 376, 380, 384, 388, 392, 396, 400, 404, 408, 409, 413, 417, 421, 424, 428, 432, 436, 440, 444, 448, 452, 455, 459, 460, 464, 468, 472, 476, 477, 481, 485, 489, 493, 497, 501, 505, 509, 513, 516, 519, 520, 524, 527, 528, 529, 530, 531, 532, 533, 534, 538, 548, 586, 590, 591, 595, 599, 603, 604, 605, 606, 607, 611, 612, 613, 614, 615, 616, 620, 624, 625, 626, 630, 631, 635, 639, 643, 647, 651, 655, 659, 663, 667, 671, 675, 679, 683, 687, 689, 692, 693, 695, 696, 697, 698, 699, 700, 701, 702, 703, 704, 705, 706, 707, 708, 709, 710, 711, 712, 713, 714, 715, 716, 717, 718, 719, 720, 721, 722, 723, 724, 725, 775, 779, 782, 785, 786, 790, 791, 795, 798, 802, 806, 810, 814, 817, 821, 825, 829, 833, 836, 839, 840, 841, 845, 849, 852, 855, 859, 863, 864, 868, 872, 875, 879, 883, 887, 891, 895, 899, 900, 904, 908, 912, 916, 919, 923, 927, 931, 935, 939, 942, 946, 950, 954, 955, 959, 963, 967, 971, 975, 979, 980, 984, 988, 992, 996, 1000, 1004, 1008, 1011, 1015, 1019, 1023, 1027, 1031, 1035, 1039, 1043, 1047, 1051, 1055, 1059, 1063, 1067, 1071, 1075, 1079, 1083, 1086, 1087, 1091, 1095, 1099, 1103, 1107, 1108, 1112, 1116, 1120, 1124, 1128, 1132, 1136, 1140, 1144, 1148, 1149, 1150, 1154, 1155, 1159, 1163, 1164, 1165, 1169, 1170, 1171, 1172, 1173, 1174, 1178, 1182, 1185, 1189, 1190, 1194, 1195, 1199, 1202, 1206, 1210, 1214, 1218, 1222, 1226, 1230]
noncomputable def mTx : List (List Nat) := [[116, 104, 105, 110, 103], [109, 111, 100, 101, 115, 116], [114, 105, 118, 97, 108], [112, 114, 97, 105, 115, 101, 114], [116, 104, 105, 101, 102], [99, 104, 105, 108, 100], [98, 101, 103, 103, 97, 114], [108, 111, 111, 107, 101, 114], [97, 116], [119, 97, 108, 107, 115], [108, 105, 107, 101, 115], [116, 104, 105, 99, 107], [112, 97, 105, 110, 116], [111, 102], [111, 110]]
noncomputable def mTs : List String := ["thing", "modest", "rival", "praiser", "thief", "child", "beggar", "looker", "at", "walks", "likes", "thick", "paint", "of", "on"]
noncomputable def mIS : List (Nat × Nat × Nat) := [(16, 0, 0), (24, 2, 0), (70, 3, 0), (102, 4, 0), (147, 5, 0), (151, 6, 1), (156, 7, 0), (161, 8, 0), (164, 9, 0), (169, 10, 0), (174, 11, 0), (178, 12, 0), (182, 13, 0), (185, 14, 1), (196, 17, 0), (201, 18, 0), (205, 19, 0), (209, 20, 0), (212, 21, 1), (217, 22, 0), (222, 23, 0), (225, 24, 0), (230, 25, 0), (233, 26, 0), (237, 27, 1), (240, 28, 0), (245, 29, 0), (251, 30, 0), (256, 31, 0), (260, 32, 0), (264, 33, 0), (267, 34, 1), (271, 35, 0), (274, 36, 1), (280, 37, 0), (285, 38, 0), (289, 39, 0), (293, 40, 0), (296, 41, 0), (301, 42, 0), (305, 43, 0), (311, 44, 0), (317, 45, 0), (321, 46, 0), (325, 47, 0), (330, 48, 0), (335, 49, 0), (338, 50, 0), (342, 51, 0), (347, 52, 0), (350, 53, 0), (354, 54, 0), (358, 55, 0), (364, 56, 0), (369, 57, 0), (373, 58, 0), (377, 59, 0), (381, 60, 0), (385, 61, 0), (390, 62, 0), (393, 63, 0), (397, 64, 0), (401, 65, 0), (406, 66, 0), (411, 67, 0), (414, 68, 0), (419, 69, 0), (422, 70, 1), (426, 71, 0), (429, 72, 0), (433, 73, 0), (437, 74, 0), (441, 75, 0), (446, 76, 0), (450, 77, 0), (453, 78, 1), (457, 79, 0), (462, 80, 0), (465, 81, 0), (469, 82, 0), (474, 83, 0), (478, 84, 0), (483, 85, 0), (486, 86, 0), (490, 87, 0), (495, 88, 0), (498, 89, 0), (502, 90, 0), (507, 91, 0), (511, 92, 0), (514, 93, 1), (517, 94, 1), (522, 95, 0), (525, 96, 1), (536, 97, 0), (588, 109, 0), (593, 110, 0), (597, 111, 0), (601, 112, 0), (609, 113, 0), (617, 114, 0), (621, 115, 0), (627, 116, 0), (633, 117, 0), (636, 118, 0), (641, 119, 0), (644, 120, 0), (649, 121, 0), (652, 122, 0), (656, 123, 0), (661, 124, 0), (664, 125, 0), (668, 126, 0), (672, 127, 0), (676, 128, 0), (681, 129, 0), (684, 130, 0), (690, 131, 0), (776, 132, 0), (780, 133, 1), (783, 134, 1), (788, 135, 0), (793, 136, 0), (796, 137, 1), (799, 138, 0), (804, 139, 0), (808, 140, 0), (812, 141, 0), (815, 142, 1), (819, 143, 0), (823, 144, 0), (827, 145, 0), (831, 146, 0), (834, 147, 1), (837, 148, 1), (842, 149, 0), (847, 150, 0), (850, 151, 1), (853, 152, 1), (857, 153, 0), (861, 154, 0), (866, 155, 0), (869, 156, 0), (873, 157, 1), (877, 158, 0), (880, 159, 0), (885, 160, 0), (888, 161, 0), (892, 162, 0), (896, 163, 0), (902, 164, 0), (906, 165, 0), (910, 166, 0), (914, 167, 0), (917, 168, 1), (920, 169, 0), (925, 170, 0), (929, 171, 0), (932, 172, 0), (937, 173, 0), (940, 174, 1), (944, 175, 0), (947, 176, 0), (952, 177, 0), (956, 178, 0), (960, 179, 0), (965, 180, 0), (968, 181, 0), (972, 182, 0), (977, 183, 0), (981, 184, 0), (985, 185, 0), (990, 186, 0), (993, 187, 0), (997, 188, 0), (1001, 189, 0), (1006, 190, 0), (1009, 191, 1), (1012, 192, 0), (1016, 193, 0), (1021, 194, 0), (1024, 195, 0), (1028, 196, 0), (1032, 197, 0), (1036, 198, 0), (1041, 199, 0), (1045, 200, 0), (1048, 201, 0), (1053, 202, 0), (1057, 203, 0), (1060, 204, 0), (1065, 205, 0), (1068, 206, 0), (1072, 207, 0), (1076, 208, 0), (1081, 209, 0), (1084, 210, 1), (1089, 211, 0), (1093, 212, 0), (1096, 213, 0), (1100, 214, 0), (1105, 215, 0), (1109, 216, 0), (1113, 217, 0), (1117, 218, 0), (1121, 219, 0), (1125, 220, 0), (1130, 221, 0), (1134, 222, 0), (1138, 223, 0), (1142, 224, 0), (1146, 225, 0), (1152, 226, 0), (1157, 227, 0), (1161, 228, 0), (1167, 229, 0), (1176, 230, 0), (1179, 231, 0), (1183, 232, 1), (1186, 233, 0), (1191, 234, 0), (1196, 235, 0), (1200, 236, 1), (1203, 237, 0), (1207, 238, 0), (1211, 239, 0), (1215, 240, 0), (1219, 241, 0), (1223, 242, 0), (1227, 243, 0), (1231, 244, 0)]
noncomputable def mSE1 : List (Nat × Nat) := [(0, 7), (1, 8), (2, 10), (3, 11), (4, 12), (5, 13), (6, 18), (7, 19), (8, 20), (9, 23), (10, 25), (11, 30), (12, 31), (13, 32), (14, 33), (15, 35), (16, 38), (17, 39), (18, 40), (19, 42), (20, 43), (21, 49), (22, 52), (23, 56), (24, 57), (25, 58), (26, 62), (27, 66), (28, 67), (29, 69), (30, 71), (31, 76), (32, 77), (33, 79), (34, 80), (35, 83), (36, 85), (37, 88), (38, 91), (39, 92), (40, 95), (41, 97), (42, 109), (43, 110), (44, 111), (45, 112), (46, 113), (47, 117), (48, 119), (49, 121), (50, 124), (51, 129), (52, 135), (53, 136), (54, 139), (55, 140), (56, 141), (57, 143), (58, 144), (59, 145), (60, 146), (61, 150), (62, 153), (63, 154), (64, 155), (65, 158), (66, 160), (67, 164), (68, 165), (69, 166), (70, 167), (71, 170), (72, 171), (73, 173), (74, 175), (75, 177), (76, 180), (77, 183), (78, 186), (79, 190), (80, 194), (81, 199), (82, 200), (83, 202), (84, 203), (85, 205), (86, 209), (87, 211), (88, 212), (89, 215), (90, 221), (91, 222), (92, 223), (93, 224), (94, 225), (95, 226), (96, 227), (97, 228), (98, 229), (99, 230)]
noncomputable def mSE2 : List (Nat × Nat) := [(148, 5), (165, 9), (197, 17), (218, 22), (226, 24), (234, 26), (241, 28), (246, 29), (281, 37), (297, 41), (312, 44), (318, 45), (322, 46), (326, 47), (331, 48), (339, 50), (343, 51), (351, 53), (355, 54), (359, 55), (378, 59), (382, 60), (386, 61), (394, 63), (398, 64), (402, 65), (415, 68), (430, 72), (434, 73), (438, 74), (442, 75), (466, 81), (470, 82), (479, 84), (487, 86), (491, 87), (499, 89), (503, 90), (618, 114), (622, 115), (628, 116), (637, 118), (645, 120), (653, 122), (657, 123), (665, 125), (669, 126), (673, 127), (677, 128), (685, 130), (777, 132), (800, 138), (843, 149), (870, 156), (881, 159), (889, 161), (893, 162), (897, 163), (921, 169), (933, 172), (948, 176), (957, 178), (961, 179), (969, 181), (973, 182), (982, 184), (986, 185), (994, 187), (998, 188), (1002, 189), (1013, 192), (1017, 193), (1025, 195), (1029, 196), (1033, 197), (1037, 198), (1049, 201), (1061, 204), (1069, 206), (1073, 207), (1077, 208), (1097, 213), (1101, 214), (1110, 216), (1114, 217), (1118, 218), (1122, 219), (1126, 220), (1180, 231), (1187, 233), (1192, 234), (1197, 235), (1204, 237), (1208, 238), (1212, 239), (1216, 240), (1220, 241), (1224, 242), (1228, 243), (1232, 244)]
noncomputable def mIN : List (Nat × Nat) := [(0, 5), (1, 3), (2, 2), (3, 1), (4, 0), (5, 4), (7, 6)]
noncomputable def mUL : List (Nat × Nat × Nat) := [(49, 2, 0), (51, 2, 1), (53, 2, 2), (55, 2, 3), (57, 2, 4), (59, 2, 5), (61, 2, 6), (63, 2, 7), (82, 1, 0), (84, 1, 1), (86, 1, 2), (88, 1, 3), (90, 1, 4), (92, 1, 5), (94, 1, 6), (111, 0, 0), (113, 0, 1), (115, 0, 2), (127, 3, 0), (129, 3, 1), (131, 3, 2), (133, 3, 3), (135, 3, 4), (137, 3, 5), (139, 3, 6), (141, 3, 7), (143, 3, 8), (726, 4, 0), (728, 4, 1), (730, 4, 2), (732, 4, 3), (734, 4, 4), (736, 4, 5), (738, 4, 6), (740, 4, 7), (742, 4, 8), (744, 4, 9), (746, 4, 10), (748, 4, 11), (750, 4, 12), (752, 4, 13), (754, 4, 14), (756, 4, 15), (758, 4, 16), (760, 4, 17), (762, 4, 18), (764, 4, 19), (766, 4, 20), (768, 4, 21), (770, 4, 22), (772, 4, 23)]
noncomputable def mNI : List (Nat × Nat) := [(14, 3), (22, 2), (68, 1), (100, 0), (688, 4)]
noncomputable def mTk : List Nat := [50, 106, 108, 110, 112, 114, 116, 118, 66, 72, 82, 88, 90, 92, 94]
noncomputable def mTk4 : List Nat := [319, 39, 41, 43, 45, 47, 49, 37, 306, 311, 313, 324, 326, 328, 330]
noncomputable def mNr : List (Nat × Nat × Nat × Nat) := [(19, 0, 1, 0), (20, 1, 1, 0), (21, 2, 1, 0), (22, 3, 1, 0), (23, 4, 1, 0), (24, 4, 1, 1), (25, 4, 1, 2), (26, 4, 1, 3), (27, 4, 1, 4), (28, 4, 1, 5), (29, 0, 2, 0), (30, 1, 2, 0), (31, 2, 2, 0), (32, 3, 2, 0), (33, 4, 2, 0), (34, 4, 2, 1), (35, 4, 2, 2), (36, 4, 2, 3), (37, 4, 2, 4), (38, 0, 3, 0), (39, 1, 3, 0), (40, 2, 3, 0), (41, 3, 3, 0), (42, 4, 3, 0), (43, 4, 3, 1), (44, 4, 3, 2), (45, 4, 3, 3), (46, 4, 3, 4), (47, 4, 3, 5), (48, 4, 3, 6), (49, 0, 4, 0), (50, 1, 4, 0), (51, 2, 4, 0), (52, 3, 4, 0), (53, 4, 4, 0), (54, 4, 4, 1), (55, 4, 4, 2), (56, 4, 4, 3), (57, 4, 4, 4), (58, 0, 5, 0), (59, 1, 5, 0), (60, 2, 5, 0), (61, 3, 5, 0), (62, 4, 5, 0), (63, 4, 5, 1), (64, 4, 5, 2), (65, 4, 5, 3), (66, 4, 5, 4), (67, 0, 6, 0), (68, 1, 6, 0), (69, 2, 6, 0), (70, 3, 6, 0), (71, 4, 6, 0), (72, 4, 6, 1), (73, 4, 6, 2), (74, 4, 6, 3), (75, 4, 6, 4), (76, 4, 6, 5), (77, 0, 7, 0), (78, 1, 7, 0), (79, 2, 7, 0), (80, 3, 7, 0), (81, 4, 7, 0), (82, 4, 7, 1), (83, 4, 7, 2), (84, 4, 7, 3), (85, 4, 7, 4), (86, 4, 7, 5), (87, 0, 8, 0), (88, 1, 8, 0), (89, 2, 8, 0), (90, 3, 8, 0), (91, 4, 8, 0), (92, 4, 8, 1), (93, 0, 9, 0), (94, 1, 9, 0), (95, 2, 9, 0), (96, 3, 9, 0), (97, 4, 9, 0), (98, 4, 9, 1), (99, 4, 9, 2), (100, 4, 9, 3), (101, 4, 9, 4), (102, 0, 10, 0), (103, 1, 10, 0), (104, 2, 10, 0), (105, 3, 10, 0), (106, 4, 10, 0), (107, 4, 10, 1), (108, 4, 10, 2), (109, 4, 10, 3), (110, 4, 10, 4), (111, 0, 0, 0), (112, 1, 0, 0), (113, 2, 0, 0), (114, 3, 0, 0), (115, 4, 0, 0), (116, 4, 0, 1), (117, 4, 0, 2), (118, 4, 0, 3), (119, 4, 0, 4), (120, 0, 11, 0), (121, 1, 11, 0), (122, 2, 11, 0), (123, 3, 11, 0), (124, 4, 11, 0), (125, 4, 11, 1), (126, 4, 11, 2), (127, 4, 11, 3), (128, 4, 11, 4), (129, 0, 12, 0), (130, 1, 12, 0), (131, 2, 12, 0), (132, 3, 12, 0), (133, 4, 12, 0), (134, 4, 12, 1), (135, 4, 12, 2), (136, 4, 12, 3), (137, 4, 12, 4), (138, 0, 13, 0), (139, 1, 13, 0), (140, 2, 13, 0), (141, 3, 13, 0), (142, 4, 13, 0), (143, 4, 13, 1), (144, 0, 14, 0), (145, 1, 14, 0), (146, 2, 14, 0), (147, 3, 14, 0), (148, 4, 14, 0), (149, 4, 14, 1), (160, 5, 7, 37), (171, 5, 1, 39), (181, 5, 2, 41), (193, 5, 3, 43), (203, 5, 4, 45), (213, 5, 5, 47), (224, 5, 6, 49), (231, 5, 8, 306), (241, 5, 9, 311), (251, 5, 10, 313), (261, 5, 0, 319), (271, 5, 11, 324), (281, 5, 12, 326), (288, 5, 13, 328), (295, 5, 14, 330)]
abbrev mIdLaw : Nat := 245
abbrev mIdLen : Nat := 98
abbrev mIdChr : Nat := 100
abbrev mIdCod : Nat := 99
abbrev mIdLat : Nat := 101
abbrev mIdChk : Nat := 103
abbrev mIdLch : Nat := 102
abbrev mIdPre : Nat := 104
abbrev mNM : Nat := 246
noncomputable def mDf (k : Nat) : List Value := ([[.null, .int 0, .int 0],
  [.null, .int 0, .int 0, .int 0, .int 0, .int 0, .int 0],
  [.null, .null, .null, .int 0, .int 0, .int 0, .int 0, .int 0],
  [.null, .null, .null, .null, .null, .null, .int 0, .null, .null],
  [.null, .null, .null, .int 0, .null, .null, .int 0, .null, .null, .int 0, .int 0, .int 0, .int 0, .int 0, .int 0, .null, .null, .int 0, .int 0, .int 0, .null, .null, .null, .null]] : List (List Value)).getD k []
noncomputable def mFT (k : Nat) : u_T := match k with
  | 0 => TX0
  | 1 => TX1
  | 2 => TX2
  | 3 => TX3
  | _ => TX4
noncomputable def mFy (k : Nat) : (Nat → FieldType) := match k with
  | 0 => tyX0
  | 1 => tyX1
  | 2 => tyX2
  | 3 => tyX3
  | _ => tyX4
noncomputable def mFN (k : Nat) : Nat := match k with
  | 0 => 3
  | 1 => 7
  | 2 => 8
  | 3 => 9
  | _ => 24
