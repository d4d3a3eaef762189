/-! ===== the texts' own members, walked: mSO ===== -/
def tyCod : MethodName := ⟨"java/lang/String", "coder", "()B"⟩
def tyLat : MethodName := ⟨"java/lang/String", "isLatin1", "()Z"⟩
def tyChk : MethodName := ⟨"java/lang/String", "checkIndex", "(II)V"⟩
def tyLch : MethodName := ⟨"java/lang/StringLatin1", "charAt", "([BI)C"⟩
def tyPre : MethodName := ⟨"jdk/internal/util/Preconditions", "checkIndex", "(IILjava/util/function/BiFunction;)I"⟩
theorem t_codes : Cond.code tyCod prog_9_method_152_code 1 (some .byte) ∈ tables_1 ∧ Cond.code tyLat prog_9_method_154_code 1 (some .boolean) ∈ tables_1 ∧ Cond.code tyChk prog_9_method_155_code 2 none ∈ tables_1 ∧ Cond.code tyLch prog_10_method_2_code 2 (some .char) ∈ tables_1 ∧ Cond.code tyPre prog_13_method_11_code 3 (some .int) ∈ tables_1 :=
  ⟨mM_code (show mMet mIdCod = some (8, tyCod, prog_9_method_152_code, 1, some .byte, 0, 0) from rfl) (by decide), mM_code (show mMet mIdLat = some (8, tyLat, prog_9_method_154_code, 1, some .boolean, 0, 0) from rfl) (by decide), mM_code (show mMet mIdChk = some (8, tyChk, prog_9_method_155_code, 2, none, 0, 0) from rfl) (by decide), mM_code (show mMet mIdLch = some (9, tyLch, prog_10_method_2_code, 2, some .char, 0, 0) from rfl) (by decide), mM_code (show mMet mIdPre = some (11, tyPre, prog_13_method_11_code, 3, some .int, 0, 0) from rfl) (by decide)⟩
noncomputable def tWs : List Cond := [.fieldLink "java/lang/String" 9 "java/lang/String" "value" "[B", .fieldLink "java/lang/String" 15 "java/lang/String" "coder" "B", .fieldLink "java/lang/String" 38 "java/lang/String" "COMPACT_STRINGS" "Z", .fieldLink "java/lang/String" 1053 "jdk/internal/util/Preconditions" "SIOOBE_FORMATTER" "Ljava/util/function/BiFunction;",
  .methodLink "java/lang/String" 335 tyCod, .instanceMethod tyCod, .selects "java/lang/String" tyCod tyCod, .methodLink "java/lang/String" 492 tyLat, .instanceMethod tyLat, .selects "java/lang/String" tyLat tyLat,
  .methodLink "java/lang/String" 495 tyLch, .static tyLch, .initialized "java/lang/StringLatin1", .methodLink "java/lang/StringLatin1" 9 tyChk, .static tyChk, .initialized "java/lang/String", .methodLink "java/lang/String" 1059 tyPre, .static tyPre, .initialized "jdk/internal/util/Preconditions"]
theorem tWs_ok : tWs.all (fun w => decide (w ∈ tables_1) && goodWord w) = true := by decide +kernel
theorem tWs_gw {w : Cond} (h : w ∈ tWs) : w ∈ mGW := by
  have h1 := List.all_eq_true.mp tWs_ok w h
  rw [Bool.and_eq_true, decide_eq_true_eq] at h1
  exact mTb_gw h1.1 h1.2
theorem tTx_lt : mTx.all (fun x => x.all fun k => Nat.blt k 128) = true := by decide +kernel
theorem tNi_ck : (List.range 128).all (fun k => decide ((nI k) &&& (Int16.ofInt 255).toInt32 = nI k) && decide (((nI k).toUInt32 % 65536).toInt32 = nI k) && decide (narrow .char (.int (nI k)) = .int (nI k))) = true := by decide +kernel
theorem tTx_at {t : Nat} (j : Nat) : (mTx.getD t []).getD j 0 < 128 := by
  rw [List.getD_eq_getElem?_getD, List.getD_eq_getElem?_getD]
  cases h1 : mTx[t]? with
  | none => simp
  | some x =>
    cases h2 : x[j]? with
    | none => simp [h2]
    | some k =>
      have h3 := List.all_eq_true.mp (List.all_eq_true.mp tTx_lt x (List.mem_of_getElem? h1)) k (List.mem_of_getElem? h2)
      simpa [h2] using h3
theorem tNi {k : Nat} (h : k < 128) : (nI k) &&& (Int16.ofInt 255).toInt32 = nI k ∧ ((nI k).toUInt32 % 65536).toInt32 = nI k ∧ narrow .char (.int (nI k)) = .int (nI k) := by
  have h1 := List.all_eq_true.mp tNi_ck k (List.mem_range.mpr h)
  simp only [Bool.and_eq_true, decide_eq_true_eq] at h1
  exact ⟨h1.1.1, h1.1.2, h1.2⟩
def tQ (v : Option Value) : Array Value → State → Outcome → State → Prop := fun _ st oc u => oc = .returned v ∧ u.heap = st.heap
/-- where the walk of such a member stands -/
def tCx (p : Program) (s : State) (m : MethodId) (args : Array Value) (meth : Method) (c : Code) (G : mG) (cls : String) (cc : ByteArray) (nL : Nat) (ret : Option FieldType) : Prop :=
  p.tables.exec = Jvm.exec ∧ c.code = cc ∧ c.maxLocals = nL ∧ s.vm.findClass cls = some m.cls ∧ (∀ w ∈ mGW, w.before args s = true) ∧ mE G s s.heap ∧ meth.sig.returnType = ret ∧ meth.locks = false
theorem t_met {l : Launch} {y : MethodName} {bytes : ByteArray} {maxL : Nat} {ret : Option FieldType} {rm : Room} {G : mG} {as : List Value} {v : Option Value} (hpl : plainName y.cls = true) (hc : ∀ w ∈ as, w.category = 1) (hn : as.length ≤ maxL)
    (body : ∀ (p : Program) (e : Env) (s : State) (m : MethodId) (below : List Frame) (meth : Method) (c : Code) (ls : Array Slot), tCx p s m as.toArray meth c G y.cls bytes maxL ret → ls.size = maxL → (∀ (i : Nat) (v : Value), as[i]? = some v → ls[i]? = some (.val v)) →
      W p l e rm s m as.toArray below meth c s.heap [] 0 0 (MQ below (tQ v) as.toArray s 0 0 (fun _ => False)) (F0 m 0 ls [])) :
    Met l y (Cond.code y bytes maxL ret :: mGW) rm (va_Pc as (fun U => mE G U U.heap)) (tQ v) 0 0 (fun _ => False) := by
  refine Met.ofW (cc := bytes) (maxL := maxL) (ret := ret) hpl rfl ?_
  intro p e s m args below meth c s₁ B hml hv
  obtain ⟨rfl, hE⟩ := hv
  have hts := atoms_spec (ws := Cond.code y bytes maxL ret :: mGW) B.pre
  have hl := lv_entry as (n := maxL) (by rw [lg_sl1 _ hc]; exact hn)
  rw [lg_entry_eq]
  have hl2 : ((lg_sl as ++ List.replicate (maxL - (lg_sl as).length) Slot.unset).toArray).size = maxL := hl.1
  refine body p e s m below meth c _ ⟨B.exec, B.bytes, hml, findClass_of_methodNamed B.named, fun w hw => hts w (List.mem_cons_of_mem _ hw), hE, B.returns, B.notSynchronized⟩ hl2 (fun i v hi => ?_)
  have := lv_args1 as 0 i v hc hi
  rw [Nat.zero_add] at this
  exact hl.2.2 _ this
section TXR
variable {p : Program} {l : Launch} {e : Env} {R : Room} {s : State} {m : MethodId} {args : Array Value} {below : List Frame} {meth : Method} {c : Code} {Q : State → Prop} {H : Heap} {locs : List Loc} {cells slots : Nat} {pc : Nat} {ls : Array Slot}
theorem m_run1 {v : Option Value} {st0 rest : List Value} (run : va_Run p l e R s m args below meth c H locs cells slots 0 0 (F0 m pc ls st0) rest (fun st oc u => oc = .returned v ∧ u.heap = st.heap) (fun _ => False)) (k : W p l e R s m args below meth c H locs cells slots Q (F0 m (pc + 3) ls (v.toList ++ rest))) : W p l e R s m args below meth c H locs cells slots Q (F0 m pc ls st0) := by
  intro T hT X
  obtain ⟨v', st₀, t, T', L', h0, X', hL', e1, e2, ⟨hv, hh⟩, st⟩ := run T hT X
  cases hv
  have hLn : L' = [] := List.eq_nil_iff_forall_not_mem.mpr fun q hq => hL' q hq
  subst hLn
  rw [List.append_nil] at X'
  obtain ⟨t2, a1, b1⟩ := k T' (by rw [e1, hh, h0]) X'
  exact ⟨t2, st t2 a1, b1⟩
end TXR
section TXW
variable {p : Program} {l : Launch} {e : Env} {R : Room} {s : State} {m : MethodId} {args : Array Value} {below : List Frame} {meth : Method} {c : Code} {Q : State → Prop} {G : mG} {pc : Nat} {ls : Array Slot} {rest : List Value} {cls : String} {cc : ByteArray} {nL : Nat} {ret : Option FieldType} {t : Nat}
theorem tCx.w (C : tCx p s m args meth c G cls cc nL ret) {w : Cond} (h : w ∈ tWs) : w.before args s = true := C.2.2.2.2.1 w (tWs_gw h)
theorem t_ret (C : tCx p s m args meth c G cls cc nL ret) {v : Int32} {ty : FieldType} (hty : ret = some ty) (hn : narrow ty (.int v) = .int v) (hd : decode cc pc = .ok (.ireturn, 1)) : W p l e R s m args below meth c s.heap [] 0 0 (MQ below (tQ (some (.int v))) args s 0 0 (fun _ => False)) (F0 m pc ls [.int v]) :=
  W.zret C.1 C.2.1 (C.2.2.2.2.2.2.1.trans hty) hn (fun t ht _ => ⟨rfl, ht⟩) (fun _ h => by cases h) hd C.2.2.2.2.2.2.2
theorem t_getf (C : tCx p s m args meth c G "java/lang/String" cc nL ret) (ht : t < 15) {idx : Nat} {n d : String} {v : Value} (hw : Cond.fieldLink "java/lang/String" idx "java/lang/String" n d ∈ tWs) (hv : va_OF "java/lang/String" n d v (G.2.1 t) (mA G) s s.heap) (hd : decode cc pc = .ok (.getfield idx, 3))
    (k : W p l e R s m args below meth c s.heap [] 0 0 Q (F0 m (pc + 3) ls (v :: rest))) : W p l e R s m args below meth c s.heap [] 0 0 Q (F0 m pc ls (.ref (G.2.1 t) :: rest)) :=
  vk_getf C.1 C.2.1 hv va_S.rf C.2.2.2.1 (C.w hw) (fun _ h => h) hd k
theorem t_comp (C : tCx p s m args meth c G "java/lang/String" cc nL ret) (hd : decode cc pc = .ok (.getstatic 38, 3))
    (k : W p l e R s m args below meth c s.heap [] 0 0 Q (F0 m (pc + 3) ls (.int 1 :: rest))) : W p l e R s m args below meth c s.heap [] 0 0 Q (F0 m pc ls rest) :=
  va_gets C.1 C.2.1 C.2.2.2.2.2.1.2.2.2.2.2.2.2.2.1 va_S.rf C.2.2.2.1 (C.w (by simp [tWs])) (fun _ h => h) hd k
/-- a call of such a member -/
theorem t_callV (C : tCx p s m args meth c G cls cc nL ret) (ht : t < 15) {y : MethodName} {bytes : ByteArray} {maxL n idx : Nat} {r2 : Option FieldType} {rm : Room} {As : List Value} {v : Option Value} (hM : Met l y (Cond.code y bytes maxL r2 :: mGW) rm (va_Pc (.ref (G.2.1 t) :: As) (fun U => mE G U U.heap)) (tQ v) 0 0 (fun _ => False))
    (hcode : Cond.code y bytes maxL r2 ∈ tables_1) (hy : y.cls = "java/lang/String") (hl : Cond.methodLink cls idx y ∈ tWs) (hi : Cond.instanceMethod y ∈ tWs) (hs : Cond.selects "java/lang/String" y y ∈ tWs) (hrm : rm.cells = 0 ∧ rm.slots = 0 ∧ rm.frames + 1 ≤ R.frames ∧ 8 + (maxL + 11) + rm.locals ≤ R.locals) (hn : As.length = n)
    (h9 : (parseMethodDescriptor y.desc).map (fun d => d.parameters.length) = some n) (hsz : ls.size = nL) (hwt : (rest.map fun v => v.category).sum ≤ 8) (hd : decode cc pc = .ok (.invokevirtual idx, 3))
    (k : W p l e R s m args below meth c s.heap [] 0 0 Q (F0 m (pc + 3) ls (v.toList ++ rest))) : W p l e R s m args below meth c s.heap [] 0 0 Q (F0 m pc ls (As.reverse ++ .ref (G.2.1 t) :: rest)) := by
  have hE := C.2.2.2.2.2.1
  have hts := C.2.2.2.2.1
  refine m_run1 (va_runV (As := As) (C := "java/lang/String") (n := n) (Ts := mGW) ⟨C.1, C.2.1, C.2.2.1, C.2.2.2.1, hts⟩ hM
        ⟨⟨hrm.1, hrm.2.1, hrm.2.2.1, hrm.2.2.2, pay_in hts (mGood_c hcode rfl), List.mem_cons_self, hts _ (mTb_gw hcode rfl), by rw [hy]; exact C.w (by simp [tWs]), by rw [hy]; exact ⟨by decide +kernel, by decide +kernel⟩, fun sig hsig => by
          rw [hsig] at h9
          exact (Option.some.inj h9).symm, C.w hl⟩, C.w hi, C.w hs⟩
        ⟨fun a U g mk hq => ⟨hq.1, mE_calling hq.2⟩, mStr_recv hE ht va_S.rf, fun U hU hW => ⟨rfl, mE_call hE hW hU va_S.rf⟩⟩ rfl hn hsz rfl (lv_room hwt) hd ⟨Nat.zero_le _, Nat.zero_le _⟩) k
theorem t_callS (C : tCx p s m args meth c G cls cc nL ret) {y : MethodName} {bytes : ByteArray} {maxL n idx : Nat} {r2 : Option FieldType} {rm : Room} {As : List Value} {v : Option Value} (hM : Met l y (Cond.code y bytes maxL r2 :: mGW) rm (va_Pc As (fun U => mE G U U.heap)) (tQ v) 0 0 (fun _ => False))
    (hcode : Cond.code y bytes maxL r2 ∈ tables_1) (hy : y.cls ≠ "java/lang/invoke/MethodHandle" ∧ y.cls ≠ "java/lang/invoke/VarHandle") (hl : Cond.methodLink cls idx y ∈ tWs) (hi : Cond.static y ∈ tWs) (hini : Cond.initialized y.cls ∈ tWs) (hrm : rm.cells = 0 ∧ rm.slots = 0 ∧ rm.frames + 1 ≤ R.frames ∧ 8 + (maxL + 11) + rm.locals ≤ R.locals) (hn : As.length = n)
    (h9 : (parseMethodDescriptor y.desc).map (fun d => d.parameters.length) = some n) (hsz : ls.size = nL) (hwt : (rest.map fun v => v.category).sum ≤ 8) (hd : decode cc pc = .ok (.invokestatic idx, 3))
    (k : W p l e R s m args below meth c s.heap [] 0 0 Q (F0 m (pc + 3) ls (v.toList ++ rest))) : W p l e R s m args below meth c s.heap [] 0 0 Q (F0 m pc ls (As.reverse ++ rest)) := by
  have hE := C.2.2.2.2.2.1
  have hts := C.2.2.2.2.1
  refine m_run1 (va_runS (As := As) (n := n) (Ts := mGW) ⟨C.1, C.2.1, C.2.2.1, C.2.2.2.1, hts⟩ hM
        ⟨⟨hrm.1, hrm.2.1, hrm.2.2.1, hrm.2.2.2, pay_in hts (mGood_c hcode rfl), List.mem_cons_self, hts _ (mTb_gw hcode rfl), C.w hini, hy, fun sig hsig => by
          rw [hsig] at h9
          exact (Option.some.inj h9).symm, C.w hl⟩, C.w hi⟩
        ⟨fun a U g mk hq => ⟨hq.1, mE_calling hq.2⟩, fun U hU hW => ⟨rfl, mE_call hE hW hU va_S.rf⟩⟩ rfl hn hsz rfl (lv_room hwt) hd ⟨Nat.zero_le _, Nat.zero_le _⟩) k
end TXW
theorem t_cod (l : Launch) (G : mG) {t : Nat} (ht : t < 15) : Met l tyCod (Cond.code tyCod prog_9_method_152_code 1 (some .byte) :: mGW) ({ frames := 0, cells := 0, slots := 0, locals := 0 }) (va_Pc [.ref (G.2.1 t)] (fun U => mE G U U.heap)) (tQ (some (.int 0))) 0 0 (fun _ => False) := by
  refine t_met (by decide +kernel) (by simp [Value.category]) (by simp) ?_
  intro p e s m below meth c ls C hsz hls
  replace C : tCx p s m _ meth c G "java/lang/String" _ _ _ := C
  have h0 := hls 0 _ rfl
  refine t_comp C (by decide +kernel) ?_
  refine lv_if_eq (tgt := 13) C.1 C.2.1 (off := 10) (by decide +kernel) rfl (fun h => by cases h) (fun _ => ?_)
  refine lv_aload_n C.1 C.2.1 (k := 0) (by decide +kernel) rfl h0 ?_
  refine t_getf C ht (idx := 15) (by simp [tWs]) (C.2.2.2.2.2.1.2.2.2.1 t ht).2.1 (by decide +kernel) ?_
  refine lv_goto (tgt := 14) C.1 C.2.1 (off := 4) (by decide +kernel) rfl ?_
  exact t_ret C rfl rfl (by decide +kernel)
theorem t_lat (l : Launch) (G : mG) {t : Nat} (ht : t < 15) : Met l tyLat (Cond.code tyLat prog_9_method_154_code 1 (some .boolean) :: mGW) ({ frames := 0, cells := 0, slots := 0, locals := 0 }) (va_Pc [.ref (G.2.1 t)] (fun U => mE G U U.heap)) (tQ (some (.int 1))) 0 0 (fun _ => False) := by
  refine t_met (by decide +kernel) (by simp [Value.category]) (by simp) ?_
  intro p e s m below meth c ls C hsz hls
  replace C : tCx p s m _ meth c G "java/lang/String" _ _ _ := C
  have h0 := hls 0 _ rfl
  refine t_comp C (by decide +kernel) ?_
  refine lv_if_eq (tgt := 17) C.1 C.2.1 (off := 14) (by decide +kernel) rfl (fun h => by cases h) (fun _ => ?_)
  refine lv_aload_n C.1 C.2.1 (k := 0) (by decide +kernel) rfl h0 ?_
  refine t_getf C ht (idx := 15) (by simp [tWs]) (C.2.2.2.2.2.1.2.2.2.1 t ht).2.1 (by decide +kernel) ?_
  refine lv_if_ne (tgt := 17) C.1 C.2.1 (off := 7) (by decide +kernel) rfl (fun h => absurd rfl h) (fun _ => ?_)
  refine lv_iconst C.1 C.2.1 (n := 1) (v := 1) (by decide +kernel) rfl ?_
  refine lv_goto (tgt := 18) C.1 C.2.1 (off := 4) (by decide +kernel) rfl ?_
  exact t_ret C rfl rfl (by decide +kernel)
