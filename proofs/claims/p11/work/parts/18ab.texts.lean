theorem t_pre (l : Launch) (G : mG) {k : Int32} {N : Nat} (hk : vp_in k N) (hN : N ≤ 1000) (x : Value) (hx : x.category = 1) : Met l tyPre (Cond.code tyPre prog_13_method_11_code 3 (some .int) :: mGW) ({ frames := 0, cells := 0, slots := 0, locals := 0 }) (va_Pc [.int k, .int (Int32.ofNat N), x] (fun U => mE G U U.heap)) (tQ (some (.int k))) 0 0 (fun _ => False) := by
  refine t_met (by decide +kernel) (by simpa [Value.category] using hx) (by simp) ?_
  intro p e s m below meth c ls C hsz hls
  replace C : tCx p s m _ meth c G "jdk/internal/util/Preconditions" _ _ _ := C
  have h0 := hls 0 _ rfl
  have h1 := hls 1 _ rfl
  have g0 : ¬ k < 0 := fun h => hk (Or.inl h)
  have g1 : k.toNatClampNeg < N := Nat.not_le.mp fun h => hk (Or.inr h)
  refine lv_iload_n C.1 C.2.1 (k := 0) (by decide +kernel) rfl h0 ?_
  refine lv_if_lt (tgt := 9) C.1 C.2.1 (off := 8) (by decide +kernel) rfl (fun h => absurd h g0) (fun _ => ?_)
  refine lv_iload_n C.1 C.2.1 (k := 0) (by decide +kernel) rfl h0 ?_
  refine lv_iload_n C.1 C.2.1 (k := 1) (by decide +kernel) rfl h1 ?_
  refine lv_icmp_lt (tgt := 16) C.1 C.2.1 (off := 10) (by decide +kernel) rfl (fun _ => ?_) (fun h => absurd ?_ h)
  · refine lv_iload_n C.1 C.2.1 (k := 0) (by decide +kernel) rfl h0 ?_
    exact t_ret C rfl rfl (by decide +kernel)
  · have e1 : (Int32.ofNat N).toInt = (N : Int) := Int32.toInt_ofNat_of_lt (by omega)
    rw [Int32.lt_iff_toInt_lt, e1]
    have e2 : k.toInt = (k.toNatClampNeg : Int) := by
      have h3 : (0 : Int) ≤ k.toInt := by
        have := Int32.not_lt.mp g0
        simpa using Int32.le_iff_toInt_le.mp this
      show k.toInt = ((k.toInt.toNat : Nat) : Int)
      omega
    omega
theorem t_chk (l : Launch) (G : mG) {k : Int32} {N : Nat} (hk : vp_in k N) (hN : N ≤ 1000) : Met l tyChk (Cond.code tyChk prog_9_method_155_code 2 none :: mGW) ({ frames := 1, cells := 0, slots := 0, locals := 22 }) (va_Pc [.int k, .int (Int32.ofNat N)] (fun U => mE G U U.heap)) (tQ none) 0 0 (fun _ => False) := by
  refine t_met (by decide +kernel) (by simp [Value.category]) (by simp) ?_
  intro p e s m below meth c ls C hsz hls
  replace C : tCx p s m _ meth c G "java/lang/String" _ _ _ := C
  have h0 := hls 0 _ rfl
  have h1 := hls 1 _ rfl
  have key : ∀ x : Value, x.category = 1 → va_Z "jdk/internal/util/Preconditions" "SIOOBE_FORMATTER" "Ljava/util/function/BiFunction;" x (mA G) s s.heap → W p l e ({ frames := 1, cells := 0, slots := 0, locals := 22 }) s m #[.int k, .int (Int32.ofNat N)] below meth c s.heap [] 0 0 (MQ below (tQ none) #[.int k, .int (Int32.ofNat N)] s 0 0 (fun _ => False)) (F0 m 2 ls [.int (Int32.ofNat N), .int k]) := by
    intro x hx hz
    refine va_gets C.1 C.2.1 hz va_S.rf C.2.2.2.1 (C.w (w := Cond.fieldLink "java/lang/String" 1053 "jdk/internal/util/Preconditions" "SIOOBE_FORMATTER" "Ljava/util/function/BiFunction;") (by simp [tWs])) (fun _ h => h) (by decide +kernel) ?_
    refine t_callS (As := [.int k, .int (Int32.ofNat N), x]) (rest := []) C (t_pre l G hk hN x hx) t_codes.2.2.2.2 ⟨by decide +kernel, by decide +kernel⟩ (idx := 1059) (by simp [tWs]) (by simp [tWs]) (by simp [tWs, tyPre]) ⟨rfl, rfl, by decide, by decide⟩ rfl (n := 3) (by decide +kernel) hsz (by decide) (by decide +kernel) ?_
    refine lv_pop C.1 C.2.1 (by decide +kernel) rfl ?_
    exact W.vret C.1 C.2.1 C.2.2.2.2.2.2.1 (fun t ht _ => ⟨rfl, ht⟩) (fun _ h => by cases h) (by decide +kernel) C.2.2.2.2.2.2.2
  refine lv_iload_n C.1 C.2.1 (k := 0) (by decide +kernel) rfl h0 ?_
  refine lv_iload_n C.1 C.2.1 (k := 1) (by decide +kernel) rfl h1 ?_
  rcases C.2.2.2.2.2.1.2.2.2.2.2.2.2.2.2 with hz | ⟨q, hz⟩
  · exact key _ rfl hz
  · exact key _ rfl hz
theorem t_lch (l : Launch) (G : mG) {t : Nat} (ht : t < 15) {k : Int32} (hk : vp_in k (mTx.getD t []).length) (hN : (mTx.getD t []).length ≤ 1000) : Met l tyLch (Cond.code tyLch prog_10_method_2_code 2 (some .char) :: mGW) ({ frames := 2, cells := 0, slots := 0, locals := 43 }) (va_Pc [.ref (G.2.1 (300 + t)), .int k] (fun U => mE G U U.heap)) (tQ (some (.int (nI ((mTx.getD t []).getD k.toNatClampNeg 0))))) 0 0 (fun _ => False) := by
  refine t_met (by decide +kernel) (by simp [Value.category]) (by simp) ?_
  intro p e s m below meth c ls C hsz hls
  replace C : tCx p s m _ meth c G "java/lang/StringLatin1" _ _ _ := C
  have h0 := hls 0 _ rfl
  have h1 := hls 1 _ rfl
  have hT := (C.2.2.2.2.2.1.2.2.2.1 t ht).2.2.2
  obtain ⟨n1, n2, n3⟩ := tNi (tTx_at (t := t) k.toNatClampNeg)
  refine lv_iload_n C.1 C.2.1 (k := 1) (by decide +kernel) rfl h1 ?_
  refine lv_aload_n C.1 C.2.1 (k := 0) (by decide +kernel) rfl h0 ?_
  refine va_tlen C.1 C.2.1 hT va_S.rf rfl (by decide +kernel) ?_
  refine t_callS (As := [.int k, .int (Int32.ofNat (mTx.getD t []).length)]) (rest := []) C (t_chk l G hk hN) t_codes.2.2.1 ⟨by decide +kernel, by decide +kernel⟩ (idx := 9) (by simp [tWs]) (by simp [tWs]) (by simp [tWs, tyChk]) ⟨rfl, rfl, by decide, by decide⟩ rfl (n := 2) (by decide +kernel) hsz (by decide) (by decide +kernel) ?_
  refine lv_aload_n C.1 C.2.1 (k := 0) (by decide +kernel) rfl h0 ?_
  refine lv_iload_n C.1 C.2.1 (k := 1) (by decide +kernel) rfl h1 ?_
  refine va_tb C.1 C.2.1 hT va_S.rf hk rfl (by decide +kernel) ?_
  refine lv_sipush C.1 C.2.1 (n := 255) (by decide +kernel) rfl ?_
  refine lv_iand C.1 C.2.1 (by decide +kernel) ?_
  rw [n1]
  refine lv_i2c C.1 C.2.1 (by decide +kernel) n2 ?_
  exact t_ret C rfl n3 (by decide +kernel)
theorem mTx_short : mTx.all (fun x => Nat.ble x.length 1000) = true := by decide +kernel
theorem mTx_le (t : Nat) : (mTx.getD t []).length ≤ 1000 := by
  rw [List.getD_eq_getElem?_getD]
  cases h1 : mTx[t]? with
  | none => simp
  | some x => exact Nat.le_of_ble_eq_true (List.all_eq_true.mp mTx_short x (List.mem_of_getElem? h1))
theorem tSh_ck : (List.range 15).all (fun t => decide ((Int32.ofNat (mTx.getD t []).length) >>> ((0 : Int32) &&& 31) = nI (mTx.getD t []).length)) = true := by decide +kernel
theorem tSh {t : Nat} (ht : t < 15) : (Int32.ofNat (mTx.getD t []).length) >>> ((0 : Int32) &&& 31) = nI (mTx.getD t []).length := of_decide_eq_true (List.all_eq_true.mp tSh_ck t (List.mem_range.mpr ht))
theorem m_so (l : Launch) (G : mG) : mSO l G := by
  refine ⟨fun t ht => ?_, fun t ht k hk => ?_⟩
  · refine t_met (by decide +kernel) (by simp [Value.category]) (by simp) ?_
    intro p e s m below meth c ls C hsz hls
    replace C : tCx p s m _ meth c G "java/lang/String" _ _ _ := C
    have h0 := hls 0 _ rfl
    obtain ⟨-, -, hV, hT⟩ := C.2.2.2.2.2.1.2.2.2.1 t ht
    refine lv_aload_n C.1 C.2.1 (k := 0) (by decide +kernel) rfl h0 ?_
    refine t_getf C ht (idx := 9) (by simp [tWs]) hV (by decide +kernel) ?_
    refine va_tlen C.1 C.2.1 hT va_S.rf rfl (by decide +kernel) ?_
    refine lv_aload_n C.1 C.2.1 (k := 0) (by decide +kernel) rfl h0 ?_
    refine t_callV (As := []) C ht (t_cod l G ht) t_codes.1 rfl (idx := 335) (by simp [tWs]) (by simp [tWs]) (by simp [tWs]) ⟨rfl, rfl, by decide, by decide⟩ rfl (n := 0) (by decide +kernel) hsz (by show _ ≤ 8; simp [Value.category]) (by decide +kernel) ?_
    refine lv_ishr C.1 C.2.1 (by decide +kernel) ?_
    have e1 : (Int32.ofNat (mTx.getD t []).length) >>> ((0 : Int32) &&& 31) = nI (mTx.getD t []).length := tSh ht
    rw [e1]
    exact t_ret C rfl rfl (by decide +kernel)
  · refine t_met (by decide +kernel) (by simp [Value.category]) (by simp) ?_
    intro p e s m below meth c ls C hsz hls
    replace C : tCx p s m _ meth c G "java/lang/String" _ _ _ := C
    have h0 := hls 0 _ rfl
    have h1 := hls 1 _ rfl
    obtain ⟨-, -, hV, hT⟩ := C.2.2.2.2.2.1.2.2.2.1 t ht
    refine lv_aload_n C.1 C.2.1 (k := 0) (by decide +kernel) rfl h0 ?_
    refine t_callV (As := []) C ht (t_lat l G ht) t_codes.2.1 rfl (idx := 492) (by simp [tWs]) (by simp [tWs]) (by simp [tWs]) ⟨rfl, rfl, by decide, by decide⟩ rfl (n := 0) (by decide +kernel) hsz (by decide) (by decide +kernel) ?_
    refine lv_if_eq (tgt := 16) C.1 C.2.1 (off := 12) (by decide +kernel) rfl (fun h => by cases h) (fun _ => ?_)
    refine lv_aload_n C.1 C.2.1 (k := 0) (by decide +kernel) rfl h0 ?_
    refine t_getf C ht (idx := 9) (by simp [tWs]) hV (by decide +kernel) ?_
    refine lv_iload_n C.1 C.2.1 (k := 1) (by decide +kernel) rfl h1 ?_
    refine t_callS (As := [.ref (G.2.1 (300 + t)), .int k]) (rest := []) C (t_lch l G ht hk (mTx_le t)) t_codes.2.2.2.1 ⟨by decide +kernel, by decide +kernel⟩ (idx := 495) (by simp [tWs]) (by simp [tWs]) (by simp [tWs, tyLch]) ⟨rfl, rfl, by decide, by decide⟩ rfl (n := 2) (by decide +kernel) hsz (by decide) (by decide +kernel) ?_
    exact t_ret C rfl (tNi (tTx_at _)).2.2 (by decide +kernel)
