/-! ===== calls ===== -/
theorem mWt_map (G : mG) (r : List Value) : ((r.map (mV G)).map fun v => v.category).sum = mWt r := by
  unfold mWt
  rw [List.map_map]
  congr 1
  exact List.map_congr_left fun v _ => mV_cat G v
def mStrLenB : ByteArray := prog_9_method_54_code
def mStrChrB : ByteArray := prog_9_method_56_code
/-- the texts' own members: what they answer; they change nothing -/
noncomputable def mSO (l : Launch) (G : mG) : Prop :=
  (∀ t, t < 15 → Met l mStrLen (Cond.code mStrLen prog_9_method_54_code 1 (some .int) :: mGW) ({ frames := 1, cells := 0, slots := 0, locals := 20 }) (va_Pc [.ref (G.2.1 t)] (fun U => mE G U U.heap)) (fun _ st oc u => oc = .returned (some (.int (nI (mTx.getD t []).length))) ∧ u.heap = st.heap) 0 0 (fun _ => False)) ∧
  (∀ t, t < 15 → ∀ k : Int32, vp_in k (mTx.getD t []).length → Met l mStrChr (Cond.code mStrChr prog_9_method_56_code 2 (some .char) :: mGW) ({ frames := 4, cells := 0, slots := 0, locals := 100 }) (va_Pc [.ref (G.2.1 t), .int k] (fun U => mE G U U.heap)) (fun _ st oc u => oc = .returned (some (.int (nI ((mTx.getD t []).getD k.toNatClampNeg 0)))) ∧ u.heap = st.heap) 0 0 (fun _ => False))
def mPc (G : mG) (as : List Value) (D : mHp) : Array Value → State → Prop := va_Pc (as.map (mV G)) (fun U => U.heap.size = G.1 + D.length ∧ mMS G D U.heap ∧ mE G U U.heap)
def mQc (G : mG) (r : Option Value) (D' : mHp) : Array Value → State → Outcome → State → Prop := fun _ st oc t => oc = .returned (r.map (mV G)) ∧ mMS G D' t.heap ∧ va_F (mA G) st t
noncomputable def mMt (l : Launch) (G : mG) (row : mRow) (as : List Value) (D : mHp) (r : Option Value) (D' : mHp) : Prop :=
  Met l row.2.1 (Cond.code row.2.1 row.2.2.1 row.2.2.2.1 row.2.2.2.2.1 :: mGW) ({ frames := row.2.2.2.2.2.1, cells := D'.length - D.length, slots := mSl D' - mSl D, locals := row.2.2.2.2.2.2 }) (mPc G as D) (mQc G r D') (D'.length - D.length) (mSl D' - mSl D) (mA G)
theorem mStrLen_m : mMet mIdLen = some (8, mStrLen, prog_9_method_54_code, 1, some .int, 0, 0) := rfl
theorem mStrChr_m : mMet mIdChr = some (8, mStrChr, prog_9_method_56_code, 2, some .char, 0, 0) := rfl
theorem mStrLen_c : Cond.code mStrLen prog_9_method_54_code 1 (some .int) ∈ tables_1 := mM_code mStrLen_m (by decide)
theorem mStrChr_c : Cond.code mStrChr prog_9_method_56_code 2 (some .char) ∈ tables_1 := mM_code mStrChr_m (by decide)
theorem mStr_w : Cond.instanceMethod mStrLen ∈ mGW ∧ Cond.selects "java/lang/String" mStrLen mStrLen ∈ mGW ∧ Cond.instanceMethod mStrChr ∈ mGW ∧ Cond.selects "java/lang/String" mStrChr mStrChr ∈ mGW ∧ Cond.initialized "java/lang/String" ∈ mGW :=
  ⟨mTb_gw (by decide +kernel) rfl, mTb_gw (by decide +kernel) rfl, mTb_gw (by decide +kernel) rfl, mTb_gw (by decide +kernel) rfl, mTb_gw (by decide +kernel) rfl⟩
theorem mGood_c {w : Cond} (h : w ∈ tables_1) (hg : goodWord w = true) : GoodIn mGW (w :: mGW) := fun v hv => by
  rcases List.mem_cons.mp hv with rfl | hv
  · exact ⟨mTb_gw h hg, good_of_word hg⟩
  · exact mGW_good v hv
section MCL
variable {p : Program} {l : Launch} {e : Env} {R : Room} {s : State} {m : MethodId} {args : Array Value} {below : List Frame} {meth : Method} {c : Code} {Q : State → Prop} {G : mG} {row : mRow} {d0 s0 : Nat} {pc : Nat} {L : mLoc} {st : List Value} {D : mHp} {q : Nat × mLoc × List Value × mHp} {j a b : Nat} {z : Int} {idx : Nat} {H : Heap} {locs : List Loc} {cells slots : Nat} {ls : Array Slot}
theorem c_obj (C : mCx p R s m args meth c G row d0) (hr : mRm row 20 a = true) (hL0 : mLT[j]? = some (row.1, idx, 20, a, b, z)) (hd : decode row.2.2.1 pc = .ok (.invokespecial idx, 3))
    (h : (match st with
    | .ref _ :: r => cond (Nat.ble (mWt r) 8) (mNx (pc + 3) L r D) none
    | _ => none) = some (.inl q)) (k : mK p l e R s m args below meth c Q G row.2.2.2.1 d0 s0 q.1 q.2.1 q.2.2.1 q.2.2.2) : mK p l e R s m args below meth c Q G row.2.2.2.1 d0 s0 pc L st D := by
  intro ls H locs cells slots hL hP hS hc hs
  obtain ⟨hx, hb, hml, hown, hts, hE, -, hz, hfr, hlo⟩ := C
  obtain ⟨hw, hck⟩ := mLT_at hL0
  simp only [mRm, Bool.and_eq_true] at hr
  have r1 := Nat.le_of_ble_eq_true hr.1
  have r2 := Nat.le_of_ble_eq_true hr.2
  split at h
  · rename_i i r
    obtain ⟨h1, h2⟩ := mCond_eq h
    obtain rfl := mNx_eq h2
    have h1 := Nat.le_of_ble_eq_true h1
    have hwt := mWt_map G r
    refine W.objInit (a := mAd G i) (rest := r.map (mV G)) hx hb hown (hts _ (mTb_gw hw hck)) (hts _ mOI_i) (hts _ mOI_c) rfl (hL.2.1.trans hml.symm) rfl hd (by omega) (by show 2 * 0 + _ + 12 ≤ _; omega) ?_
    exact k ls H locs cells slots hL hP hS hc hs
  · cases h
theorem c_cpy (C : mCx p R s m args meth c G row d0) (hlim : D.length ≤ 1000000) (hr : mRm row 21 a = true) (hL0 : mLT[j]? = some (row.1, idx, 21, a, b, z)) (hd : decode row.2.2.1 pc = .ok (.invokestatic idx, 3))
    (h : (match st with
    | .int n :: .int dp :: .ref i1 :: .int sp :: .ref i0 :: r => match D[i0]?, D[i1]? with
      | some (.inl (t0, n0, .inl f)), some (.inl (t1, n1, .inl g)) => cond (Nat.beq t0 0 && Nat.beq t1 0 && !decide (sp < 0) && !decide (dp < 0) && !decide (n < 0) && Nat.ble (sp.toNatClampNeg + n.toNatClampNeg) n0 && Nat.ble (dp.toNatClampNeg + n.toNatClampNeg) n1 && Nat.ble (mWt r) 8)
          (mNx (pc + 3) L r (D.set i1 (.inl (t1, n1, .inl (va_cpy f g sp.toNatClampNeg dp.toNatClampNeg n.toNatClampNeg))))) none
      | _, _ => none
    | _ => none) = some (.inl q)) (k : mK p l e R s m args below meth c Q G row.2.2.2.1 d0 s0 q.1 q.2.1 q.2.2.1 q.2.2.2) : mK p l e R s m args below meth c Q G row.2.2.2.1 d0 s0 pc L st D := by
  intro ls H locs cells slots hL hP hS hc hs
  obtain ⟨hx, hb, hml, hown, hts, hE, -, hz, hfr, hlo⟩ := C
  obtain ⟨hw, hck⟩ := mLT_at hL0
  simp only [mRm, Bool.and_eq_true] at hr
  have r1 := Nat.le_of_ble_eq_true hr.1
  have r2 := Nat.le_of_ble_eq_true hr.2
  split at h
  · rename_i n dp i1 sp i0 r
    split at h
    · rename_i t0 n0 f t1 n1 g hD0 hD1
      obtain ⟨h1, h2⟩ := mCond_eq h
      obtain rfl := mNx_eq h2
      simp only [Bool.and_eq_true, Bool.not_eq_true', decide_eq_false_iff_not] at h1
      obtain ⟨⟨⟨⟨⟨⟨⟨e0, e1⟩, g1⟩, g2⟩, g3⟩, g4⟩, g5⟩, g6⟩ := h1
      have e0 := Nat.eq_of_beq_eq_true e0
      have e1 := Nat.eq_of_beq_eq_true e1
      subst e0
      subst e1
      have hwt := mWt_map G r
      have g6 := Nat.le_of_ble_eq_true g6
      have hnf := mNW_w
      show W p l e R s m args below meth c H locs cells slots Q (F0 m pc ls (.int n :: .int dp :: .ref (mAd G i1) :: .int sp :: .ref (mAd G i0) :: r.map (mV G)))
      rw [mAd_lt (Nat.lt_of_lt_of_le (mLt_of hD0) hlim), mAd_lt (Nat.lt_of_lt_of_le (mLt_of hD1) hlim)]
      exact va_copyi (tys := mTys G) (ty := .int) hx hb (hml.trans hL.2.1.symm) hown (hts _ (mTb_gw hw hck)) (hts _ mCP_n) (hts _ mCP_s) (hts _ mCP_i) hE.1 hP (mW_D G D) hS i0 i1 0 0 (mW_at hD0) (mW_at hD1) rfl rfl rfl g1 g2 g3 (Nat.le_of_ble_eq_true g4) (Nat.le_of_ble_eq_true g5) (fun _ _ => rfl) (by omega) (by omega) hd
        (fun H1 locs1 hP1 _ hS1 => mSet_W (c1 := .inl (0, n1, .inl (va_cpy f g sp.toNatClampNeg dp.toNatClampNeg n.toNatClampNeg))) hD1 rfl hL hc hs k hP1 hS1)
    · cases h
  · cases h
theorem c_max (C : mCx p R s m args meth c G row d0) (hrc : D.length ≤ R.cells + d0) (hrs : mSl D ≤ R.slots + s0) (hr : mRm row 24 a = true) (hL0 : mLT[j]? = some (row.1, idx, 24, a, b, z)) (hd : decode row.2.2.1 pc = .ok (.invokestatic idx, 3))
    (h : (match st with
    | .int y :: .int x :: r => cond (Nat.ble (mWt r) 8) (mNx (pc + 3) L (.int (if x < y then y else x) :: r) D) none
    | _ => none) = some (.inl q)) (k : mK p l e R s m args below meth c Q G row.2.2.2.1 d0 s0 q.1 q.2.1 q.2.2.1 q.2.2.2) : mK p l e R s m args below meth c Q G row.2.2.2.1 d0 s0 pc L st D := by
  intro ls H locs cells slots hL hP hS hc hs
  obtain ⟨hx, hb, hml, hown, hts, hE, -, hz, hfr, hlo⟩ := C
  obtain ⟨hw, hck⟩ := mLT_at hL0
  simp only [mRm, Bool.and_eq_true] at hr
  have r1 := Nat.le_of_ble_eq_true hr.1
  have r2 := Nat.le_of_ble_eq_true hr.2
  split at h
  · rename_i y x r
    obtain ⟨h1, h2⟩ := mCond_eq h
    obtain rfl := mNx_eq h2
    have h1 := Nat.le_of_ble_eq_true h1
    have hwt := mWt_map G r
    exact va_mmax hx hb (hml.trans hL.2.1.symm) hown (hts _ (mTb_gw hw hck)) (hts _ mMX_s) (hts _ mMM_i) (hts _ mMX_c) (by omega) (by omega) (by omega) (by omega) hd (k ls H locs cells slots hL hP hS hc hs)
  · cases h
theorem c_min (C : mCx p R s m args meth c G row d0) (hrc : D.length ≤ R.cells + d0) (hrs : mSl D ≤ R.slots + s0) (hr : mRm row 25 a = true) (hL0 : mLT[j]? = some (row.1, idx, 25, a, b, z)) (hd : decode row.2.2.1 pc = .ok (.invokestatic idx, 3))
    (h : (match st with
    | .int y :: .int x :: r => cond (Nat.ble (mWt r) 8) (mNx (pc + 3) L (.int (if y < x then y else x) :: r) D) none
    | _ => none) = some (.inl q)) (k : mK p l e R s m args below meth c Q G row.2.2.2.1 d0 s0 q.1 q.2.1 q.2.2.1 q.2.2.2) : mK p l e R s m args below meth c Q G row.2.2.2.1 d0 s0 pc L st D := by
  intro ls H locs cells slots hL hP hS hc hs
  obtain ⟨hx, hb, hml, hown, hts, hE, -, hz, hfr, hlo⟩ := C
  obtain ⟨hw, hck⟩ := mLT_at hL0
  simp only [mRm, Bool.and_eq_true] at hr
  have r1 := Nat.le_of_ble_eq_true hr.1
  have r2 := Nat.le_of_ble_eq_true hr.2
  split at h
  · rename_i y x r
    obtain ⟨h1, h2⟩ := mCond_eq h
    obtain rfl := mNx_eq h2
    have h1 := Nat.le_of_ble_eq_true h1
    have hwt := mWt_map G r
    exact va_mmin hx hb (hml.trans hL.2.1.symm) hown (hts _ (mTb_gw hw hck)) (hts _ mMN_s) (hts _ mMM_i) (hts _ mMN_c) (by omega) (by omega) (by omega) (by omega) hd (k ls H locs cells slots hL hP hS hc hs)
  · cases h
theorem m_run0 {v : Value} {st0 rest : List Value} (run : va_Run p l e R s m args below meth c H locs cells slots 0 0 (F0 m pc ls st0) rest (fun st oc t => oc = .returned (some v) ∧ t.heap = st.heap) (fun _ => False)) (k : W p l e R s m args below meth c H locs cells slots Q (F0 m (pc + 3) ls (v :: rest))) : W p l e R s m args below meth c H locs cells slots Q (F0 m pc ls st0) := by
  intro T hT X
  obtain ⟨v', st₀, t, T', L', h0, X', hL', e1, e2, ⟨hv, hh⟩, st⟩ := run T hT X
  cases hv
  have hLn : L' = [] := List.eq_nil_iff_forall_not_mem.mpr fun q hq => hL' q hq
  subst hLn
  rw [List.append_nil] at X'
  obtain ⟨t2, a1, b1⟩ := k T' (by rw [e1, hh, h0]) X'
  exact ⟨t2, st t2 a1, b1⟩
theorem mChr_eq {i : Nat} {tx : List Nat} (h : mChr i = some tx) : ∃ t, t < 15 ∧ i = 1000000 + t ∧ tx = mTx.getD t [] := by
  unfold mChr at h
  obtain ⟨h1, h2⟩ := mCond_eq h
  have h1 := Nat.le_of_ble_eq_true h1
  have hl : mTx.length = 15 := by decide +kernel
  have := (List.getElem?_eq_some_iff.mp h2).1
  refine ⟨i - 1000000, by omega, by omega, ?_⟩
  rw [List.getD_eq_getElem?_getD, h2]
  rfl
theorem mStr_recv {t : Nat} (hE : mE G s s.heap) (ht : t < 15) (hS : va_S (mA G) s.heap H locs) : ∃ cell : Cell, H[G.2.1 t]? = some cell ∧ cell.vm.isStatics = false ∧ s.vm.findClass "java/lang/String" = some cell.cls := by
  obtain ⟨cell, h1, h2, h3, -⟩ := (hE.2.2.2.1 t ht).1.kept hS.2.1
  exact ⟨cell, h1, h2, h3⟩
theorem c_len (HS : mSO l G) (C : mCx p R s m args meth c G row d0) (hrc : D.length ≤ R.cells + d0) (hrs : mSl D ≤ R.slots + s0) (hr : mRm row 22 a = true) (hL0 : mLT[j]? = some (row.1, idx, 22, a, b, z)) (hd : decode row.2.2.1 pc = .ok (.invokevirtual idx, 3))
    (h : (match st with
    | .ref i :: r => match mChr i with
      | some tx => cond (Nat.ble (mWt r) 8) (mNx (pc + 3) L (.int (nI tx.length) :: r) D) none
      | none => none
    | _ => none) = some (.inl q)) (k : mK p l e R s m args below meth c Q G row.2.2.2.1 d0 s0 q.1 q.2.1 q.2.2.1 q.2.2.2) : mK p l e R s m args below meth c Q G row.2.2.2.1 d0 s0 pc L st D := by
  intro ls H locs cells slots hL hP hS hc hs
  obtain ⟨hx, hb, hml, hown, hts, hE, -, hz, hfr, hlo⟩ := C
  obtain ⟨hw, hck⟩ := mLT_at hL0
  simp only [mRm, Bool.and_eq_true] at hr
  have r1 := Nat.le_of_ble_eq_true hr.1
  have r2 := Nat.le_of_ble_eq_true hr.2
  split at h
  · rename_i i r
    split at h
    · rename_i tx htx
      obtain ⟨h1, h2⟩ := mCond_eq h
      obtain rfl := mNx_eq h2
      obtain ⟨t, ht, rfl, rfl⟩ := mChr_eq htx
      have h1 := Nat.le_of_ble_eq_true h1
      have hwt := mWt_map G r
      have k1 := k ls H locs cells slots hL hP hS hc hs
      simp only [List.map_cons, mV_ref, mAd_tx]
      refine m_run0 (v := .int (nI (mTx.getD t []).length)) (rest := r.map (mV G)) (va_runV (As := []) (C := "java/lang/String") (n := 0) (Ts := mGW) ⟨hx, hb, hml, hown, hts⟩ (HS.1 t ht)
        ⟨⟨rfl, rfl, by show 1 + 1 ≤ _; omega, by show 8 + (1 + 11) + 20 ≤ _; omega, pay_in hts (mGood_c mStrLen_c rfl), List.mem_cons_self, hts _ (mTb_gw mStrLen_c rfl), hts _ mStr_w.2.2.2.2, ⟨by decide +kernel, by decide +kernel⟩, fun sig hsig => by
          have h9 : (parseMethodDescriptor mStrLen.desc).map (fun d => d.parameters.length) = some 0 := by decide +kernel
          rw [hsig] at h9
          exact (Option.some.inj h9).symm, hts _ (mTb_gw hw hck)⟩, hts _ mStr_w.1, hts _ mStr_w.2.1⟩
        ⟨fun a U g mk hq => ⟨hq.1, mE_calling hq.2⟩, mStr_recv hE ht hS, fun U hU hW => ⟨rfl, mE_call hE hW hU hS⟩⟩ rfl rfl hL.2.1 rfl (lv_room (by rw [hwt]; exact h1)) hd ⟨by omega, by omega⟩) k1
    · cases h
  · cases h
theorem c_chr (HS : mSO l G) (C : mCx p R s m args meth c G row d0) (hrc : D.length ≤ R.cells + d0) (hrs : mSl D ≤ R.slots + s0) (hr : mRm row 23 a = true) (hL0 : mLT[j]? = some (row.1, idx, 23, a, b, z)) (hd : decode row.2.2.1 pc = .ok (.invokevirtual idx, 3))
    (h : (match st with
    | .int k :: .ref i :: r => match mChr i with
      | some tx => cond (Nat.ble (mWt r) 8 && !mOut k tx.length) (mNx (pc + 3) L (.int (nI (tx.getD k.toNatClampNeg 0)) :: r) D) none
      | none => none
    | _ => none) = some (.inl q)) (k : mK p l e R s m args below meth c Q G row.2.2.2.1 d0 s0 q.1 q.2.1 q.2.2.1 q.2.2.2) : mK p l e R s m args below meth c Q G row.2.2.2.1 d0 s0 pc L st D := by
  intro ls H locs cells slots hL hP hS hc hs
  obtain ⟨hx, hb, hml, hown, hts, hE, -, hz, hfr, hlo⟩ := C
  obtain ⟨hw, hck⟩ := mLT_at hL0
  simp only [mRm, Bool.and_eq_true] at hr
  have r1 := Nat.le_of_ble_eq_true hr.1
  have r2 := Nat.le_of_ble_eq_true hr.2
  split at h
  · rename_i kk i r
    split at h
    · rename_i tx htx
      obtain ⟨h1, h2⟩ := mCond_eq h
      obtain rfl := mNx_eq h2
      obtain ⟨t, ht, rfl, rfl⟩ := mChr_eq htx
      rw [Bool.and_eq_true] at h1
      have h3 := Nat.le_of_ble_eq_true h1.1
      have hin := mOut_in h1.2
      have hwt := mWt_map G r
      have k1 := k ls H locs cells slots hL hP hS hc hs
      simp only [List.map_cons, mV_ref, mAd_tx]
      refine m_run0 (v := .int (nI ((mTx.getD t []).getD kk.toNatClampNeg 0))) (rest := r.map (mV G)) (va_runV (As := [.int kk]) (C := "java/lang/String") (n := 1) (Ts := mGW) ⟨hx, hb, hml, hown, hts⟩ (HS.2 t ht kk hin)
        ⟨⟨rfl, rfl, by show 4 + 1 ≤ _; omega, by show 8 + (2 + 11) + 100 ≤ _; omega, pay_in hts (mGood_c mStrChr_c rfl), List.mem_cons_self, hts _ (mTb_gw mStrChr_c rfl), hts _ mStr_w.2.2.2.2, ⟨by decide +kernel, by decide +kernel⟩, fun sig hsig => by
          have h9 : (parseMethodDescriptor mStrChr.desc).map (fun d => d.parameters.length) = some 1 := by decide +kernel
          rw [hsig] at h9
          exact (Option.some.inj h9).symm, hts _ (mTb_gw hw hck)⟩, hts _ mStr_w.2.2.1, hts _ mStr_w.2.2.2.1⟩
        ⟨fun a U g mk hq => ⟨hq.1, mE_calling hq.2⟩, mStr_recv hE ht hS, fun U hU hW => ⟨rfl, mE_call hE hW hU hS⟩⟩ rfl rfl hL.2.1 rfl (lv_room (by rw [hwt]; exact h3)) hd ⟨by omega, by omega⟩) k1
    · cases h
  · cases h
end MCL
