/-! ===== calls of the claim's own methods, returns, and the simulation ===== -/
noncomputable def mKx (q : mLnk) : Bool := match q.2.2.1 with
  | 12 => mIS.any fun x => Nat.beq x.2.1 q.2.2.2.1 && Nat.beq x.2.2 1
  | 13 => mIS.any fun x => Nat.beq x.2.1 q.2.2.2.1 && Nat.beq x.2.2 1
  | 10 => (mIS.any fun x => Nat.beq x.2.1 q.2.2.2.1 && Nat.beq x.2.2 0) && (mSE1.any (fun x => Nat.beq x.2 q.2.2.2.1) || mSE2.any (fun x => Nat.beq x.2 q.2.2.2.1))
  | 11 => (mIS.any fun x => Nat.beq x.2.1 q.2.2.2.1 && Nat.beq x.2.2 0) && (mSE1.any (fun x => Nat.beq x.2 q.2.2.2.1) || mSE2.any (fun x => Nat.beq x.2 q.2.2.2.1))
  | 14 => mIS.any fun x => Nat.beq x.2.1 q.2.2.2.1 && Nat.beq x.2.2 0
  | 15 => mIS.any fun x => Nat.beq x.2.1 q.2.2.2.1 && Nat.beq x.2.2 0
  | _ => true
theorem mKx_ck : mLT.all mKx = true := by decide +kernel
theorem mGW_wd : (mIS.all (fun x => goodWord (.static (mY x.2.1)) && goodWord (.instanceMethod (mY x.2.1)) && goodWord (.selects (mY x.2.1).cls (mY x.2.1) (mY x.2.1)))) = true := by decide +kernel
theorem mIS_static {a : Nat} (h : (mIS.any fun x => Nat.beq x.2.1 a && Nat.beq x.2.2 1) = true) : Cond.static (mY a) ∈ mGW := by
  obtain ⟨x, hx, h1⟩ := List.any_eq_true.mp h
  rw [Bool.and_eq_true] at h1
  have hm := mWalk_spec mIS_wk _ (List.mem_map.mpr ⟨x, hx, rfl⟩)
  have hg := List.all_eq_true.mp mGW_wd x hx
  simp only [h1.2, cond_true] at hm
  rw [Nat.eq_of_beq_eq_true h1.1] at hm hg
  simp only [Bool.and_eq_true] at hg
  exact mTb_gw hm hg.1.1
theorem mIS_inst {a : Nat} (h : (mIS.any fun x => Nat.beq x.2.1 a && Nat.beq x.2.2 0) = true) : Cond.instanceMethod (mY a) ∈ mGW ∧ goodWord (.selects (mY a).cls (mY a) (mY a)) = true := by
  obtain ⟨x, hx, h1⟩ := List.any_eq_true.mp h
  rw [Bool.and_eq_true] at h1
  have hm := mWalk_spec mIS_wk _ (List.mem_map.mpr ⟨x, hx, rfl⟩)
  have hg := List.all_eq_true.mp mGW_wd x hx
  have e0 := Nat.eq_of_beq_eq_true h1.2
  simp only [e0, show Nat.beq 0 1 = false from rfl, cond_false] at hm
  rw [Nat.eq_of_beq_eq_true h1.1] at hm hg
  simp only [Bool.and_eq_true] at hg
  exact ⟨mTb_gw hm hg.1.2, hg.2⟩
theorem mSE_in {a : Nat} (hg : goodWord (.selects (mY a).cls (mY a) (mY a)) = true) (h : (mSE1.any (fun x => Nat.beq x.2 a) || mSE2.any (fun x => Nat.beq x.2 a)) = true) : Cond.selects (mY a).cls (mY a) (mY a) ∈ mGW := by
  rw [Bool.or_eq_true] at h
  rcases h with h | h
  · obtain ⟨x, hx, h1⟩ := List.any_eq_true.mp h
    have hm := mWalk_spec mSE1_wk _ (List.mem_map.mpr ⟨x, hx, rfl⟩)
    simp only [Nat.eq_of_beq_eq_true h1] at hm
    exact List.mem_filter.mpr ⟨List.mem_append_left _ hm, hg⟩
  · obtain ⟨x, hx, h1⟩ := List.any_eq_true.mp h
    have hm := mWalk_spec mSE2_wk _ (List.mem_map.mpr ⟨x, hx, rfl⟩)
    simp only [Nat.eq_of_beq_eq_true h1] at hm
    exact mTb_gw hm hg
theorem mRm_at {row : mRow} {kind a : Nat} (hk : 10 ≤ kind ∧ kind ≤ 15) (h : mRm row kind a = true) : ∃ r : mRow, mMet a = some r ∧ r.2.2.2.2.2.1 + 1 ≤ row.2.2.2.2.2.1 ∧ 8 + (r.2.2.2.1 + 11) + r.2.2.2.2.2.2 ≤ row.2.2.2.2.2.2 ∧ r.1 ≠ 5 ∧ Nat.ble r.1 6 = true := by
  have key : (match mMet a with
    | some r => Nat.ble (r.2.2.2.2.2.1 + 1) row.2.2.2.2.2.1 && Nat.ble (8 + (r.2.2.2.1 + 11) + r.2.2.2.2.2.2) row.2.2.2.2.2.2 && !Nat.beq r.1 5 && Nat.ble r.1 6
    | none => false) = true := by
    rcases (by omega : kind = 10 ∨ kind = 11 ∨ kind = 12 ∨ kind = 13 ∨ kind = 14 ∨ kind = 15) with rfl | rfl | rfl | rfl | rfl | rfl <;> exact h
  cases hm : mMet a with
  | none => rw [hm] at key; cases key
  | some r =>
    rw [hm] at key
    simp only [Bool.and_eq_true, Bool.not_eq_true'] at key
    refine ⟨r, rfl, Nat.le_of_ble_eq_true key.1.1.1, Nat.le_of_ble_eq_true key.1.1.2, fun e => ?_, key.2⟩
    rw [e] at key
    exact absurd key.1.2 (by decide)
theorem mIn_good (cls : String) : goodWord (.initialized cls) = true := rfl
theorem mCode_good (y : MethodName) (b : ByteArray) (n : Nat) (r : Option FieldType) : goodWord (.code y b n r) = true := rfl
theorem mE_cl {G : mG} {D : mHp} {H : Heap} {i a : Nat} {fs : List Value} (hP : mMS G D H) (h : D[i]? = some (.inr (a, fs))) : a < 5 := by
  obtain ⟨r, hr, -⟩ := hP i _ (mW_at h)
  have := (List.getElem?_eq_some_iff.mp hr).1
  exact this
section MSM
variable {p : Program} {l : Launch} {e : Env} {R : Room} {s : State} {m : MethodId} {args : Array Value} {below : List Frame} {meth : Method} {c : Code} {Q : State → Prop} {G : mG} {row : mRow} {d0 s0 : Nat} {pc : Nat} {L : mLoc} {st : List Value} {D D' : mHp} {j a b : Nat} {z : Int} {idx : Nat} {H : Heap} {locs : List Loc} {cells slots : Nat} {ls : Array Slot} {r : Option Value}
theorem m_runC {st0 rest : List Value} {av : Array Value} (hL : mLR G ls row.2.2.2.1 L) (hle : D.length ≤ D'.length) (hls : mSl D ≤ mSl D') (hS : va_S (mA G) s.heap H locs) (hc : cells + d0 = D.length) (hs : slots + s0 = mSl D)
    (run : va_Run p l e R s m args below meth c H locs cells slots (D'.length - D.length) (mSl D' - mSl D) (F0 m pc ls st0) (rest.map (mV G)) (mQc G r D' av) (mA G))
    (k : mK p l e R s m args below meth c Q G row.2.2.2.1 d0 s0 (pc + 3) L (r.toList ++ rest) D') : W p l e R s m args below meth c H locs cells slots Q (F0 m pc ls st0) := by
  intro T hT X
  obtain ⟨v, st₀, t, T', L', h0, X', hL', e1, e2, ⟨hv, hP', hz, hk⟩, st⟩ := run T hT X
  rw [h0] at hz hk
  have k1 := k ls T'.heap (locs ++ L') (cells + (D'.length - D.length)) (slots + (mSl D' - mSl D)) hL (by rw [e1]; exact hP') ⟨Nat.le_trans hS.1 (by rw [e1]; exact hz), fun q h1 h2 => by
      rw [e1, hk q (Nat.lt_of_lt_of_le h1 hS.1) h2]
      exact hS.2.1 q h1 h2, fun q hq => by
      rcases List.mem_append.mp hq with h | h
      · exact hS.2.2 q h
      · exact hL' q h⟩ (by omega) (by omega)
  have hv2 : v = r.map (mV G) := by
    cases hv
    rfl
  have e9 : (r.toList ++ rest).map (mV G) = v.toList ++ rest.map (mV G) := by
    rw [hv2, List.map_append]
    cases r <;> rfl
  rw [e9] at k1
  obtain ⟨t2, a1, b1⟩ := k1 T' rfl X'
  exact ⟨t2, st t2 a1, b1⟩
theorem mPc_blind (as : List Value) (D : mHp) : FrameBlind (mPc G as D) := fun _ _ _ _ h => ⟨h.1, h.2.1, h.2.2.1, mE_calling h.2.2.2⟩
theorem mRcv_eq {as : List Value} {mid : Nat} {rr : mRow} (h : mRcv D as mid = true) (hr : mMet mid = some rr) : ∃ (i : Nat) (As : List Value) (fs : List Value), as = .ref i :: As ∧ D[i]? = some (.inr (rr.1, fs)) := by
  unfold mRcv at h
  split at h
  · rename_i i As
    split at h
    · rename_i c fs r' hD hr'
      rw [hr] at hr'
      cases hr'
      rw [Nat.eq_of_beq_eq_true h] at hD
      exact ⟨i, As, fs, rfl, hD⟩
    · cases h
  · cases h
theorem mStk {b : Nat} {st : List Value} : st.map (mV G) = (((st.take b).reverse).map (mV G)).reverse ++ (st.drop b).map (mV G) := by
  rw [← List.map_reverse, List.reverse_reverse, ← List.map_append, List.take_append_drop]
theorem c_static {kind : Nat} (hk : kind = 12 ∨ kind = 13) (C : mCx p R s m args meth c G row d0) (hrc : D'.length ≤ R.cells + d0) (hrs : mSl D' ≤ R.slots + s0) (hle : D.length ≤ D'.length) (hls : mSl D ≤ mSl D')
    (hr : mRm row kind a = true) (hL0 : mLT[j]? = some (row.1, idx, kind, a, b, z)) (hd : decode row.2.2.1 pc = .ok (.invokestatic idx, 3)) (hb1 : b ≤ st.length) (hwt : mWt (st.drop b) ≤ 8)
    (hM : ∀ row' : mRow, mMet a = some row' → mMt l G row' (st.take b).reverse D r D')
    (k : mK p l e R s m args below meth c Q G row.2.2.2.1 d0 s0 (pc + 3) L (r.toList ++ st.drop b) D') : mK p l e R s m args below meth c Q G row.2.2.2.1 d0 s0 pc L st D := by
  intro ls H locs cells slots hL hP hS hc hs
  obtain ⟨hx, hb, hml, hown, hts, hE, -, hz, hfr, hlo⟩ := C
  obtain ⟨hw, hck⟩ := mLT_at hL0
  have hks := List.all_eq_true.mp mKx_ck _ (List.mem_of_getElem? hL0)
  obtain ⟨rr, hrr, r1, r2, r3, r4⟩ := mRm_at (by omega) hr
  obtain ⟨-, hcl, hne, hin, -⟩ := mM_at hrr r4 r3
  have hY := mY_of hrr
  have hcode := mM_code hrr r3
  have hMt := hM rr hrr
  refine mSized hz hP hS hc fun hH => ?_
  refine m_runC hL hle hls hS hc hs (rest := st.drop b) (av := ((st.take b).reverse.map (mV G)).toArray) ?_ k
  have hws : ∀ w ∈ (Cond.code rr.2.1 rr.2.2.1 rr.2.2.2.1 rr.2.2.2.2.1 :: mGW), ∀ (a' : Array Value) (U : State), s.WarmedH U.vm → w.before a' U = true := pay_in hts (mGood_c hcode rfl)
  have hpre : PreS s H (mPc G (st.take b).reverse D) ((st.take b).reverse.map (mV G)) := ⟨mPc_blind _ _, fun U hU hW => ⟨rfl, by rw [hU]; exact hH, by rw [hU]; exact hP, mE_call hE hW hU hS⟩⟩
  have hlen9 : ((st.take b).reverse.map (mV G)).length = b := by simp [Nat.min_eq_left hb1]
  rcases hk with rfl | rfl
  · simp only [mLck, Bool.and_eq_true, decide_eq_true_eq] at hck
    have hst := mIS_static hks
    rw [hY] at hck hst
    have hlk : (Cond.methodLink (mNm row.1) idx rr.2.1).before args s = true := by rw [← hY]; exact hts _ (mTb_gw hw hck.1)
    exact va_runS (As := (st.take b).reverse.map (mV G)) (n := b) (Ts := mGW) ⟨hx, hb, hml, hown, hts⟩ hMt
      ⟨⟨rfl, rfl, by show rr.2.2.2.2.2.1 + 1 ≤ R.frames; omega, by show 8 + (rr.2.2.2.1 + 11) + rr.2.2.2.2.2.2 ≤ R.locals; omega, hws, List.mem_cons_self, hts _ (mTb_gw hcode rfl), hts _ (mTb_gw hin rfl), hne, fun sig hsig => by
        have h9 := hck.2
        rw [hsig] at h9
        exact (Option.some.inj h9).symm, hlk⟩, hts _ hst⟩ hpre rfl hlen9 hL.2.1 (mStk) (lv_room (by rw [mWt_map]; exact hwt)) hd ⟨by omega, by omega⟩
  · simp only [mLck, Bool.and_eq_true, decide_eq_true_eq] at hck
    have hst := mIS_static hks
    rw [hY] at hck hst
    have hlk : (Cond.methodLinkNest (mNm row.1) idx rr.2.1 "EnvyRust").before args s = true := by rw [← hY]; exact va_Nw.use rfl (hE.2.1 _ (mTb_nw hw hck.1))
    exact va_runSN (As := (st.take b).reverse.map (mV G)) (n := b) (Ts := mGW) (host := "EnvyRust") ⟨hx, hb, hml, hown, hts⟩ hMt
      ⟨⟨⟨rfl, rfl, by show rr.2.2.2.2.2.1 + 1 ≤ R.frames; omega, by show 8 + (rr.2.2.2.1 + 11) + rr.2.2.2.2.2.2 ≤ R.locals; omega, hws, List.mem_cons_self⟩, hts _ (mTb_gw hcode rfl), hts _ (mTb_gw hin rfl), hne, fun sig hsig => by
        have h9 := hck.2
        rw [hsig] at h9
        exact (Option.some.inj h9).symm, hlk⟩, hts _ hst, trivial⟩ hpre rfl hlen9 hL.2.1 (mStk) (lv_room (by rw [mWt_map]; exact hwt)) hd ⟨by omega, by omega⟩
theorem c_inst {kind : Nat} (hk : kind = 10 ∨ kind = 11 ∨ kind = 14 ∨ kind = 15) (C : mCx p R s m args meth c G row d0) (hrc : D'.length ≤ R.cells + d0) (hrs : mSl D' ≤ R.slots + s0) (hle : D.length ≤ D'.length) (hls : mSl D ≤ mSl D') (hlim : D.length ≤ 1000000)
    (hr : mRm row kind a = true) (hL0 : mLT[j]? = some (row.1, idx, kind, a, b, z)) (hd : ((kind = 10 ∨ kind = 11) ∧ decode row.2.2.1 pc = .ok (.invokevirtual idx, 3)) ∨ ((kind = 14 ∨ kind = 15) ∧ decode row.2.2.1 pc = .ok (.invokespecial idx, 3) ∧ (∀ row' : mRow, mMet a = some row' → row'.2.2.2.2.1 = none))) (hb1 : b ≤ st.length) (hwt : mWt (st.drop b) ≤ 8) (hrv : mRcv D (st.take b).reverse a = true)
    (hM : ∀ row' : mRow, mMet a = some row' → mMt l G row' (st.take b).reverse D r D')
    (k : mK p l e R s m args below meth c Q G row.2.2.2.1 d0 s0 (pc + 3) L (r.toList ++ st.drop b) D') : mK p l e R s m args below meth c Q G row.2.2.2.1 d0 s0 pc L st D := by
  intro ls H locs cells slots hL hP hS hc hs
  obtain ⟨hx, hb, hml, hown, hts, hE, -, hz, hfr, hlo⟩ := C
  obtain ⟨hw, hck⟩ := mLT_at hL0
  have hks := List.all_eq_true.mp mKx_ck _ (List.mem_of_getElem? hL0)
  obtain ⟨rr, hrr, r1, r2, r3, r4⟩ := mRm_at (by omega) hr
  obtain ⟨-, hcl, hne, hin, -⟩ := mM_at hrr r4 r3
  have hY := mY_of hrr
  have hcode := mM_code hrr r3
  have hMt := hM rr hrr
  obtain ⟨i, As, fs, has, hDi⟩ := mRcv_eq hrv hrr
  refine mSized hz hP hS hc fun hH => ?_
  have hlen8 : (st.take b).reverse.length = b := by simp [Nat.min_eq_left hb1]
  have hstk : st.map (mV G) = (As.map (mV G)).reverse ++ .ref (mAd G i) :: (st.drop b).map (mV G) := by
    rw [mStk (G := G) (b := b), has]
    simp [mV_ref]
  rw [has] at hMt hlen8
  refine m_runC hL hle hls hS hc hs (rest := st.drop b) (av := (Value.ref (mAd G i) :: As.map (mV G)).toArray) ?_ k
  have hws : ∀ w ∈ (Cond.code rr.2.1 rr.2.2.1 rr.2.2.2.1 rr.2.2.2.2.1 :: mGW), ∀ (a' : Array Value) (U : State), s.WarmedH U.vm → w.before a' U = true := pay_in hts (mGood_c hcode rfl)
  have hpre : PreS s H (mPc G (.ref i :: As) D) (.ref (mAd G i) :: As.map (mV G)) := ⟨mPc_blind _ _, fun U hU hW => ⟨rfl, by rw [hU]; exact hH, by rw [hU]; exact hP, mE_call hE hW hU hS⟩⟩
  have hi6 : rr.1 < 5 := by
    have := Nat.le_of_ble_eq_true r4
    have h7 := mE_cl hP hDi
    exact h7
  have hrecv : ∃ cell : Cell, H[mAd G i]? = some cell ∧ cell.vm.isStatics = false ∧ s.vm.findClass rr.2.1.cls = some cell.cls := by
    rw [mAd_lt (Nat.lt_of_lt_of_le (mLt_of hDi) hlim), hcl]
    exact va_recv hE.1 hP (mCl_ok hi6) (mW_at hDi)
  have hlen9 : (As.map (mV G)).length + 1 = b := by rw [List.length_map]; exact hlen8
  rcases hk with rfl | rfl | rfl | rfl
  · have hd' : decode row.2.2.1 pc = .ok (.invokevirtual idx, 3) := by
      rcases hd with h | h
      · exact h.2
      · omega
    simp only [mLck, Bool.and_eq_true, decide_eq_true_eq] at hck
    simp only [mKx, Bool.and_eq_true] at hks
    obtain ⟨hi9, hg9⟩ := mIS_inst hks.1
    have hse := mSE_in hg9 hks.2
    rw [hY] at hck hi9 hse
    have hlk : (Cond.methodLink (mNm row.1) idx rr.2.1).before args s = true := by rw [← hY]; exact hts _ (mTb_gw hw hck.1)
    exact va_runV (As := As.map (mV G)) (n := (As.map (mV G)).length) (C := rr.2.1.cls) (Ts := mGW) ⟨hx, hb, hml, hown, hts⟩ hMt
      ⟨⟨rfl, rfl, by show rr.2.2.2.2.2.1 + 1 ≤ R.frames; omega, by show 8 + (rr.2.2.2.1 + 11) + rr.2.2.2.2.2.2 ≤ R.locals; omega, hws, List.mem_cons_self, hts _ (mTb_gw hcode rfl), hts _ (mTb_gw hin rfl), hne, fun sig hsig => by
        have h9 := hck.2
        rw [hsig] at h9
        have : sig.parameters.length + 1 = b := Option.some.inj h9
        omega, hlk⟩, hts _ hi9, hts _ hse⟩ ⟨hpre.1, hrecv, hpre.2⟩ rfl rfl hL.2.1 hstk (lv_room (by rw [mWt_map]; exact hwt)) hd' ⟨by omega, by omega⟩
  · have hd' : decode row.2.2.1 pc = .ok (.invokevirtual idx, 3) := by
      rcases hd with h | h
      · exact h.2
      · omega
    simp only [mLck, Bool.and_eq_true, decide_eq_true_eq] at hck
    simp only [mKx, Bool.and_eq_true] at hks
    obtain ⟨hi9, hg9⟩ := mIS_inst hks.1
    have hse := mSE_in hg9 hks.2
    rw [hY] at hck hi9 hse
    have hlk : (Cond.methodLinkNest (mNm row.1) idx rr.2.1 "EnvyRust").before args s = true := by rw [← hY]; exact va_Nw.use rfl (hE.2.1 _ (mTb_nw hw hck.1))
    exact va_runVN (As := As.map (mV G)) (n := (As.map (mV G)).length) (C := rr.2.1.cls) (Ts := mGW) (host := "EnvyRust") ⟨hx, hb, hml, hown, hts⟩ hMt
      ⟨⟨⟨rfl, rfl, by show rr.2.2.2.2.2.1 + 1 ≤ R.frames; omega, by show 8 + (rr.2.2.2.1 + 11) + rr.2.2.2.2.2.2 ≤ R.locals; omega, hws, List.mem_cons_self⟩, hts _ (mTb_gw hcode rfl), hts _ (mTb_gw hin rfl), hne, fun sig hsig => by
        have h9 := hck.2
        rw [hsig] at h9
        have : sig.parameters.length + 1 = b := Option.some.inj h9
        omega, hlk⟩, hts _ hi9, hts _ hse⟩ ⟨hpre.1, hrecv, hpre.2⟩ rfl rfl hL.2.1 hstk (lv_room (by rw [mWt_map]; exact hwt)) hd' ⟨by omega, by omega⟩
  · obtain ⟨hd', hnone⟩ : decode row.2.2.1 pc = .ok (.invokespecial idx, 3) ∧ rr.2.2.2.2.1 = none := by
      rcases hd with h | h
      · omega
      · exact ⟨h.2.1, h.2.2 rr hrr⟩
    simp only [mLck, Bool.and_eq_true, decide_eq_true_eq] at hck
    obtain ⟨hi9, hg9⟩ := mIS_inst hks
    rw [hY] at hck hi9
    have hlk : (Cond.methodLink (mNm row.1) idx rr.2.1).before args s = true := by rw [← hY]; exact hts _ (mTb_gw hw hck.1.1)
    unfold mMt at hMt
    rw [hnone] at hMt hws hcode
    exact va_runI (As := As.map (mV G)) (n := (As.map (mV G)).length) (Ts := mGW) ⟨hx, hb, hml, hown, hts⟩ hMt
      ⟨⟨rfl, rfl, by show rr.2.2.2.2.2.1 + 1 ≤ R.frames; omega, by show 8 + (rr.2.2.2.1 + 11) + rr.2.2.2.2.2.2 ≤ R.locals; omega, hws, List.mem_cons_self, hts _ (mTb_gw hcode rfl), hts _ (mTb_gw hin rfl), hne, fun sig hsig => by
        have h9 := hck.1.2
        rw [hsig] at h9
        have : sig.parameters.length + 1 = b := Option.some.inj h9
        omega, hlk⟩, hck.2, hts _ hi9⟩ hpre rfl rfl hL.2.1 hstk (lv_room (by rw [mWt_map]; exact hwt)) hd' ⟨by omega, by omega⟩
  · obtain ⟨hd', hnone⟩ : decode row.2.2.1 pc = .ok (.invokespecial idx, 3) ∧ rr.2.2.2.2.1 = none := by
      rcases hd with h | h
      · omega
      · exact ⟨h.2.1, h.2.2 rr hrr⟩
    simp only [mLck, Bool.and_eq_true, decide_eq_true_eq] at hck
    obtain ⟨hi9, hg9⟩ := mIS_inst hks
    rw [hY] at hck hi9
    have hlk : (Cond.methodLinkNest (mNm row.1) idx rr.2.1 "EnvyRust").before args s = true := by rw [← hY]; exact va_Nw.use rfl (hE.2.1 _ (mTb_nw hw hck.1.1))
    unfold mMt at hMt
    rw [hnone] at hMt hws hcode
    exact va_runIN (As := As.map (mV G)) (n := (As.map (mV G)).length) (Ts := mGW) (host := "EnvyRust") ⟨hx, hb, hml, hown, hts⟩ hMt
      ⟨⟨⟨rfl, rfl, by show rr.2.2.2.2.2.1 + 1 ≤ R.frames; omega, by show 8 + (rr.2.2.2.1 + 11) + rr.2.2.2.2.2.2 ≤ R.locals; omega, hws, List.mem_cons_self⟩, hts _ (mTb_gw hcode rfl), hts _ (mTb_gw hin rfl), hne, fun sig hsig => by
        have h9 := hck.1.2
        rw [hsig] at h9
        have : sig.parameters.length + 1 = b := Option.some.inj h9
        omega, hlk⟩, hck.2, hts _ hi9⟩ hpre rfl rfl hL.2.1 hstk (lv_room (by rw [mWt_map]; exact hwt)) hd' ⟨by omega, by omega⟩
end MSM
