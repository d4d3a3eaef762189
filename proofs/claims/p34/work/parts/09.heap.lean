/-! ===== the rows that read, write and make cells ===== -/
theorem mCl_ok {a : Nat} (h : a < 5) : vwCl[a]? = some (mNm a, mFT a, mFN a) := by
  rcases (by omega : a = 0 ∨ a = 1 ∨ a = 2 ∨ a = 3 ∨ a = 4) with rfl | rfl | rfl | rfl | rfl <;> rfl
theorem mUL_wk : mWalk 0 tables_1 (mUL.map fun q => (q.1, u_lay (mNm q.2.1) (mFT q.2.1) q.2.2)) = true := by decide +kernel
theorem mUL_ck : (List.range 5).all (fun a => (List.range (mFN a)).all fun k => goodWord (u_lay (mNm a) (mFT a) k) && mUL.any fun q => Nat.beq q.2.1 a && Nat.beq q.2.2 k) = true := by decide +kernel
theorem mU_in {a : Nat} (h : a < 5) : ∀ w ∈ u_ws (mNm a) (mFT a) (mFN a), w ∈ mGW := by
  intro w hw
  obtain ⟨k, hk, rfl⟩ := List.mem_map.mp hw
  have h1 := List.all_eq_true.mp (List.all_eq_true.mp mUL_ck a (List.mem_range.mpr h)) k hk
  rw [Bool.and_eq_true, List.any_eq_true] at h1
  obtain ⟨hg, q, hq, h2⟩ := h1
  rw [Bool.and_eq_true] at h2
  have hm := mWalk_spec mUL_wk _ (List.mem_map.mpr ⟨q, hq, rfl⟩)
  simp only [Nat.eq_of_beq_eq_true h2.1, Nat.eq_of_beq_eq_true h2.2] at hm
  exact mTb_gw hm hg
theorem mNI_wk : mWalk 0 tables_1 (mNI.map fun q => (q.1, .instantiable (mNm q.2) (mFN q.2))) = true := by decide +kernel
theorem mNI_ck : (List.range 5).all (fun a => goodWord (.instantiable (mNm a) (mFN a)) && goodWord (.initialized (mNm a)) && mNI.any (fun q => Nat.beq q.2 a) && mIN.any (fun q => Nat.beq q.2 a)) = true := by decide +kernel
theorem mNI_in {a : Nat} (h : a < 5) : Cond.instantiable (mNm a) (mFN a) ∈ mGW ∧ Cond.initialized (mNm a) ∈ mGW := by
  have h1 := List.all_eq_true.mp mNI_ck a (List.mem_range.mpr h)
  simp only [Bool.and_eq_true, List.any_eq_true] at h1
  obtain ⟨⟨⟨g1, g2⟩, q, hq, h2⟩, q', hq', h2'⟩ := h1
  have hm := mWalk_spec mNI_wk _ (List.mem_map.mpr ⟨q, hq, rfl⟩)
  simp only [Nat.eq_of_beq_eq_true h2] at hm
  have hm' := mWalk_spec mIN_wk _ (List.mem_map.mpr ⟨q', hq', rfl⟩)
  simp only [Nat.eq_of_beq_eq_true h2'] at hm'
  exact ⟨mTb_gw hm g1, mTb_gw hm' g2⟩
theorem mTy_ok {a : Nat} (h : a < 5) : ∀ k, k < mFN a → parseFieldDescriptor (mFT a k).2.2.1 = some (mFy a k) := by
  rcases (by omega : a = 0 ∨ a = 1 ∨ a = 2 ∨ a = 3 ∨ a = 4) with rfl | rfl | rfl | rfl | rfl
  · exact tyX0_ok
  · exact tyX1_ok
  · exact tyX2_ok
  · exact tyX3_ok
  · exact tyX4_ok
theorem mNn_ok {a : Nat} (h : a < 5) : ∀ x, x < mFN a → ∀ y, y < mFN a → x ≠ y → (mFT a x).2.1 ≠ (mFT a y).2.1 := by
  rcases (by omega : a = 0 ∨ a = 1 ∨ a = 2 ∨ a = 3 ∨ a = 4) with rfl | rfl | rfl | rfl | rfl
  · exact nmX0
  · exact nmX1
  · exact nmX2
  · exact nmX3
  · exact nmX4
theorem mDf_ok {a : Nat} (h : a < 5) : (mDf a).length = mFN a ∧ ∀ k, k < mFN a → defaultValue (mFy a k) = vp_V (mDf a) k := by
  rcases (by omega : a = 0 ∨ a = 1 ∨ a = 2 ∨ a = 3 ∨ a = 4) with rfl | rfl | rfl | rfl | rfl <;> decide +kernel
theorem mDf_mV {a : Nat} (h : a < 5) (G : mG) : (mDf a).map (mV G) = mDf a := by
  rcases (by omega : a = 0 ∨ a = 1 ∨ a = 2 ∨ a = 3 ∨ a = 4) with rfl | rfl | rfl | rfl | rfl <;> rfl
theorem mEck_at {row : mRow} {e : mEnt} {idx : Nat} (h : mEck row e = true) (hi : mKi e.1 = some idx) : mKd e.1 e.2.2.2.1 = true ∧ mLT[e.2.2.1]? = some (row.1, idx, e.2.2.2.1, e.2.2.2.2.1, e.2.2.2.2.2.1, e.2.2.2.2.2.2) ∧ (Nat.blt e.2.2.2.1 10 = true ∨ mRm row e.2.2.2.1 e.2.2.2.2.1 = true) := by
  unfold mEck at h
  rw [Bool.and_eq_true, hi] at h
  replace h := h.2
  simp only [Bool.and_eq_true, decide_eq_true_eq, Bool.or_eq_true] at h
  exact ⟨h.1.1, h.1.2, h.2⟩
theorem mGet_eq {D : mHp} {i a b : Nat} {v : Value} (h : mGet D i a b = some v) : ∃ fs : List Value, D[i]? = some (.inr (a, fs)) ∧ fs[b]? = some v := by
  unfold mGet at h
  split at h
  · rename_i c fs hD
    obtain ⟨h1, h2⟩ := mCond_eq h
    rw [Nat.eq_of_beq_eq_true h1] at hD
    exact ⟨fs, hD, h2⟩
  · cases h
theorem mLt_of {D : mHp} {i : Nat} {c : va_E} (h : D[i]? = some c) : i < D.length := (List.getElem?_eq_some_iff.mp h).1
section MHR
variable {p : Program} {l : Launch} {e : Env} {R : Room} {s : State} {m : MethodId} {args : Array Value} {below : List Frame} {meth : Method} {c : Code} {Q : State → Prop} {G : mG} {row : mRow} {d0 s0 : Nat} {pc : Nat} {L : mLoc} {st : List Value} {D : mHp} {q : Nat × mLoc × List Value × mHp} {j a b : Nat} {z : Int} {idx : Nat}
theorem r_getfield (C : mCx p R s m args meth c G row d0) (hlim : D.length ≤ 1000000) {kind : Nat} (hk : Nat.ble kind 1 = true) (hL0 : mLT[j]? = some (row.1, idx, kind, a, b, z)) (hd : decode row.2.2.1 pc = .ok (.getfield idx, 3))
    (h : (match st with
    | .ref i :: r => (mGet D i a b).bind fun v => mNx (pc + 3) L (v :: r) D
    | _ => none) = some (.inl q)) (k : mK p l e R s m args below meth c Q G row.2.2.2.1 d0 s0 q.1 q.2.1 q.2.2.1 q.2.2.2) : mK p l e R s m args below meth c Q G row.2.2.2.1 d0 s0 pc L st D := by
  intro ls H locs cells slots hL hP hS hc hs
  obtain ⟨hx, hb, hml, hown, hts, hE, -, -, -, -⟩ := C
  split at h
  · rename_i i r
    obtain ⟨v, h1, h2⟩ := mBind_eq h
    obtain rfl := mNx_eq h2
    obtain ⟨fs, hDi, hv⟩ := mGet_eq h1
    have k1 := k ls H locs cells slots hL hP hS hc hs
    have hi : i < 1000000 := Nat.lt_of_lt_of_le (mLt_of hDi) hlim
    show W p l e R s m args below meth c H locs cells slots Q (F0 m pc ls (.ref (mAd G i) :: r.map (mV G)))
    rw [mAd_lt hi]
    have hv' : (fs.map (mV G))[b]? = some (mV G v) := by rw [List.getElem?_map, hv]; rfl
    obtain ⟨hw, hck⟩ := mLT_at hL0
    rcases (by have := Nat.le_of_ble_eq_true hk; omega : kind = 0 ∨ kind = 1) with rfl | rfl
    · simp only [mLck, Bool.and_eq_true, decide_eq_true_eq] at hck
      obtain ⟨⟨⟨hg, ha⟩, hb5⟩, he⟩ := hck
      have ha := Nat.blt_eq.mp ha
      exact va_get (D := G.2.2.1) (cl := vwCl) (tys := mTys G) (ci := a) (v := mV G v) (C := mNm a) (T := mFT a) (N := mFN a) (own := mNm row.1) (ref := mNm a) hx hb hts (mU_in ha) hown hE.1 hP i (fs := fs.map (mV G)) (mW_at hDi) (mCl_ok ha) b (Nat.blt_eq.mp hb5) (hts _ (mTb_gw hw hg)) (fun x hx => by rw [he] at hx; exact hx) hv' hd k1
    · simp only [mLck, Bool.and_eq_true, decide_eq_true_eq] at hck
      obtain ⟨⟨⟨hg, ha⟩, hb5⟩, he⟩ := hck
      have ha := Nat.blt_eq.mp ha
      exact va_getN (D := G.2.2.1) (cl := vwCl) (tys := mTys G) (ci := a) (v := mV G v) (C := mNm a) (T := mFT a) (N := mFN a) (own := mNm row.1) (ref := mNm a) (host := "EnvyRust") hx hb hts (mU_in ha) hown hE.1 hP i (fs := fs.map (mV G)) (mW_at hDi) (mCl_ok ha) b (Nat.blt_eq.mp hb5) (va_Nw.use rfl (hE.2.1 _ (mTb_nw hw hg))) (fun x hx => by rw [he] at hx; exact hx) hv' hd k1
  · cases h
theorem mFit_mV {ty : FieldType} {v : Value} (h : mFit ty v = true) (G : mG) : narrow ty (mV G v) = mV G v ∧ fits ty (mV G v) = true := by
  unfold mFit at h
  split at h
  · rename_i x
    simp only [Bool.and_eq_true, decide_eq_true_eq] at h
    exact h
  · split at h
    · exact ⟨rfl, rfl⟩
    · exact ⟨rfl, rfl⟩
    · cases h
  · cases h
theorem mPut_eq {D D1 : mHp} {i a b kind : Nat} {v : Value} (h : mPut row kind D i a b v = some D1) : ∃ fs : List Value, D[i]? = some (.inr (a, fs)) ∧ b < mFN a ∧ b < fs.length ∧ mFit (mFy a b) v = true ∧ ((mFT a b).2.2.2 = false ∨ ((mFT a b).2.2.2 = true ∧ kind = 0 ∧ row.2.1.name = "<init>" ∧ (mFT a b).1 = mNm row.1)) ∧ D1 = D.set i (.inr (a, fs.set b v)) := by
  unfold mPut at h
  split at h
  · rename_i c fs hD
    obtain ⟨h1, h2⟩ := mCond_eq h
    simp only [Bool.and_eq_true, Bool.or_eq_true, decide_eq_true_eq] at h1
    obtain ⟨⟨⟨⟨h3, h4⟩, h5⟩, h6⟩, h7⟩ := h1
    have e := Nat.eq_of_beq_eq_true h3
    subst e
    refine ⟨fs, hD, Nat.blt_eq.mp h4, Nat.blt_eq.mp h5, h6, ?_, (Option.some.inj h2).symm⟩
    cases hf : (mFT c b).2.2.2 with
    | false => exact Or.inl rfl
    | true =>
      rw [hf] at h7
      rcases h7 with h7 | ⟨h8, h7⟩
      · cases h7
      · exact Or.inr ⟨rfl, Nat.eq_of_beq_eq_true h8, h7⟩
  · cases h
theorem mSz_obj (a b : Nat) (fs : List Value) (v : Value) : mSz (.inr (a, fs.set b v)) = mSz (.inr (a, fs)) := List.length_set
theorem r_putfield (C : mCx p R s m args meth c G row d0) (hlim : D.length ≤ 1000000) {kind : Nat} (hk : Nat.ble kind 1 = true) (hL0 : mLT[j]? = some (row.1, idx, kind, a, b, z)) (hd : decode row.2.2.1 pc = .ok (.putfield idx, 3))
    (h : (match st with
    | v :: .ref i :: r => (mPut row kind D i a b v).bind fun D1 => mNx (pc + 3) L r D1
    | _ => none) = some (.inl q)) (k : mK p l e R s m args below meth c Q G row.2.2.2.1 d0 s0 q.1 q.2.1 q.2.2.1 q.2.2.2) : mK p l e R s m args below meth c Q G row.2.2.2.1 d0 s0 pc L st D := by
  intro ls H locs cells slots hL hP hS hc hs
  obtain ⟨hx, hb, hml, hown, hts, hE, hini, -, -, -⟩ := C
  split at h
  · rename_i v i r
    obtain ⟨D1, h1, h2⟩ := mBind_eq h
    obtain rfl := mNx_eq h2
    obtain ⟨fs, hDi, hbN, hbl, hfit, hfin, rfl⟩ := mPut_eq h1
    have hi : i < 1000000 := Nat.lt_of_lt_of_le (mLt_of hDi) hlim
    show W p l e R s m args below meth c H locs cells slots Q (F0 m pc ls (mV G v :: .ref (mAd G i) :: r.map (mV G)))
    rw [mAd_lt hi]
    obtain ⟨hw, hck⟩ := mLT_at hL0
    obtain ⟨f1, f2⟩ := mFit_mV hfit G
    have kk : ∀ (H1 : Heap) (locs1 : List Loc), va_P G.2.2.1 vwCl ((mW G 0 D).set i (G.1 + i, .inr (a, (fs.map (mV G)).set b (mV G v)))) H1 → va_D (mA G) ((mW G 0 D).set i (G.1 + i, .inr (a, (fs.map (mV G)).set b (mV G v)))) → va_S (mA G) s.heap H1 locs1 → W p l e R s m args below meth c H1 locs1 cells slots Q (F0 m (pc + 3) ls (r.map (mV G))) := by
      intro H1 locs1 hP1 _ hS1
      refine k ls H1 locs1 cells slots hL ?_ hS1 (by rw [hc]; exact List.length_set.symm) (by rw [hs]; exact (mSl_set hDi (mSz_obj a b fs v)).symm)
      show va_P G.2.2.1 vwCl (mW G 0 (D.set i (.inr (a, fs.set b v)))) H1
      rw [mW_set0]
      show va_P G.2.2.1 vwCl ((mW G 0 D).set i (G.1 + i, .inr (a, (fs.set b v).map (mV G)))) H1
      rw [List.map_set]
      exact hP1
    have hl9 : b < (fs.map (mV G)).length := by rw [List.length_map]; exact hbl
    rcases (by have := Nat.le_of_ble_eq_true hk; omega : kind = 0 ∨ kind = 1) with rfl | rfl
    · simp only [mLck, Bool.and_eq_true, decide_eq_true_eq] at hck
      obtain ⟨⟨⟨hg, ha⟩, hb5⟩, he⟩ := hck
      have ha := Nat.blt_eq.mp ha
      rcases hfin with hfin | ⟨hfin, hkz, hnm, hdc⟩
      · exact va_put (D := G.2.2.1) (cl := vwCl) (tys := mTys G) (ci := a) (v := mV G v) (ty := mFy a b) (C := mNm a) (T := mFT a) (N := mFN a) (own := mNm row.1) (ref := mNm a) hx hb hts (mU_in ha) (mFy a) (mTy_ok ha) (mNn_ok ha) hown hE.1 hP (mW_D G D) hS i (fs := fs.map (mV G)) (mW_at hDi) (mCl_ok ha) b hbN (hts _ (mTb_gw hw hg)) (fun x hx => by rw [he] at hx; exact hx) hfin (mTy_ok ha b hbN) f1 f2 hl9 hd kk
      · exact va_putF (D := G.2.2.1) (cl := vwCl) (tys := mTys G) (ci := a) (v := mV G v) (ty := mFy a b) (C := mNm a) (T := mFT a) (N := mFN a) (own := mNm row.1) (ref := mNm a) hx hb hts (mU_in ha) (mFy a) (mTy_ok ha) (mNn_ok ha) hown hE.1 hP (mW_D G D) hS i (fs := fs.map (mV G)) (mW_at hDi) (mCl_ok ha) b hbN (hts _ (mTb_gw hw hg)) (fun x hx => by rw [he] at hx; exact hx) hfin (hini hnm) hdc (mTy_ok ha b hbN) f1 f2 hl9 hd kk
    · simp only [mLck, Bool.and_eq_true, decide_eq_true_eq] at hck
      obtain ⟨⟨⟨hg, ha⟩, hb5⟩, he⟩ := hck
      have ha := Nat.blt_eq.mp ha
      rcases hfin with hfin | ⟨hfin, hkz, hnm, hdc⟩
      · exact va_putN (D := G.2.2.1) (cl := vwCl) (tys := mTys G) (ci := a) (v := mV G v) (ty := mFy a b) (C := mNm a) (T := mFT a) (N := mFN a) (own := mNm row.1) (ref := mNm a) (host := "EnvyRust") hx hb hts (mU_in ha) (mFy a) (mTy_ok ha) (mNn_ok ha) hown hE.1 hP (mW_D G D) hS i (fs := fs.map (mV G)) (mW_at hDi) (mCl_ok ha) b hbN (va_Nw.use rfl (hE.2.1 _ (mTb_nw hw hg))) (fun x hx => by rw [he] at hx; exact hx) hfin (mTy_ok ha b hbN) f1 f2 hl9 hd kk
      · cases hkz
  · cases h
end MHR
