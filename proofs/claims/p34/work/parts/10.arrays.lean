/-! ===== arrays, constants, new cells ===== -/
theorem mV_ref (G : mG) (i : Nat) : mV G (.ref i) = .ref (mAd G i) := rfl
theorem mAd_tx (G : mG) (b : Nat) : mAd G (1000000 + b) = G.2.1 b := by
  unfold mAd
  rw [if_neg (by omega), Nat.add_sub_cancel_left]
theorem mTys_at (G : mG) (t : Nat) (h : t ≤ 4) : ∃ ty, (mTys G)[t]? = some (G.2.2.2.1 t, ty) := by
  rcases (by omega : t = 0 ∨ t = 1 ∨ t = 2 ∨ t = 3 ∨ t = 4) with rfl | rfl | rfl | rfl | rfl <;> exact ⟨_, rfl⟩
section MAR
variable {p : Program} {l : Launch} {e : Env} {R : Room} {s : State} {m : MethodId} {args : Array Value} {below : List Frame} {meth : Method} {c : Code} {Q : State → Prop} {G : mG} {row : mRow} {d0 s0 : Nat} {pc : Nat} {L : mLoc} {st : List Value} {D : mHp} {q : Nat × mLoc × List Value × mHp} {j a b : Nat} {z : Int} {idx : Nat}
theorem r_getstatic (C : mCx p R s m args meth c G row d0) {kind : Nat} (hk : Nat.beq kind 7 = true) (hL0 : mLT[j]? = some (row.1, idx, kind, a, b, z)) (hd : decode row.2.2.1 pc = .ok (.getstatic idx, 3))
    (h : mNx (pc + 3) L (.ref 1000100 :: st) D = some (.inl q)) (k : mK p l e R s m args below meth c Q G row.2.2.2.1 d0 s0 q.1 q.2.1 q.2.2.1 q.2.2.2) : mK p l e R s m args below meth c Q G row.2.2.2.1 d0 s0 pc L st D := by
  intro ls H locs cells slots hL hP hS hc hs
  obtain ⟨hx, hb, hml, hown, hts, hE, -, -, -, -⟩ := C
  obtain rfl := mNx_eq h
  obtain ⟨hw, hck⟩ := mLT_at hL0
  have hk := Nat.eq_of_beq_eq_true hk
  subst hk
  have k1 := k ls H locs cells slots hL hP hS hc hs
  have hZ := hE.2.2.2.2.2.1
  exact va_gets (C := "EnvyRust") (n := "KIND_ABOVE") (d := "[I") (own := mNm row.1) (ref := "EnvyRust") hx hb hZ hS hown (hts _ (mTb_gw hw hck)) (fun _ h9 => h9) hd k1
theorem r_ldc (C : mCx p R s m args meth c G row d0) {kind : Nat} (hL0 : mLT[j]? = some (row.1, idx, kind, a, b, z)) (hd : decode row.2.2.1 pc = .ok (.ldc idx, 2))
    (h : (match kind with
    | 2 => mNx (pc + 2) L (.int (Int32.ofInt z) :: st) D
    | 3 => mNx (pc + 2) L (.ref (1000000 + b) :: st) D
    | _ => none) = some (.inl q)) (k : mK p l e R s m args below meth c Q G row.2.2.2.1 d0 s0 q.1 q.2.1 q.2.2.1 q.2.2.2) : mK p l e R s m args below meth c Q G row.2.2.2.1 d0 s0 pc L st D := by
  intro ls H locs cells slots hL hP hS hc hs
  obtain ⟨hx, hb, hml, hown, hts, hE, -, -, -, -⟩ := C
  obtain ⟨hw, hck⟩ := mLT_at hL0
  split at h
  · obtain rfl := mNx_eq h
    exact lv_ldc hx hb hown (hts _ (mTb_gw hw hck)) hd (k ls H locs cells slots hL hP hS hc hs)
  · obtain rfl := mNx_eq h
    have k1 := k ls H locs cells slots hL hP hS hc hs
    simp only [List.map_cons, mV_ref, mAd_tx] at k1
    have hZ := hE.2.2.2.2.1 _ (List.mem_of_getElem? hL0) rfl
    exact va_ldcS hx hb hown hZ hd k1
  · cases h
theorem m_ldcSw {cc : ByteArray} {ls : Array Slot} {rest : List Value} {H : Heap} {locs : List Loc} {cells slots : Nat} (hexec : p.tables.exec = Jvm.exec) (hb : c.code = cc) {own tx : String} {index q : Nat} (hown : s.vm.findClass own = some m.cls) (hZ : vk_R own index tx q s) (hdg : decode cc pc = .ok (.ldc_w index, 3))
    (k : W p l e R s m args below meth c H locs cells slots Q (F0 m (pc + 3) ls (.ref q :: rest))) : W p l e R s m args below meth c H locs cells slots Q (F0 m pc ls rest) := by
  intro T hT X
  obtain ⟨t, a1, b1⟩ := k T hT X
  exact ⟨t, X.ldcStringW hexec hown (text := tx) (a := q) hZ.1 hZ.2 (g := F0 m pc ls rest) rfl (by rw [hb]; exact hdg) t a1, b1⟩
theorem r_ldc_w (C : mCx p R s m args meth c G row d0) {kind : Nat} (hL0 : mLT[j]? = some (row.1, idx, kind, a, b, z)) (hd : decode row.2.2.1 pc = .ok (.ldc_w idx, 3))
    (h : (match kind with
    | 2 => mNx (pc + 3) L (.int (Int32.ofInt z) :: st) D
    | 3 => mNx (pc + 3) L (.ref (1000000 + b) :: st) D
    | _ => none) = some (.inl q)) (k : mK p l e R s m args below meth c Q G row.2.2.2.1 d0 s0 q.1 q.2.1 q.2.2.1 q.2.2.2) : mK p l e R s m args below meth c Q G row.2.2.2.1 d0 s0 pc L st D := by
  intro ls H locs cells slots hL hP hS hc hs
  obtain ⟨hx, hb, hml, hown, hts, hE, -, -, -, -⟩ := C
  obtain ⟨hw, hck⟩ := mLT_at hL0
  split at h
  · obtain rfl := mNx_eq h
    exact lv_ldcw hx hb hown (hts _ (mTb_gw hw hck)) hd (k ls H locs cells slots hL hP hS hc hs)
  · obtain rfl := mNx_eq h
    have k1 := k ls H locs cells slots hL hP hS hc hs
    simp only [List.map_cons, mV_ref, mAd_tx] at k1
    have hZ := hE.2.2.2.2.1 _ (List.mem_of_getElem? hL0) rfl
    exact m_ldcSw hx hb hown hZ hd k1
  · cases h
theorem mLd_eq {X : mSc} {t : Nat} {i : Nat} {j : Int32} {v : Value} (h : mLd X t D i j = some v) :
    (∃ (n : Nat) (f : Nat → Int32), D[i]? = some (.inl (t, n, .inl f)) ∧ vp_in j n ∧ v = .int (f j.toNatClampNeg)) ∨ (t = 0 ∧ ∃ (n : Nat) (f : Nat → Int32), mRo X i = some (n, f) ∧ vp_in j n ∧ v = .int (f j.toNatClampNeg)) := by
  unfold mLd at h
  split at h
  · rename_i t' n f hD
    obtain ⟨h1, h2⟩ := mCond_eq h
    rw [Bool.and_eq_true] at h1
    rw [Nat.eq_of_beq_eq_true h1.1] at hD
    exact Or.inl ⟨n, f, hD, mOut_in h1.2, (Option.some.inj h2).symm⟩
  · cases h
  · obtain ⟨h1, h2⟩ := mCond_eq h
    split at h2
    · rename_i n f hR
      obtain ⟨h3, h4⟩ := mCond_eq h2
      exact Or.inr ⟨Nat.eq_of_beq_eq_true h1, n, f, hR, mOut_in h3, (Option.some.inj h4).symm⟩
    · cases h2
theorem mRo_eq {X : mSc} {i n : Nat} {f : Nat → Int32} (h : mRo X i = some (n, f)) : (i = 1000100 ∧ n = 7 ∧ f = mKA) ∨ (i = 1000200 ∧ (n, f) = X) := by
  unfold mRo at h
  cases h1 : Nat.beq i 1000100 with
  | true =>
    rw [h1] at h
    cases h
    exact Or.inl ⟨Nat.eq_of_beq_eq_true h1, rfl, rfl⟩
  | false =>
    rw [h1] at h
    obtain ⟨h2, h3⟩ := mCond_eq h
    exact Or.inr ⟨Nat.eq_of_beq_eq_true h2, (Option.some.inj h3).symm⟩
theorem mRo_T {X : mSc} {i n : Nat} {f : Nat → Int32} (hG : G.2.2.2.2 = X) (hE : mE G s s.heap) (h : mRo X i = some (n, f)) : va_T .int (mAd G i) n (fun j => .int (f j)) (mA G) s s.heap := by
  rcases mRo_eq h with ⟨rfl, rfl, rfl⟩ | ⟨rfl, h9⟩
  · exact hE.2.2.2.2.2.2.1
  · rw [← hG] at h9
    have e1 : n = G.2.2.2.2.1 := congrArg Prod.fst h9
    have e2 : f = G.2.2.2.2.2 := congrArg Prod.snd h9
    rw [e1, e2]
    exact hE.2.2.2.2.2.2.2.1
theorem r_iaload {X : mSc} (hG : G.2.2.2.2 = X) (C : mCx p R s m args meth c G row d0) (hlim : D.length ≤ 1000000) (hd : decode row.2.2.1 pc = .ok (.iaload, 1))
    (h : (match st with
    | .int j :: .ref i :: r => (mLd X 0 D i j).bind fun v => mNx (pc + 1) L (v :: r) D
    | _ => none) = some (.inl q)) (k : mK p l e R s m args below meth c Q G row.2.2.2.1 d0 s0 q.1 q.2.1 q.2.2.1 q.2.2.2) : mK p l e R s m args below meth c Q G row.2.2.2.1 d0 s0 pc L st D := by
  intro ls H locs cells slots hL hP hS hc hs
  obtain ⟨hx, hb, hml, hown, hts, hE, -, -, -, -⟩ := C
  split at h
  · rename_i j i r
    obtain ⟨v, h1, h2⟩ := mBind_eq h
    obtain rfl := mNx_eq h2
    have k1 := k ls H locs cells slots hL hP hS hc hs
    show W p l e R s m args below meth c H locs cells slots Q (F0 m pc ls (.int j :: .ref (mAd G i) :: r.map (mV G)))
    rcases mLd_eq h1 with ⟨n, f, hD, hin, rfl⟩ | ⟨-, n, f, hR, hin, rfl⟩
    · rw [mAd_lt (Nat.lt_of_lt_of_le (mLt_of hD) hlim)]
      exact va_iald (tys := mTys G) hx hb hE.1 hP i 0 (mW_at hD) rfl hin hd k1
    · exact va_ti hx hb (mRo_T hG hE hR) hS hin rfl hd k1
  · cases h
theorem r_baload {X : mSc} (C : mCx p R s m args meth c G row d0) (hlim : D.length ≤ 1000000) (hd : decode row.2.2.1 pc = .ok (.baload, 1))
    (h : (match st with
    | .int j :: .ref i :: r => (mLd X 1 D i j).bind fun v => mNx (pc + 1) L (v :: r) D
    | _ => none) = some (.inl q)) (k : mK p l e R s m args below meth c Q G row.2.2.2.1 d0 s0 q.1 q.2.1 q.2.2.1 q.2.2.2) : mK p l e R s m args below meth c Q G row.2.2.2.1 d0 s0 pc L st D := by
  intro ls H locs cells slots hL hP hS hc hs
  obtain ⟨hx, hb, hml, hown, hts, hE, -, -, -, -⟩ := C
  split at h
  · rename_i j i r
    obtain ⟨v, h1, h2⟩ := mBind_eq h
    obtain rfl := mNx_eq h2
    have k1 := k ls H locs cells slots hL hP hS hc hs
    show W p l e R s m args below meth c H locs cells slots Q (F0 m pc ls (.int j :: .ref (mAd G i) :: r.map (mV G)))
    rcases mLd_eq h1 with ⟨n, f, hD, hin, rfl⟩ | ⟨h0, -⟩
    · rw [mAd_lt (Nat.lt_of_lt_of_le (mLt_of hD) hlim)]
      exact va_bald (tys := mTys G) hx hb hE.1 hP i 1 (mW_at hD) rfl hin hd k1
    · cases h0
  · cases h
theorem mLdq_eq {i : Nat} {j : Int32} {v : Value} (h : mLdq D i j = some v) : ∃ (t n : Nat) (f : Nat → Option Nat), D[i]? = some (.inl (t, n, .inr (.inr (.inr (.inr f))))) ∧ 2 ≤ t ∧ t ≤ 4 ∧ vp_in j n ∧ v = va_rf (f j.toNatClampNeg) := by
  unfold mLdq at h
  split at h
  · rename_i t n f hD
    obtain ⟨h1, h2⟩ := mCond_eq h
    simp only [Bool.and_eq_true] at h1
    exact ⟨t, n, f, hD, Nat.le_of_ble_eq_true h1.1.1, Nat.le_of_ble_eq_true h1.1.2, mOut_in h1.2, (Option.some.inj h2).symm⟩
  · cases h
theorem r_aaload (C : mCx p R s m args meth c G row d0) (hlim : D.length ≤ 1000000) (hd : decode row.2.2.1 pc = .ok (.aaload, 1))
    (h : (match st with
    | .int j :: .ref i :: r => (mLdq D i j).bind fun v => mNx (pc + 1) L (v :: r) D
    | _ => none) = some (.inl q)) (k : mK p l e R s m args below meth c Q G row.2.2.2.1 d0 s0 q.1 q.2.1 q.2.2.1 q.2.2.2) : mK p l e R s m args below meth c Q G row.2.2.2.1 d0 s0 pc L st D := by
  intro ls H locs cells slots hL hP hS hc hs
  obtain ⟨hx, hb, hml, hown, hts, hE, -, -, -, -⟩ := C
  split at h
  · rename_i j i r
    obtain ⟨v, h1, h2⟩ := mBind_eq h
    obtain rfl := mNx_eq h2
    obtain ⟨t, n, f, hD, ht2, ht4, hin, rfl⟩ := mLdq_eq h1
    have k1 : W p l e R s m args below meth c H locs cells slots Q (F0 m (pc + 1) ls (mV G (va_rf (f j.toNatClampNeg)) :: r.map (mV G))) := k ls H locs cells slots hL hP hS hc hs
    rw [mV_rf] at k1
    show W p l e R s m args below meth c H locs cells slots Q (F0 m pc ls (.int j :: .ref (mAd G i) :: r.map (mV G)))
    rw [mAd_lt (Nat.lt_of_lt_of_le (mLt_of hD) hlim)]
    have hlt : j.toNatClampNeg < n := Nat.not_le.mp fun w => hin (Or.inr w)
    obtain ⟨ty, hty, hr⟩ : ∃ ty, (mTys G)[t]? = some (G.2.2.2.1 t, ty) ∧ ty.isReference = true := by
      rcases (by omega : t = 2 ∨ t = 3 ∨ t = 4) with rfl | rfl | rfl
      · exact ⟨_, rfl, rfl⟩
      · exact ⟨_, rfl, rfl⟩
      · exact ⟨_, rfl, rfl⟩
    have hcell : H[G.1 + i]? = some (arrV (G.2.2.2.1 t) n (fun j => va_rf ((f j).map (mAd G)))) := hP i _ (mW_at hD)
    exact W.aald (v := va_rf ((f j.toNatClampNeg).map (mAd G))) (ty := ty) hx hb hcell ((hE.1.2 t _ hty).1 n (fun j => va_rf ((f j).map (mAd G)))) hr (fun w => by cases w) (by show ¬ (j < 0 ∨ (arrV _ _ _).slots.size ≤ _); rw [arrV_size]; exact hin) (by show (arrV _ _ _).slots[_]? = _; rw [arrV_read _ _ hlt]) rfl rfl hd k1
  · cases h
theorem mStI_eq {t : Nat} {D1 : mHp} {i : Nat} {j x : Int32} (h : mStI t D i j x = some D1) : ∃ (n : Nat) (f : Nat → Int32), D[i]? = some (.inl (t, n, .inl f)) ∧ vp_in j n ∧ D1 = D.set i (.inl (t, n, .inl (upd f j.toNatClampNeg (mNar t x)))) := by
  unfold mStI at h
  split at h
  · rename_i t' n f hD
    obtain ⟨h1, h2⟩ := mCond_eq h
    rw [Bool.and_eq_true] at h1
    have e := Nat.eq_of_beq_eq_true h1.1
    subst e
    exact ⟨n, f, hD, mOut_in h1.2, (Option.some.inj h2).symm⟩
  · cases h
theorem mSet_W {ls : Array Slot} {locs1 : List Loc} {H1 : Heap} {cells slots : Nat} {pc' : Nat} {r : List Value} {i : Nat} {c0 c1 : va_E} (hD : D[i]? = some c0) (hz : mSz c1 = mSz c0) (hL : mLR G ls row.2.2.2.1 L) (hc : cells + d0 = D.length) (hs : slots + s0 = mSl D) (k : mK p l e R s m args below meth c Q G row.2.2.2.1 d0 s0 pc' L r (D.set i c1))
    (hP1 : va_P G.2.2.1 vwCl ((mW G 0 D).set i (G.1 + i, mCE G c1)) H1) (hS1 : va_S (mA G) s.heap H1 locs1) : W p l e R s m args below meth c H1 locs1 cells slots Q (F0 m pc' ls (r.map (mV G))) := by
  refine k ls H1 locs1 cells slots hL ?_ hS1 (by rw [hc]; exact List.length_set.symm) (by rw [hs]; exact (mSl_set hD hz).symm)
  show va_P G.2.2.1 vwCl (mW G 0 (D.set i c1)) H1
  rw [mW_set0]
  exact hP1
theorem r_iastore (C : mCx p R s m args meth c G row d0) (hlim : D.length ≤ 1000000) (hd : decode row.2.2.1 pc = .ok (.iastore, 1))
    (h : (match st with
    | .int x :: .int j :: .ref i :: r => (mStI 0 D i j x).bind fun D1 => mNx (pc + 1) L r D1
    | _ => none) = some (.inl q)) (k : mK p l e R s m args below meth c Q G row.2.2.2.1 d0 s0 q.1 q.2.1 q.2.2.1 q.2.2.2) : mK p l e R s m args below meth c Q G row.2.2.2.1 d0 s0 pc L st D := by
  intro ls H locs cells slots hL hP hS hc hs
  obtain ⟨hx, hb, hml, hown, hts, hE, -, -, -, -⟩ := C
  split at h
  · rename_i x j i r
    obtain ⟨D1, h1, h2⟩ := mBind_eq h
    obtain rfl := mNx_eq h2
    obtain ⟨n, f, hD, hin, rfl⟩ := mStI_eq h1
    show W p l e R s m args below meth c H locs cells slots Q (F0 m pc ls (.int x :: .int j :: .ref (mAd G i) :: r.map (mV G)))
    rw [mAd_lt (Nat.lt_of_lt_of_le (mLt_of hD) hlim)]
    exact va_iast (tys := mTys G) hx hb hE.1 hP (mW_D G D) hS i 0 (mW_at hD) rfl hin hd (fun H1 locs1 hP1 _ hS1 => mSet_W (c1 := .inl (0, n, .inl (upd f j.toNatClampNeg (mNar 0 x)))) hD rfl hL hc hs k hP1 hS1)
  · cases h
theorem r_bastore (C : mCx p R s m args meth c G row d0) (hlim : D.length ≤ 1000000) (hd : decode row.2.2.1 pc = .ok (.bastore, 1))
    (h : (match st with
    | .int x :: .int j :: .ref i :: r => (mStI 1 D i j x).bind fun D1 => mNx (pc + 1) L r D1
    | _ => none) = some (.inl q)) (k : mK p l e R s m args below meth c Q G row.2.2.2.1 d0 s0 q.1 q.2.1 q.2.2.1 q.2.2.2) : mK p l e R s m args below meth c Q G row.2.2.2.1 d0 s0 pc L st D := by
  intro ls H locs cells slots hL hP hS hc hs
  obtain ⟨hx, hb, hml, hown, hts, hE, -, -, -, -⟩ := C
  split at h
  · rename_i x j i r
    obtain ⟨D1, h1, h2⟩ := mBind_eq h
    obtain rfl := mNx_eq h2
    obtain ⟨n, f, hD, hin, rfl⟩ := mStI_eq h1
    show W p l e R s m args below meth c H locs cells slots Q (F0 m pc ls (.int x :: .int j :: .ref (mAd G i) :: r.map (mV G)))
    rw [mAd_lt (Nat.lt_of_lt_of_le (mLt_of hD) hlim)]
    exact va_bast (tys := mTys G) hx hb hE.1 hP (mW_D G D) hS i 1 (mW_at hD) rfl hin hd (fun H1 locs1 hP1 _ hS1 => mSet_W (c1 := .inl (1, n, .inl (upd f j.toNatClampNeg (mNar 1 x)))) hD rfl hL hc hs k hP1 hS1)
  · cases h
theorem mStQ_eq {D1 : mHp} {i v : Nat} {j : Int32} (h : mStQ D i j v = some D1) : ∃ (t n : Nat) (f : Nat → Option Nat), D[i]? = some (.inl (t, n, .inr (.inr (.inr (.inr f))))) ∧ mAk D t v = true ∧ vp_in j n ∧ D1 = D.set i (.inl (t, n, .inr (.inr (.inr (.inr (va_up f j.toNatClampNeg (some v))))))) := by
  unfold mStQ at h
  split at h
  · rename_i t n f hD
    obtain ⟨h1, h2⟩ := mCond_eq h
    rw [Bool.and_eq_true] at h1
    exact ⟨t, n, f, hD, h1.1, mOut_in h1.2, (Option.some.inj h2).symm⟩
  · cases h
theorem mAk_eq {t v : Nat} (h : mAk D t v = true) : (t = 2 ∧ ∃ fs : List Value, D[v]? = some (.inr (0, fs))) ∨ (t = 4 ∧ 1000000 ≤ v ∧ v < 1000015) := by
  unfold mAk at h
  split at h
  · split at h
    · rename_i c fs hD
      rw [Nat.eq_of_beq_eq_true h] at hD
      exact Or.inl ⟨rfl, fs, hD⟩
    · cases h
  · rw [Bool.and_eq_true] at h
    exact Or.inr ⟨rfl, Nat.le_of_ble_eq_true h.1, Nat.blt_eq.mp h.2⟩
  · cases h
theorem mCA_up (f : Nat → Option Nat) (k v : Nat) : (fun i => (va_up f k (some v) i).map (mAd G)) = va_up (fun i => (f i).map (mAd G)) k (some (mAd G v)) := by
  funext i
  unfold va_up
  split <;> rfl
theorem r_aastore (C : mCx p R s m args meth c G row d0) (hlim : D.length ≤ 1000000) (hd : decode row.2.2.1 pc = .ok (.aastore, 1))
    (h : (match st with
    | .ref v :: .int j :: .ref i :: r => (mStQ D i j v).bind fun D1 => mNx (pc + 1) L r D1
    | _ => none) = some (.inl q)) (k : mK p l e R s m args below meth c Q G row.2.2.2.1 d0 s0 q.1 q.2.1 q.2.2.1 q.2.2.2) : mK p l e R s m args below meth c Q G row.2.2.2.1 d0 s0 pc L st D := by
  intro ls H locs cells slots hL hP hS hc hs
  obtain ⟨hx, hb, hml, hown, hts, hE, -, -, -, -⟩ := C
  split at h
  · rename_i v j i r
    obtain ⟨D1, h1, h2⟩ := mBind_eq h
    obtain rfl := mNx_eq h2
    obtain ⟨t, n, f, hD, hak, hin, rfl⟩ := mStQ_eq h1
    show W p l e R s m args below meth c H locs cells slots Q (F0 m pc ls (.ref (mAd G v) :: .int j :: .ref (mAd G i) :: r.map (mV G)))
    rw [mAd_lt (Nat.lt_of_lt_of_le (mLt_of hD) hlim)]
    have hset : ∀ (H1 : Heap) (locs1 : List Loc), va_P G.2.2.1 vwCl ((mW G 0 D).set i (G.1 + i, .inl (G.2.2.2.1 t, n, .inr (.inr (.inr (.inr (va_up (fun i => (f i).map (mAd G)) j.toNatClampNeg (some (mAd G v))))))))) H1 → va_S (mA G) s.heap H1 locs1 → W p l e R s m args below meth c H1 locs1 cells slots Q (F0 m (pc + 1) ls (r.map (mV G))) := by
      intro H1 locs1 hP1 hS1
      refine mSet_W (c1 := .inl (t, n, .inr (.inr (.inr (.inr (va_up f j.toNatClampNeg (some v))))))) hD rfl hL hc hs k ?_ hS1
      rw [← mCA_up] at hP1
      exact hP1
    rcases mAk_eq hak with ⟨rfl, fs, hDv⟩ | ⟨rfl, hv1, hv2⟩
    · have hv : v < 1000000 := Nat.lt_of_lt_of_le (mLt_of hDv) hlim
      rw [mAd_lt hv] at hset ⊢
      exact va_astq (tys := mTys G) (r := (mNm 0, mFT 0, mFN 0)) hx hb hE.1 hP (mW_D G D) hS i 2 v 0 (mW_at hD) rfl (mW_at hDv) (mCl_ok (by decide)) hin hd (fun H1 locs1 hP1 _ hS1 => hset H1 locs1 hP1 hS1)
    · have hO := hE.2.2.2.1 (v - 1000000) (by omega)
      have e : mAd G v = G.2.1 (v - 1000000) := by rw [mAd, if_neg (by omega)]
      obtain ⟨cell, g1, g2, g3, -⟩ := hO.1.kept hS.2.1
      obtain ⟨kC, hkC, -⟩ := Vm.findClass_spec g3
      have hAny : va_Any "java/lang/String" s H (mAd G v) := by
        rw [e]
        exact ⟨cell, g1, g2, ⟨kC, hkC⟩, fun comp hcomp => by rw [Option.some.inj (hcomp.symm.trans g3)]; exact va_asg _ _⟩
      exact va_astqM (tys := mTys G) hx hb hE.1 hP (mW_D G D) hS i 4 (mW_at hD) rfl hAny hin hd (fun H1 locs1 hP1 _ hS1 => hset H1 locs1 hP1 hS1)
  · cases h
theorem r_arraylength {X : mSc} (hG : G.2.2.2.2 = X) (C : mCx p R s m args meth c G row d0) (hlim : D.length ≤ 1000000) (hd : decode row.2.2.1 pc = .ok (.arraylength, 1))
    (h : (match st with
    | .ref i :: r => (mLen X D i).bind fun n => mNx (pc + 1) L (.int n :: r) D
    | _ => none) = some (.inl q)) (k : mK p l e R s m args below meth c Q G row.2.2.2.1 d0 s0 q.1 q.2.1 q.2.2.1 q.2.2.2) : mK p l e R s m args below meth c Q G row.2.2.2.1 d0 s0 pc L st D := by
  intro ls H locs cells slots hL hP hS hc hs
  obtain ⟨hx, hb, hml, hown, hts, hE, -, -, -, -⟩ := C
  split at h
  · rename_i i r
    obtain ⟨n, h1, h2⟩ := mBind_eq h
    obtain rfl := mNx_eq h2
    have k1 := k ls H locs cells slots hL hP hS hc hs
    show W p l e R s m args below meth c H locs cells slots Q (F0 m pc ls (.ref (mAd G i) :: r.map (mV G)))
    unfold mLen at h1
    split at h1
    · rename_i t a hD
      obtain ⟨h3, h4⟩ := mCond_eq h1
      have h3 := Nat.le_of_ble_eq_true h3
      rw [mAd_lt (Nat.lt_of_lt_of_le (mLt_of hD) hlim)]
      obtain ⟨ty, hty⟩ := mTys_at G t h3
      refine va_alen (tys := mTys G) hx hb hE.1 hP i t (mW_at hD) hty ?_ hd k1
      rw [← Option.some.inj h4]
      obtain ⟨n9, f | f | f | f | f⟩ := a <;> rfl
    · cases h1
    · obtain ⟨qq, hq1, hq2⟩ := Option.map_eq_some_iff.mp h1
      exact va_tlen hx hb (mRo_T hG hE hq1) hS hq2 hd k1
  · cases h
end MAR
