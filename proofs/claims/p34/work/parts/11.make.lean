/-! ===== new cells, and what the machine itself does at a call ===== -/
theorem mVr_outer (c : ClassId) (N h0 : Nat) : ∀ i : Nat, Jvm.Free.Multi.outerC c N h0 i = arrV c N (fun j => va_rf (if j < i then some (h0 + 1 + j) else none))
  | 0 => by
    show ({ cls := c, slots := Array.replicate N .null, vm := .none } : Cell) = _
    rw [arrV_new]
    refine congrArg (arrV c N) (funext fun j => ?_)
    simp [va_rf]
  | i + 1 => by
    show (Jvm.Free.Multi.outerC c N h0 i).setSlot i (.ref (h0 + 1 + i)) = _
    rw [mVr_outer c N h0 i, arrV_store]
    refine congrArg (arrV c N) (funext fun j => ?_)
    by_cases e : j = i
    · subst e
      simp [updV, va_rf]
    · by_cases h : j < i
      · simp [updV, e, h, Nat.lt_succ_of_lt h]
      · simp [updV, e, h, show ¬ j < i + 1 by omega]
theorem mAC_i : Cond.arrayClass .int ∈ mGW := mTb_gw (by decide +kernel) rfl
theorem mAC_b : Cond.arrayClass .byte ∈ mGW := mTb_gw (by decide +kernel) rfl
theorem mOI_i : Cond.instanceMethod Lib.objectInit ∈ mGW := mTb_gw (by decide +kernel) (by decide +kernel)
theorem mOI_c : Cond.code Lib.objectInit ⟨#[0xb1]⟩ 1 none ∈ mGW := mTb_gw (by decide +kernel) (by decide +kernel)
theorem mCP_n : Cond.native arraycopyName ∈ mGW := mTb_gw (by decide +kernel) (by decide +kernel)
theorem mCP_s : Cond.static arraycopyName ∈ mGW := mTb_gw (by decide +kernel) (by decide +kernel)
theorem mCP_i : Cond.initialized "java/lang/System" ∈ mGW := mTb_gw (by decide +kernel) (by decide +kernel)
theorem mMM_i : Cond.initialized "java/lang/Math" ∈ mGW := mTb_gw (by decide +kernel) (by decide +kernel)
theorem mMX_s : Cond.static Lib.Math.max.name ∈ mGW := mTb_gw (by decide +kernel) (by decide +kernel)
theorem mMX_c : Cond.code Lib.Math.max.name Lib.Math.max.code 2 (some .int) ∈ mGW := mTb_gw (by decide +kernel) (by decide +kernel)
theorem mMN_s : Cond.static Lib.Math.min.name ∈ mGW := mTb_gw (by decide +kernel) (by decide +kernel)
theorem mMN_c : Cond.code Lib.Math.min.name Lib.Math.min.code 2 (some .int) ∈ mGW := mTb_gw (by decide +kernel) (by decide +kernel)
theorem mNW_w : nativeFrameWords "java/lang/System" "arraycopy" 5 ≤ 11 := by decide +kernel
section MMK
variable {p : Program} {l : Launch} {e : Env} {R : Room} {s : State} {m : MethodId} {args : Array Value} {below : List Frame} {meth : Method} {c : Code} {Q : State → Prop} {G : mG} {row : mRow} {d0 s0 : Nat} {pc : Nat} {L : mLoc} {st : List Value} {D : mHp} {q : Nat × mLoc × List Value × mHp} {j a b : Nat} {z : Int} {idx : Nat} {H H1 : Heap} {locs : List Loc} {cells slots : Nat}
theorem mSized {g : JFrame} (hz : s.heap.size = G.1 + d0) (hP : mMS G D H) (hS : va_S (mA G) s.heap H locs) (hc : cells + d0 = D.length) (k : H.size = G.1 + D.length → W p l e R s m args below meth c H locs cells slots Q g) : W p l e R s m args below meth c H locs cells slots Q g := by
  intro T hT X
  have h1 := X.heapSize
  rw [hT] at h1
  have h2 := hP.low (by have := hS.1; omega)
  exact k (by omega) T hT X
theorem mPushL {E : mHp} (hP : mMS G D H) (hz : H.size = G.1 + D.length) (o1 : ∀ q : Nat, q < H.size → H1[q]? = H[q]?) (hE : ∀ (k : Nat) (c : va_E), E[k]? = some c → va_at G.2.2.1 vwCl (H.size + k, mCE G c) H1) : mMS G (D ++ E) H1 := by
  show va_P G.2.2.1 vwCl (mW G 0 (D ++ E)) H1
  rw [mW_app]
  refine (hP.kept (fun k x hx => o1 x.1 ((hP k x hx).lt))).app (fun k x hx => ?_)
  rw [mW_get] at hx
  obtain ⟨c, hc, rfl⟩ := Option.map_eq_some_iff.mp hx
  have := hE k c hc
  rwa [hz, show G.1 + D.length + k = G.1 + (0 + D.length + k) by omega] at this
theorem mPushS (hS : va_S (mA G) s.heap H locs) (z1 : H.size ≤ H1.size) (o1 : ∀ q : Nat, q < H.size → H1[q]? = H[q]?) : va_S (mA G) s.heap H1 locs :=
  ⟨Nat.le_trans hS.1 z1, fun x h1 h2 => (o1 x (Nat.lt_of_lt_of_le h1 hS.1)).trans (hS.2.1 x h1 h2), hS.2.2⟩
theorem mAt1 {x : va_E} (h : va_at G.2.2.1 vwCl (H.size, mCE G x) H1) : ∀ (k : Nat) (c : va_E), ([x] : mHp)[k]? = some c → va_at G.2.2.1 vwCl (H.size + k, mCE G c) H1 := by
  intro k c hk
  cases k with
  | zero => simp only [List.getElem?_cons_zero, Option.some.injEq] at hk; subst hk; exact h
  | succ k => simp at hk
theorem r_new (C : mCx p R s m args meth c G row d0) (hlim : D.length + 1 ≤ 1000000) (hrc : D.length + 1 ≤ R.cells + d0) (hrs : mSl (D ++ [.inr (a, mDf a)]) ≤ R.slots + s0) {kind : Nat} (hk : Nat.beq kind 4 = true) (hL0 : mLT[j]? = some (row.1, idx, kind, a, b, z)) (hd : decode row.2.2.1 pc = .ok (.new idx, 3))
    (h : mNx (pc + 3) L (.ref D.length :: st) (D ++ [.inr (a, mDf a)]) = some (.inl q)) (k : mK p l e R s m args below meth c Q G row.2.2.2.1 d0 s0 q.1 q.2.1 q.2.2.1 q.2.2.2) : mK p l e R s m args below meth c Q G row.2.2.2.1 d0 s0 pc L st D := by
  intro ls H locs cells slots hL hP hS hc hs
  obtain ⟨hx, hb, hml, hown, hts, hE, -, hz, -, -⟩ := C
  obtain rfl := mNx_eq h
  obtain ⟨hw, hck⟩ := mLT_at hL0
  have hk := Nat.eq_of_beq_eq_true hk
  subst hk
  simp only [mLck, Bool.and_eq_true] at hck
  obtain ⟨hg, ha⟩ := hck
  have ha := Nat.blt_eq.mp ha
  refine mSized hz hP hS hc fun hH => ?_
  have hKn := hE.1.1 a _ (mCl_ok ha)
  rw [mSl_app] at hrs
  have hsz : mSl ([.inr (a, mDf a)] : mHp) = mFN a := by
    show (mDf a).length + 0 = _
    rw [(mDf_ok ha).1]; rfl
  refine W.newcK (own := mNm row.1) (C := mNm a) (n := mFN a) hx hb hown (hts _ (mTb_gw hw hg)) (hts _ (mNI_in ha).1) (hts _ (mNI_in ha).2) rfl hd (by omega) (by omega) hKn.2.1 rfl fun H1 kC hkC e1 z1 o1 => ?_
  have hD1 : mMS G (D ++ [.inr (a, mDf a)]) H1 := mPushL hP hH o1 (mAt1 ⟨_, mCl_ok ha, (u_born (mFy a) hts (mU_in ha) hKn hkC e1 (mTy_ok ha)).to (fun k hk => by
    show _ = vp_V ((mDf a).map (mV G)) k
    rw [mDf_mV ha]
    exact (mDf_ok ha).2 k hk)⟩)
  have k1 := k ls H1 locs (cells + 1) (slots + mFN a) hL hD1 (mPushS hS (by omega) o1) (by simp; omega) (by rw [mSl_app, hsz]; omega)
  simp only [List.map_cons, mV_ref, mAd_lt (G := G) (i := D.length) (by omega)] at k1
  rw [hH]
  exact k1
theorem r_newa {t : Nat} {at_ : ArrayType} (hta : (t = 0 ∧ at_ = .int) ∨ (t = 1 ∧ at_ = .byte)) (C : mCx p R s m args meth c G row d0) (hlim : q.2.2.2.length ≤ 1000000) (hrc : q.2.2.2.length ≤ R.cells + d0) (hrs : mSl q.2.2.2 ≤ R.slots + s0) (hd : decode row.2.2.1 pc = .ok (.newarray at_, 2))
    (h : (match st with
    | .int n :: r => if n < 0 ∨ 1000 < n.toNatClampNeg then none else mNx (pc + 2) L (.ref D.length :: r) (D ++ [.inl (t, n.toNatClampNeg, .inl (fun _ => 0))])
    | _ => none) = some (.inl q)) (k : mK p l e R s m args below meth c Q G row.2.2.2.1 d0 s0 q.1 q.2.1 q.2.2.1 q.2.2.2) : mK p l e R s m args below meth c Q G row.2.2.2.1 d0 s0 pc L st D := by
  intro ls H locs cells slots hL hP hS hc hs
  obtain ⟨hx, hb, hml, hown, hts, hE, -, hz, -, -⟩ := C
  split at h
  · rename_i n r
    split at h
    · cases h
    · rename_i hn
      obtain rfl := mNx_eq h
      have hn0 : ¬ n < 0 := fun w => hn (Or.inl w)
      have hn1 : n.toNatClampNeg ≤ 1000 := Nat.le_of_not_lt fun w => hn (Or.inr w)
      simp only [List.length_append, List.length_singleton, mSl_app] at hlim hrc hrs
      have hsz : mSl ([.inl (t, n.toNatClampNeg, .inl (fun _ => 0))] : mHp) = n.toNatClampNeg := rfl
      refine mSized hz hP hS hc fun hH => ?_
      rcases hta with ⟨rfl, rfl⟩ | ⟨rfl, rfl⟩
      · refine va_newaK (atype := .int) hx hb (hts _ mAC_i) rfl hd rfl hn0 rfl (by show n.toNatClampNeg * 4 ≤ _; omega) (by omega) (by omega) rfl fun H1 cA e1 z1 o1 hAr hNm => ?_
        have hcA : cA = G.2.2.2.1 0 := Option.some.inj (hNm.symm.trans (hE.1.2 0 _ rfl).2)
        subst hcA
        have hD1 := mPushL (E := [.inl (0, n.toNatClampNeg, .inl (fun _ => 0))]) hP hH o1 (mAt1 e1)
        have k1 := k ls H1 locs (cells + 1) (slots + n.toNatClampNeg) hL hD1 (mPushS hS (by omega) o1) (by simp; omega) (by rw [mSl_app, hsz]; omega)
        simp only [List.map_cons, mV_ref, mAd_lt (G := G) (i := D.length) (by omega)] at k1
        rw [hH]
        exact k1
      · refine va_newaK (atype := .byte) hx hb (hts _ mAC_b) rfl hd rfl hn0 rfl (by show n.toNatClampNeg * 1 ≤ _; omega) (by omega) (by omega) rfl fun H1 cA e1 z1 o1 hAr hNm => ?_
        have hcA : cA = G.2.2.2.1 1 := Option.some.inj (hNm.symm.trans (hE.1.2 1 _ rfl).2)
        subst hcA
        have hD1 := mPushL (E := [.inl (1, n.toNatClampNeg, .inl (fun _ => 0))]) hP hH o1 (mAt1 e1)
        have k1 := k ls H1 locs (cells + 1) (slots + n.toNatClampNeg) hL hD1 (mPushS hS (by omega) o1) (by simp; omega) (by rw [mSl_app, hsz]; omega)
        simp only [List.map_cons, mV_ref, mAd_lt (G := G) (i := D.length) (by omega)] at k1
        rw [hH]
        exact k1
  · cases h
theorem r_anewa (C : mCx p R s m args meth c G row d0) (hlim : q.2.2.2.length ≤ 1000000) (hrc : q.2.2.2.length ≤ R.cells + d0) (hrs : mSl q.2.2.2 ≤ R.slots + s0) {kind : Nat} (hk : Nat.beq kind 5 = true) (hL0 : mLT[j]? = some (row.1, idx, kind, a, b, z)) (hd : decode row.2.2.1 pc = .ok (.anewarray idx, 3))
    (h : (match st with
    | .int n :: r => if n < 0 ∨ 1000 < n.toNatClampNeg then none else mNx (pc + 3) L (.ref D.length :: r) (D ++ [.inl (a, n.toNatClampNeg, .inr (.inr (.inr (.inr (fun _ => none)))))])
    | _ => none) = some (.inl q)) (k : mK p l e R s m args below meth c Q G row.2.2.2.1 d0 s0 q.1 q.2.1 q.2.2.1 q.2.2.2) : mK p l e R s m args below meth c Q G row.2.2.2.1 d0 s0 pc L st D := by
  intro ls H locs cells slots hL hP hS hc hs
  obtain ⟨hx, hb, hml, hown, hts, hE, -, hz, -, -⟩ := C
  obtain ⟨hw, hck⟩ := mLT_at hL0
  have hk := Nat.eq_of_beq_eq_true hk
  subst hk
  simp only [mLck, Bool.and_eq_true, Bool.or_eq_true] at hck
  obtain ⟨hg, ha⟩ := hck
  split at h
  · rename_i n r
    split at h
    · cases h
    · rename_i hn
      obtain rfl := mNx_eq h
      have hn0 : ¬ n < 0 := fun w => hn (Or.inl w)
      have hn1 : n.toNatClampNeg ≤ 1000 := Nat.le_of_not_lt fun w => hn (Or.inr w)
      simp only [List.length_append, List.length_singleton, mSl_app] at hlim hrc hrs
      have hsz : mSl ([.inl (a, n.toNatClampNeg, .inr (.inr (.inr (.inr (fun _ => none)))))] : mHp) = n.toNatClampNeg := rfl
      refine mSized hz hP hS hc fun hH => ?_
      have key : ∀ (Cn : String), mCo a = Cn → va_AO Cn s → (mTys G)[a]? = some (G.2.2.2.1 a, .object Cn) → W p l e R s m args below meth c H locs cells slots Q (F0 m pc ls (.int n :: r.map (mV G))) := by
        intro Cn hCn hAO hTy
        have hcl : (Cond.classLink (mNm row.1) idx Cn).before args s = true := by
          have := hts _ (mTb_gw hw hg)
          rw [← hCn]
          exact this
        refine W.anew (own := mNm row.1) (C := Cn) hx hb hown hcl (va_AO.use hAO) rfl hd rfl hn0 (by omega) (by omega) (by omega) fun cA kA comp f1 f2 f3 f4 => ?_
        generalize hH1 : H.push ({ cls := cA, slots := Array.replicate n.toNatClampNeg .null, vm := .none } : Cell) = H1
        have z1 : H1.size = H.size + 1 := by rw [← hH1, Array.size_push]
        have e1 : H1[H.size]? = some (arrV cA n.toNatClampNeg (fun _ => .null)) := by rw [← hH1, Array.getElem?_push_size, ← arrV_new]
        have o1 : ∀ q : Nat, q < H.size → H1[q]? = H[q]? := fun q hq => by rw [← hH1, Array.getElem?_push, if_neg (Nat.ne_of_lt hq)]
        obtain ⟨-, -, -, -, -, hRA⟩ := (hE.1.2 a _ hTy).2
        have hcA : cA = G.2.2.2.1 a := Option.some.inj (f1.symm.trans hRA)
        subst hcA
        have hD1 := mPushL (E := [.inl (a, n.toNatClampNeg, .inr (.inr (.inr (.inr (fun _ => none)))))]) hP hH o1 (mAt1 e1)
        have k1 := k ls H1 locs (cells + 1) (slots + n.toNatClampNeg) hL hD1 (mPushS hS (by omega) o1) (by simp; omega) (by rw [mSl_app, hsz]; omega)
        simp only [List.map_cons, mV_ref, mAd_lt (G := G) (i := D.length) (by omega)] at k1
        rw [hH]
        exact k1
      rcases ha with ha | ha
      · have ha := Nat.eq_of_beq_eq_true ha
        subst ha
        exact key "EnvyRust$Sheet" rfl hE.2.2.1.1 rfl
      · have ha := Nat.eq_of_beq_eq_true ha
        subst ha
        exact key "java/lang/String" rfl hE.2.2.1.2.1 rfl
  · cases h
theorem mStr_ai : (FieldType.array FieldType.int).toString = "[" ++ FieldType.int.toString := by decide +kernel
theorem mStr_aai : "[[I" = "[" ++ (FieldType.array FieldType.int).toString := by decide +kernel
theorem r_mnewa (C : mCx p R s m args meth c G row d0) (hlim : q.2.2.2.length ≤ 1000000) (hrc : q.2.2.2.length ≤ R.cells + d0) (hrs : mSl q.2.2.2 ≤ R.slots + s0) {kind : Nat} (hk : Nat.beq kind 6 = true) (hL0 : mLT[j]? = some (row.1, idx, kind, a, b, z)) (hd : decode row.2.2.1 pc = .ok (.multianewarray idx 2, 4))
    (h : (match st with
    | .int k :: .int n :: r => if n < 0 ∨ k < 0 ∨ 1000 < n.toNatClampNeg ∨ 1000 < k.toNatClampNeg then none else mNx (pc + 4) L (.ref D.length :: r)
        (D ++ (.inl (3, n.toNatClampNeg, .inr (.inr (.inr (.inr (fun i => if i < n.toNatClampNeg then some (D.length + 1 + i) else none))))) :: List.replicate n.toNatClampNeg (.inl (0, k.toNatClampNeg, .inl (fun _ => 0)))))
    | _ => none) = some (.inl q)) (k : mK p l e R s m args below meth c Q G row.2.2.2.1 d0 s0 q.1 q.2.1 q.2.2.1 q.2.2.2) : mK p l e R s m args below meth c Q G row.2.2.2.1 d0 s0 pc L st D := by
  intro ls H locs cells slots hL hP hS hc hs
  obtain ⟨hx, hb, hml, hown, hts, hE, -, hz, -, -⟩ := C
  obtain ⟨hw, hck⟩ := mLT_at hL0
  have hk := Nat.eq_of_beq_eq_true hk
  subst hk
  split at h
  · rename_i k' n r
    split at h
    · cases h
    · rename_i hn
      obtain rfl := mNx_eq h
      have hn0 : ¬ n < 0 := fun w => hn (Or.inl w)
      have hk0 : ¬ k' < 0 := fun w => hn (Or.inr (Or.inl w))
      have hn1 : n.toNatClampNeg ≤ 1000 := Nat.le_of_not_lt fun w => hn (Or.inr (Or.inr (Or.inl w)))
      have hk1 : k'.toNatClampNeg ≤ 1000 := Nat.le_of_not_lt fun w => hn (Or.inr (Or.inr (Or.inr w)))
      have hsz : mSl ((.inl (3, n.toNatClampNeg, .inr (.inr (.inr (.inr (fun i => if i < n.toNatClampNeg then some (D.length + 1 + i) else none))))) :: List.replicate n.toNatClampNeg (.inl (0, k'.toNatClampNeg, .inl (fun _ => 0)))) : mHp) = n.toNatClampNeg + n.toNatClampNeg * k'.toNatClampNeg := by
        simp [mSl, mSz]
      simp only [List.length_append, List.length_cons, List.length_replicate, mSl_app] at hlim hrc hrs
      rw [hsz] at hrs
      refine mSized hz hP hS hc fun hH => ?_
      have hclink : (Cond.classLink (mNm row.1) idx ("[" ++ (FieldType.array FieldType.int).toString)).before args s = true := by
        have := hts _ (mTb_gw hw hck)
        rw [← mStr_aai]
        exact this
      intro T hT Xs
      obtain ⟨vm₁, cA, comp, -, fA, fC, hO, -, X', step⟩ := Xs.multianewarray2F hx hown hclink (show (Cond.arrayOver (.array .int)).before args s = true from hE.2.2.1.2.2) (hts _ mAC_i) (g := F0 m pc ls (.int k' :: .int n :: r.map (mV G))) rfl (by rw [hb]; exact hd) rfl hn0 hk0 (by omega) (by show k'.toNatClampNeg * 4 ≤ _; omega) (by omega) rfl rfl (by omega) (by omega)
      have hcA : cA = G.2.2.2.1 3 := Option.some.inj (fA.symm.trans (hE.1.2 3 _ rfl).2)
      have hcm : comp = G.2.2.2.1 0 := Option.some.inj (fC.symm.trans (by rw [mStr_ai]; exact (hE.1.2 0 _ rfl).2))
      subst hcA
      subst hcm
      generalize hF : Jvm.Free.Multi.fill (T.setVm vm₁) (G.2.2.2.1 3) (G.2.2.2.1 0) n.toNatClampNeg k'.toNatClampNeg (defaultValue FieldType.int) n.toNatClampNeg = F at X' step
      have hTh : (T.setVm vm₁).heap = H := hT
      obtain ⟨f1, f2, -, -⟩ := Jvm.Free.Multi.fill_facts (T.setVm vm₁) (G.2.2.2.1 3) (G.2.2.2.1 0) n.toNatClampNeg k'.toNatClampNeg (defaultValue FieldType.int) n.toNatClampNeg
      rw [hF, hTh] at f1 f2
      have hold : ∀ x : Nat, x < H.size → F.heap[x]? = H[x]? := fun x hx => by
        have := Jvm.Free.Multi.fill_old (T.setVm vm₁) (G.2.2.2.1 3) (G.2.2.2.1 0) n.toNatClampNeg k'.toNatClampNeg (defaultValue FieldType.int) (a := x) (by rw [hTh]; exact hx) n.toNatClampNeg
        rw [hF, hTh] at this
        exact this
      have hrow : ∀ j : Nat, j < n.toNatClampNeg → F.heap[H.size + 1 + j]? = some (vp_cell (G.2.2.2.1 0) (k'.toNatClampNeg, .inl (fun _ => 0))) := fun j hj => by
        have := Jvm.Free.Multi.fill_inner (T.setVm vm₁) (G.2.2.2.1 3) (G.2.2.2.1 0) n.toNatClampNeg k'.toNatClampNeg (defaultValue FieldType.int) n.toNatClampNeg j hj
        rw [hF, hTh] at this
        rw [this]
        show some ({ cls := _, slots := Array.replicate _ _, vm := .none } : Cell) = _
        rw [arrV_new]
        rfl
      rw [mVr_outer] at f2
      have hD1 : mMS G (D ++ (.inl (3, n.toNatClampNeg, .inr (.inr (.inr (.inr (fun i => if i < n.toNatClampNeg then some (D.length + 1 + i) else none))))) :: List.replicate n.toNatClampNeg (.inl (0, k'.toNatClampNeg, .inl (fun _ => 0))))) F.heap := by
        refine mPushL hP hH hold fun kk cc hkk => ?_
        cases kk with
        | zero =>
          simp only [List.getElem?_cons_zero, Option.some.injEq] at hkk
          subst hkk
          show F.heap[H.size]? = some (arrV (G.2.2.2.1 3) n.toNatClampNeg (fun j => va_rf ((if j < n.toNatClampNeg then some (D.length + 1 + j) else none).map (mAd G))))
          rw [f2]
          refine congrArg (fun f => some (arrV (G.2.2.2.1 3) n.toNatClampNeg f)) (funext fun j => ?_)
          by_cases hj : j < n.toNatClampNeg
          · rw [if_pos hj, if_pos hj, hH, Option.map_some, mAd_lt (by omega)]
            show Value.ref (G.1 + D.length + 1 + j) = Value.ref (G.1 + (D.length + 1 + j))
            rw [show G.1 + D.length + 1 + j = G.1 + (D.length + 1 + j) by omega]
          · rw [if_neg hj, if_neg hj]; rfl
        | succ kk =>
          simp only [List.getElem?_cons_succ] at hkk
          rw [List.getElem?_replicate] at hkk
          split at hkk
          case isFalse => cases hkk
          rename_i hlt
          cases hkk
          have := hrow kk hlt
          rw [show H.size + 1 + kk = H.size + (kk + 1) by omega] at this
          exact this
      have k1 := k ls F.heap locs (cells + 1 + n.toNatClampNeg) (slots + n.toNatClampNeg + n.toNatClampNeg * k'.toNatClampNeg) hL hD1 (mPushS hS (by rw [f1]; omega) hold) (by simp; omega) (by rw [mSl_app, hsz]; omega)
      simp only [List.map_cons, mV_ref, mAd_lt (G := G) (i := D.length) (by omega)] at k1
      obtain ⟨t, a1, b1⟩ := k1 F rfl X'
      refine ⟨t, step t ?_, b1⟩
      have e9 : T.heap.size = G.1 + D.length := by rw [hT, hH]
      rw [e9]
      exact a1
  · cases h
end MMK
