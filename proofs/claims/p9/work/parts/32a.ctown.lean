/-! ===== the class: its towns, what only reads ===== -/
section CA
variable {X : mSc} {Q : Option Value → mHp → Prop} {M : mM} {b : Nat}
theorem tO (hb : b = 1 ∨ b = 18 ∨ b = 35) : mSp[b]? = some (5, 2, [b + 2, b + 9, b + 17, 0, 0, 0, 0, 0]) := by
  rcases hb with rfl | rfl | rfl <;> rfl
theorem tI (hb : b = 1 ∨ b = 18 ∨ b = 35) : mSp[b + 1]? = some (3, 6, [b + 2, b + 3, b + 4, b + 5, b + 6, b + 7]) := by
  rcases hb with rfl | rfl | rfl <;> rfl
theorem tF (hb : b = 1 ∨ b = 18 ∨ b = 35) : mSp[b + 8]? = some (3, 7, [b + 9, b + 10, b + 11, b + 12, b + 13, b + 14, b + 15]) := by
  rcases hb with rfl | rfl | rfl <;> rfl
theorem tSp (hb : b = 1 ∨ b = 18 ∨ b = 35) : mSp[b + 16]? = some (0, 10, []) := by
  rcases hb with rfl | rfl | rfl <;> rfl
theorem tRow_ck : ∀ j, j < 16 → ((2 ≤ j ∧ j ≤ 7) ∨ (9 ≤ j ∧ j ≤ 15)) → mSp[1 + j]? = some (0, 8, []) ∧ mSp[18 + j]? = some (0, 8, []) ∧ mSp[35 + j]? = some (0, 8, []) := by
  intro j _ hj
  rcases (by omega : j = 2 ∨ j = 3 ∨ j = 4 ∨ j = 5 ∨ j = 6 ∨ j = 7 ∨ j = 9 ∨ j = 10 ∨ j = 11 ∨ j = 12 ∨ j = 13 ∨ j = 14 ∨ j = 15) with rfl | rfl | rfl | rfl | rfl | rfl | rfl | rfl | rfl | rfl | rfl | rfl | rfl <;> exact ⟨rfl, rfl, rfl⟩
theorem mCallT {ins : Instr} {len j kd a n pc : Nat} {z : Int} {L : mLoc} {st as r : List Value} {rw2 : mRow} (hb : b = 1 ∨ b = 18 ∨ b = 35) (hk : kd = 10 ∨ kd = 11) (h1 : (st.take n).reverse = .ref b :: as) (h2 : st.drop n = r) (h3 : (Nat.ble n st.length && mC1 (st.take n) && Nat.ble (mWt (st.drop n)) 8) = true) (h4 : mMet a = some rw2) (h5 : rw2.1 = 2) :
    mCall (ins, len, j, kd, a, n, z) true pc L st (con M) = some (.inr (.inr (a, .ref b :: as, r))) := by
  have hr : mRcv (con M) (st.take n).reverse a = true := by
    have hD := con_obj (M := M) (tO hb)
    unfold mRcv
    rw [h1]
    dsimp only
    rw [hD, h4]
    dsimp only
    rw [h5]
    rfl
  have key : cond (Nat.ble n st.length && mC1 (st.take n) && Nat.ble (mWt (st.drop n)) 8 && (!true || mRcv (con M) (st.take n).reverse a)) (some ((.inr (.inr (a, (st.take n).reverse, st.drop n))) : mRes)) none = some (.inr (.inr (a, .ref b :: as, r))) := by
    rw [h3, hr, h1, h2]
    rfl
  rcases hk with rfl | rfl <;> exact key
theorem tRow (hb : b = 1 ∨ b = 18 ∨ b = 35) {j : Nat} (hj : (2 ≤ j ∧ j ≤ 7) ∨ (9 ≤ j ∧ j ≤ 15)) : mSp[b + j]? = some (0, 8, []) := by
  obtain ⟨h1, h2, h3⟩ := tRow_ck j (by omega) hj
  rcases hb with rfl | rfl | rfl
  · exact h1
  · exact h2
  · exact h3
theorem tRowI (hb : b = 1 ∨ b = 18 ∨ b = 35) {k : Nat} (hk : k < 6) : mSp[b + 2 + k]? = some (0, 8, []) := by
  rw [Nat.add_assoc]
  exact tRow hb (by omega)
theorem tRowF (hb : b = 1 ∨ b = 18 ∨ b = 35) {k : Nat} (hk : k < 7) : mSp[b + 9 + k]? = some (0, 8, []) := by
  rw [Nat.add_assoc]
  exact tRow hb (by omega)
theorem tIk {k : Nat} (hk : k < 6) : ([b + 2, b + 3, b + 4, b + 5, b + 6, b + 7] : List Nat)[k]? = some (b + 2 + k) := by
  rcases (by omega : k = 0 ∨ k = 1 ∨ k = 2 ∨ k = 3 ∨ k = 4 ∨ k = 5) with rfl | rfl | rfl | rfl | rfl | rfl <;> rfl
theorem tFk {k : Nat} (hk : k < 7) : ([b + 9, b + 10, b + 11, b + 12, b + 13, b + 14, b + 15] : List Nat)[k]? = some (b + 9 + k) := by
  rcases (by omega : k = 0 ∨ k = 1 ∨ k = 2 ∨ k = 3 ∨ k = 4 ∨ k = 5 ∨ k = 6) with rfl | rfl | rfl | rfl | rfl | rfl | rfl <;> rfl
theorem kdT (hb : b = 1 ∨ b = 18 ∨ b = 35) {j x : Nat} (h1 : 1 ≤ j) (h2 : j ≤ 16) : kd (b + j) x = if j = 2 then 3 else if j = 6 ∨ j = 7 ∨ j = 16 then 2 else 0 := by
  rcases hb with rfl | rfl | rfl <;> (unfold kd; repeat' split) <;> omega
theorem kdO (hb : b = 1 ∨ b = 18 ∨ b = 35) {x : Nat} : kd b x = if x = 3 ∨ x = 4 then 1 else 0 := by
  rcases hb with rfl | rfl | rfl <;> (unfold kd; repeat' split) <;> omega
theorem Wf.ct (hW : Wf M) (hb : b = 1 ∨ b = 18 ∨ b = 35) : ∃ n, n ≤ 8 ∧ M b 3 = nI n := by
  have := hW b 3
  rw [kdO hb] at this
  exact ok1 this
theorem Wf.cpn (hW : Wf M) (hb : b = 1 ∨ b = 18 ∨ b = 35) : ∃ n, n ≤ 8 ∧ M b 4 = nI n := by
  have := hW b 4
  rw [kdO hb] at this
  exact ok1 this
theorem Wf.csort (hW : Wf M) (hb : b = 1 ∨ b = 18 ∨ b = 35) (t : Nat) : ∃ k, k ≤ 3 ∧ M (b + 2) t = nI k := by
  have := hW (b + 2) t
  rw [kdT hb (by decide) (by decide)] at this
  exact ok3 this
theorem Wf.cown (hW : Wf M) (hb : b = 1 ∨ b = 18 ∨ b = 35) (t : Nat) : okx 2 (M (b + 6) t) := by
  have := hW (b + 6) t
  rw [kdT hb (by decide) (by decide)] at this
  exact this
theorem Wf.chang (hW : Wf M) (hb : b = 1 ∨ b = 18 ∨ b = 35) (t : Nat) : okx 2 (M (b + 7) t) := by
  have := hW (b + 7) t
  rw [kdT hb (by decide) (by decide)] at this
  exact this
/-- counts of the towns, and all of the reference, stay -/
def Tw (b : Nat) (M M' : mM) : Prop := (Wf M → Wf M') ∧ (∀ a, (66 ≤ a ∨ (b = 35 ∧ a ≠ 55 ∧ a ≠ 56 ∧ a ≠ 57 ∧ (a < 35 ∨ 51 < a))) → M' a = M a) ∧ (∀ c, (c = 1 ∨ c = 18 ∨ c = 35) → M' c 3 = M c 3 ∧ M' c 4 = M c 4)
theorem Tw.rf : Tw b M M := ⟨fun h => h, fun _ _ => rfl, fun _ _ => ⟨rfl, rfl⟩⟩
theorem Tw.trans {M1 M2 : mM} (h : Tw b M M1) (g : Tw b M1 M2) : Tw b M M2 := ⟨fun w => g.1 (h.1 w), fun a ha => (g.2.1 a ha).trans (h.2.1 a ha), fun c hc => ⟨(g.2.2 c hc).1.trans (h.2.2 c hc).1, (g.2.2 c hc).2.trans (h.2.2 c hc).2⟩⟩
theorem Tw.put {a c : Nat} {v : Int32} (hv : okx (kd a c) v) (ha : a < 66) (hx : b = 35 → 35 ≤ a ∧ a ≤ 51) (hc : (a = 1 ∨ a = 18 ∨ a = 35) → c ≠ 3 ∧ c ≠ 4) : Tw b M (mput M a c v) := by
  refine ⟨fun h => h.put hv, fun i hi => mpo (by omega), fun d hd => ?_⟩
  unfold mput
  constructor
  · rw [if_neg]
    rintro ⟨e1, e2⟩
    subst e1
    exact (hc hd).1 e2.symm
  · rw [if_neg]
    rintro ⟨e1, e2⟩
    subst e1
    exact (hc hd).2 e2.symm
theorem Tw.row (hb : b = 1 ∨ b = 18 ∨ b = 35) {j x : Nat} {v : Int32} (h1 : 1 ≤ j) (h2 : j ≤ 16) (hv : okx (if j = 2 then 3 else if j = 6 ∨ j = 7 ∨ j = 16 then 2 else 0) v) : Tw b M (mput M (b + j) x v) :=
  Tw.put (by rw [kdT hb h1 h2]; exact hv) (by omega) (by omega) (fun h => by omega)
theorem Tw.fld (hb : b = 1 ∨ b = 18 ∨ b = 35) {x : Nat} {v : Int32} (h1 : x ≠ 3) (h2 : x ≠ 4) : Tw b M (mput M b x v) :=
  Tw.put (by rw [kdO hb, if_neg (by omega)]; trivial) (by omega) (by omega) (fun _ => ⟨h1, h2⟩)
def Ck (M M' : mM) : Prop := Wf M' ∧ ∀ a, 66 ≤ a → M' a = M a
theorem Tw.ck {M' : mM} (h : Tw b M M') (hW : Wf M) : Ck M M' := ⟨h.1 hW, fun a ha => h.2.1 a (Or.inl ha)⟩
theorem Ck.rf (hW : Wf M) : Ck M M := ⟨hW, fun _ _ => rfl⟩
/-- what is only asked changes but the trial and the findings -/
def Cq (M M' : mM) : Prop := Wf M' ∧ ∀ a, (66 ≤ a ∨ (a ≠ 55 ∧ a ≠ 56 ∧ a ≠ 57 ∧ (a < 35 ∨ 51 < a))) → M' a = M a
theorem Cq.rf (hW : Wf M) : Cq M M := ⟨hW, fun _ _ => rfl⟩
theorem Cq.k {M' : mM} (h : Cq M M') : Ck M M' := ⟨h.1, fun a ha => h.2 a (Or.inl ha)⟩
theorem Tw.cq {M' : mM} (h : Tw 35 M M') (hW : Wf M) : Cq M M' := ⟨h.1 hW, fun a ha => h.2.1 a (by omega)⟩
theorem t10 (hb : b = 1 ∨ b = 18 ∨ b = 35) {v : Int32} : mT X 10 [.ref b, .int v] (con M) (some (.int (bI (nI 0 ≤ v ∧ v ≤ M b 3 - nI 1)))) (con M) := by
  refine mT.of (row := _) rfl (Nat.le_of_ble_eq_true rfl) ?_
  have hm : mMet 10 = some _ := rfl
  refine x_iload_n hm rfl rfl ?_
  refine x_iconst hm rfl (v := nI 0) (by decide) ?_
  refine x_aload_n hm rfl rfl ?_
  refine x_getf hm rfl (gI (tO hb) rfl) ?_
  refine x_iconst hm rfl (v := nI 1) (by decide) ?_
  refine x_isub hm rfl ?_
  refine x_callS hm rfl rfl (t6) ?_
  refine x_iret hm rfl rfl (by first | rfl | exact bI_nar | decide) ?_
  exact qt rfl
theorem t19 (hb : b = 1 ∨ b = 18 ∨ b = 35) {v : Int32} : mT X 19 [.ref b, .int v] (con M) (some (.int (bI (nI 0 ≤ v ∧ v ≤ M b 4 - nI 1)))) (con M) := by
  refine mT.of (row := _) rfl (Nat.le_of_ble_eq_true rfl) ?_
  have hm : mMet 19 = some _ := rfl
  refine x_iload_n hm rfl rfl ?_
  refine x_iconst hm rfl (v := nI 0) (by decide) ?_
  refine x_aload_n hm rfl rfl ?_
  refine x_getf hm rfl (gI (tO hb) rfl) ?_
  refine x_iconst hm rfl (v := nI 1) (by decide) ?_
  refine x_isub hm rfl ?_
  refine x_callS hm rfl rfl (t6) ?_
  refine x_iret hm rfl rfl (by first | rfl | exact bI_nar | decide) ?_
  exact qt rfl
theorem t32 (hb : b = 1 ∨ b = 18 ∨ b = 35) {t : Nat} (ht : t < 8) : mT X 32 [.ref b, .int (nI t)] (con M) (some (.int (bI (M (b + 4) t = 0)))) (con M) := by
  refine mT.of (row := _) rfl (Nat.le_of_ble_eq_true rfl) ?_
  have hm : mMet 32 = some _ := rfl
  refine x_aload_n hm rfl rfl ?_
  refine x_getf hm rfl (gR (tO hb) rfl) ?_
  refine x_iconst hm rfl (v := nI 2) (by decide) ?_
  refine x_aald hm rfl (by first | exact lQ 3 (Or.inr (Or.inl rfl)) (tI hb) rfl (by omega) (by decide) | exact lQ 3 (Or.inr (Or.inl rfl)) (tF hb) rfl (by omega) (by decide) | exact lQ 3 (Or.inr (Or.inl rfl)) (tI hb) (tIk (by omega)) (by omega) (by decide) | exact lQ 3 (Or.inr (Or.inl rfl)) (tF hb) (tFk (by omega)) (by omega) (by decide)) ?_
  refine x_iload_n hm rfl rfl ?_
  refine x_iald hm rfl (by first | exact lI (tRow hb (by omega)) (by omega) (by decide) | exact lI (tRowI hb (by omega)) (by omega) (by decide) | exact lI (tRowF hb (by omega)) (by omega) (by decide) | exact lI (tSp hb) (by omega) (by decide) | exact lI rfl (by omega) (by decide)) ?_
  refine x_if_ne hm rfl (t := 15) rfl (fun h1 => ?_) (fun h1 => ?_)
  · refine x_iconst hm rfl (v := nI 0) (by decide) ?_
    refine x_iret hm rfl rfl (by first | rfl | exact bI_nar | decide) ?_
    exact qt (congrArg Value.int (by first | exact bI_t h1 | exact bI_f h1))
  · refine x_iconst hm rfl (v := nI 1) (by decide) ?_
    refine x_goto hm rfl (t := 16) rfl ?_
    refine x_iret hm rfl rfl (by first | rfl | exact bI_nar | decide) ?_
    exact qt (congrArg Value.int (by first | exact bI_t h1 | exact bI_f h1))
end CA
