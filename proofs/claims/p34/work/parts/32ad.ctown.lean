section CA
variable {X : mSc} {Q : Option Value → mHp → Prop} {M : mM} {b : Nat}
theorem Tw.row (hb : b = 1 ∨ b = 18 ∨ b = 35) {j x : Nat} {v : Int32} (h1 : 1 ≤ j) (h2 : j ≤ 16) (hv : okx (if j = 2 then 3 else if j = 6 ∨ j = 7 ∨ j = 16 then 2 else 0) v) : Tw b M (mput M (b + j) x v) :=
  Tw.put (by rw [kdT hb h1 h2]; exact hv) (by omega) (by omega) (fun h => by omega)
theorem Tw.fld (hb : b = 1 ∨ b = 18 ∨ b = 35) {x : Nat} {v : Int32} (h1 : x ≠ 3) (h2 : x ≠ 4) : Tw b M (mput M b x v) :=
  Tw.put (by rw [kdO hb, if_neg (by omega)]; trivial) (by omega) (by omega) (fun _ => ⟨h1, h2⟩)
def Ck (M M' : mM) : Prop := Wf M' ∧ ∀ a, 66 ≤ a → M' a = M a
theorem Tw.ck {M' : mM} (h : Tw b M M') (hW : Wf M) : Ck M M' := ⟨h.1 hW, fun a ha => h.2.1 a (Or.inl ha)⟩
theorem Ck.rf (hW : Wf M) : Ck M M := ⟨hW, fun _ _ => rfl⟩
/-- what is only asked changes but the trial and the findings -/
def Cq (M M' : mM) : Prop := Wf M' ∧ ∀ a, (66 ≤ a ∨ (a ≠ 55 ∧ a ≠ 56 ∧ a ≠ 57 ∧ (a < 35 ∨ 51 < a))) → M' a = M a
theorem Cq.rf (hW : Wf M) : Cq M M := ⟨hW, fun _ _ => rfl⟩
theorem Cq.k {M' : mM} (h : Cq M M') : Ck M M' := ⟨h.1, fun a ha => h.2 a (Or.inl ha)⟩
theorem Tw.cq {M' : mM} (h : Tw 35 M M') (hW : Wf M) : Cq M M' := ⟨h.1 hW, fun a ha => h.2.1 a (by omega)⟩
theorem t10 (hb : b = 1 ∨ b = 18 ∨ b = 35) {v : Int32} : mT X 10 [.ref b, .int v] (con M) (some (.int (bI (nI 0 ≤ v ∧ v ≤ M b 3 - nI 1)))) (con M) := by
  refine mT.of (row := _) rfl (Nat.le_of_ble_eq_true rfl) ?_
  have hm : mMet 10 = some _ := rfl
  refine x_iload_n hm rfl rfl ?_
  refine x_iconst hm rfl (v := nI 0) (by decide) ?_
  refine x_aload_n hm rfl rfl ?_
  refine x_getf hm rfl (gI (tO hb) rfl) ?_
  refine x_iconst hm rfl (v := nI 1) (by decide) ?_
  refine x_isub hm rfl ?_
  refine x_callS hm rfl rfl (t6) ?_
  refine x_iret hm rfl rfl (by first | rfl | exact bI_nar | decide) ?_
  exact qt rfl
theorem t19 (hb : b = 1 ∨ b = 18 ∨ b = 35) {v : Int32} : mT X 19 [.ref b, .int v] (con M) (some (.int (bI (nI 0 ≤ v ∧ v ≤ M b 4 - nI 1)))) (con M) := by
  refine mT.of (row := _) rfl (Nat.le_of_ble_eq_true rfl) ?_
  have hm : mMet 19 = some _ := rfl
  refine x_iload_n hm rfl rfl ?_
  refine x_iconst hm rfl (v := nI 0) (by decide) ?_
  refine x_aload_n hm rfl rfl ?_
  refine x_getf hm rfl (gI (tO hb) rfl) ?_
  refine x_iconst hm rfl (v := nI 1) (by decide) ?_
  refine x_isub hm rfl ?_
  refine x_callS hm rfl rfl (t6) ?_
  refine x_iret hm rfl rfl (by first | rfl | exact bI_nar | decide) ?_
  exact qt rfl
end CA
