section CA
variable {X : mSc} {Q : Option Value → mHp → Prop} {M : mM} {b : Nat}
theorem t67 (hb : b = 1 ∨ b = 18 ∨ b = 35) {p : Nat} {a : Int32} (hp : p < 8) (hW : Wf M) : ∃ v, mT X 67 [.ref b, .int (nI p), .int a] (con M) (some (.int v)) (con M) ∧ True := by
  refine te_of (row := _) rfl (Nat.le_of_ble_eq_true rfl) ?_
  have hm : mMet 67 = some _ := rfl
  obtain ⟨nb, h8, hnb⟩ := hW.ct hb
  refine x_iconst hm rfl (v := nI 0) (by decide) ?_
  refine x_istore_n hm rfl rfl ?_
  refine x_iconst hm rfl (v := nI 0) (by decide) ?_
  refine x_istore hm rfl rfl ?_
  exact l67 hb hW hp hnb h8 _ 0 _ (Nat.lt_succ_self _) (Nat.zero_le _)
theorem t57 (hb : b = 1 ∨ b = 18 ∨ b = 35) {nt : Nat} (hnt : M b 3 = nI nt) (h8 : nt ≤ 8) : mT X 57 [.ref b] (con M) (some (.int (nI (2 ^ nt) - nI 1))) (con M) := by
  refine mT.of (row := _) rfl (Nat.le_of_ble_eq_true rfl) ?_
  have hm : mMet 57 = some _ := rfl
  refine x_iconst hm rfl (v := nI 1) (by decide) ?_
  refine x_aload_n hm rfl rfl ?_
  refine x_getf hm rfl (gI (tO hb) rfl) ?_
  rw [hnt]
  refine x_ishl hm rfl ?_
  rw [shl_k nt h8]
  refine x_iconst hm rfl (v := nI 1) (by decide) ?_
  refine x_isub hm rfl ?_
  refine x_iret hm rfl rfl (by first | rfl | exact bI_nar | decide) ?_
  exact qt rfl
theorem t66 (hb : b = 1 ∨ b = 18 ∨ b = 35) {v : Int32} {nt : Nat} (hnt : M b 3 = nI nt) (h8 : nt ≤ 8) : mT X 66 [.ref b, .int v] (con M) (some (.int (bI (nI 0 ≤ v ∧ v ≤ nI (2 ^ nt) - nI 1)))) (con M) := by
  refine mT.of (row := _) rfl (Nat.le_of_ble_eq_true rfl) ?_
  have hm : mMet 66 = some _ := rfl
  refine x_iload_n hm rfl rfl ?_
  refine x_iconst hm rfl (v := nI 0) (by decide) ?_
  refine x_aload_n hm rfl rfl ?_
  refine x_callV hm rfl (mCallT hb (by decide) rfl rfl rfl rfl rfl) (t57 hb hnt h8) ?_
  refine x_callS hm rfl rfl (t6) ?_
  refine x_iret hm rfl rfl (by first | rfl | exact bI_nar | decide) ?_
  exact qt rfl
end CA
