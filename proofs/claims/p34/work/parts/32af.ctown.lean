section CA
variable {X : mSc} {Q : Option Value → mHp → Prop} {M : mM} {b : Nat}
theorem t34 {a1 a2 : Int32} : ∃ v, mT X 34 [.int a1, .int a2] (con M) (some (.int v)) (con M) ∧ True := by
  refine te_of (row := _) rfl (Nat.le_of_ble_eq_true rfl) ?_
  have hm : mMet 34 = some _ := rfl
  refine x_iload_n hm rfl rfl ?_
  refine x_iload_n hm rfl rfl ?_
  refine x_iadd hm rfl ?_
  refine x_bipush hm rfl (v := nI 16) (by decide) ?_
  refine x_irem hm rfl (by decide) ?_
  refine x_iret hm rfl rfl (by first | rfl | exact bI_nar | decide) ?_
  exact ⟨_, rfl, rfl, trivial⟩
theorem t36 {a1 : Int32} : ∃ v, mT X 36 [.int a1] (con M) (some (.int v)) (con M) ∧ True := by
  refine te_of (row := _) rfl (Nat.le_of_ble_eq_true rfl) ?_
  have hm : mMet 36 = some _ := rfl
  refine x_iload_n hm rfl rfl ?_
  refine x_iload_n hm rfl rfl ?_
  refine x_iconst hm rfl (v := nI 1) (by decide) ?_
  refine x_iushr hm rfl ?_
  refine x_ldc_wI hm rfl (v := nI 1431655765) (by decide) ?_
  refine x_iand hm rfl ?_
  refine x_isub hm rfl ?_
  refine x_istore_n hm rfl rfl ?_
  refine x_iload_n hm rfl rfl ?_
  refine x_ldc_wI hm rfl (v := nI 858993459) (by decide) ?_
  refine x_iand hm rfl ?_
  refine x_iload_n hm rfl rfl ?_
  refine x_iconst hm rfl (v := nI 2) (by decide) ?_
  refine x_iushr hm rfl ?_
  refine x_ldc_wI hm rfl (v := nI 858993459) (by decide) ?_
  refine x_iand hm rfl ?_
  refine x_iadd hm rfl ?_
  refine x_istore_n hm rfl rfl ?_
  refine x_iload_n hm rfl rfl ?_
  refine x_iload_n hm rfl rfl ?_
  refine x_iconst hm rfl (v := nI 4) (by decide) ?_
  refine x_iushr hm rfl ?_
  refine x_iadd hm rfl ?_
  refine x_ldc_wI hm rfl (v := nI 252645135) (by decide) ?_
  refine x_iand hm rfl ?_
  refine x_istore_n hm rfl rfl ?_
  refine x_iload_n hm rfl rfl ?_
  refine x_iload_n hm rfl rfl ?_
  refine x_bipush hm rfl (v := nI 8) (by decide) ?_
  refine x_iushr hm rfl ?_
  refine x_iadd hm rfl ?_
  refine x_istore_n hm rfl rfl ?_
  refine x_iload_n hm rfl rfl ?_
  refine x_iload_n hm rfl rfl ?_
  refine x_bipush hm rfl (v := nI 16) (by decide) ?_
  refine x_iushr hm rfl ?_
  refine x_iadd hm rfl ?_
  refine x_istore_n hm rfl rfl ?_
  refine x_iload_n hm rfl rfl ?_
  refine x_bipush hm rfl (v := nI 63) (by decide) ?_
  refine x_iand hm rfl ?_
  refine x_iret hm rfl rfl (by first | rfl | exact bI_nar | decide) ?_
  exact ⟨_, rfl, rfl, trivial⟩
end CA
