/-! ===== the reference: items ===== -/
section RP
variable {X : mSc} {Q : Option Value → mHp → Prop} {M : mM}
def it7 (M : mM) (m : Nat) (w a b c d e f : Int32) : mM := mput (mput (mput (mput (mput (mput (mput (mput M 75 (7 * m) w) 75 (7 * m + 1) a) 75 (7 * m + 2) b) 75 (7 * m + 3) c) 75 (7 * m + 4) d) 75 (7 * m + 5) e) 75 (7 * m + 6) f) 66 17 (nI (m + 1))
theorem it7_1 {m : Nat} {w a b c d e f : Int32} : mput (mput (mput (mput (mput (mput (mput M 75 (7 * m) w) 75 (7 * m + 1) a) 75 (7 * m + 2) b) 75 (7 * m + 3) c) 75 (7 * m + 4) d) 75 (7 * m + 5) e) 75 (7 * m + 6) f 66 17 = M 66 17 := by
  rw [mput_ne (by decide), mput_ne (by decide), mput_ne (by decide), mput_ne (by decide), mput_ne (by decide), mput_ne (by decide), mput_ne (by decide)]
theorem t229 {m : Nat} {w a b c d e f : Int32} (hm17 : M 66 17 = nI m) (hm1 : m < 120) : mT X 229 [.ref 66, .int w, .int a, .int b, .int c, .int d, .int e, .int f] (con M) none (con (it7 M m w a b c d e f)) := by
  refine mT.of (row := _) rfl (Nat.le_of_ble_eq_true rfl) ?_
  have hm : mMet 229 = some _ := rfl
  refine x_bipush hm rfl (v := nI 7) (by decide) ?_
  refine x_aload_n hm rfl rfl ?_
  refine x_getf hm rfl (gI rfl rfl) ?_
  rw [hm17]
  refine x_imul hm rfl ?_
  rw [jI_mul]
  refine x_istore hm rfl rfl ?_
  refine x_aload_n hm rfl rfl ?_
  refine x_getf hm rfl (gR rfl rfl) ?_
  refine x_iload hm rfl rfl ?_
  refine x_iload_n hm rfl rfl ?_
  refine x_iast hm rfl (sI rfl (by omega) (by decide)) ?_
  refine x_aload_n hm rfl rfl ?_
  refine x_getf hm rfl (gR rfl rfl) ?_
  refine x_iload hm rfl rfl ?_
  refine x_iconst hm rfl (v := nI 1) (by decide) ?_
  refine x_iadd hm rfl ?_
  rw [jI_add]
  refine x_iload_n hm rfl rfl ?_
  refine x_iast hm rfl (sI rfl (by omega) (by decide)) ?_
  refine x_aload_n hm rfl rfl ?_
  refine x_getf hm rfl (gR rfl rfl) ?_
  refine x_iload hm rfl rfl ?_
  refine x_iconst hm rfl (v := nI 2) (by decide) ?_
  refine x_iadd hm rfl ?_
  rw [jI_add]
  refine x_iload_n hm rfl rfl ?_
  refine x_iast hm rfl (sI rfl (by omega) (by decide)) ?_
  refine x_aload_n hm rfl rfl ?_
  refine x_getf hm rfl (gR rfl rfl) ?_
  refine x_iload hm rfl rfl ?_
  refine x_iconst hm rfl (v := nI 3) (by decide) ?_
  refine x_iadd hm rfl ?_
  rw [jI_add]
  refine x_iload hm rfl rfl ?_
  refine x_iast hm rfl (sI rfl (by omega) (by decide)) ?_
  refine x_aload_n hm rfl rfl ?_
  refine x_getf hm rfl (gR rfl rfl) ?_
  refine x_iload hm rfl rfl ?_
  refine x_iconst hm rfl (v := nI 4) (by decide) ?_
  refine x_iadd hm rfl ?_
  rw [jI_add]
  refine x_iload hm rfl rfl ?_
  refine x_iast hm rfl (sI rfl (by omega) (by decide)) ?_
  refine x_aload_n hm rfl rfl ?_
  refine x_getf hm rfl (gR rfl rfl) ?_
  refine x_iload hm rfl rfl ?_
  refine x_iconst hm rfl (v := nI 5) (by decide) ?_
  refine x_iadd hm rfl ?_
  rw [jI_add]
  refine x_iload hm rfl rfl ?_
  refine x_iast hm rfl (sI rfl (by omega) (by decide)) ?_
  refine x_aload_n hm rfl rfl ?_
  refine x_getf hm rfl (gR rfl rfl) ?_
  refine x_iload hm rfl rfl ?_
  refine x_bipush hm rfl (v := nI 6) (by decide) ?_
  refine x_iadd hm rfl ?_
  rw [jI_add]
  refine x_iload hm rfl rfl ?_
  refine x_iast hm rfl (sI rfl (by omega) (by decide)) ?_
  refine x_aload_n hm rfl rfl ?_
  refine x_dup hm rfl rfl ?_
  refine x_getf hm rfl (gI rfl rfl) ?_
  rw [it7_1, hm17]
  refine x_iconst hm rfl (v := nI 1) (by decide) ?_
  refine x_iadd hm rfl ?_
  rw [jI_add]
  refine x_putf hm rfl (pI rfl rfl (by decide) (by first | exact mFit_int | rfl | decide) rfl) ?_
  refine x_ret hm rfl rfl ?_
  exact ⟨rfl, rfl⟩
end RP
