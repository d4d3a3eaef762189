section CU
variable {X : mSc} {Q : Option Value → mHp → Prop} {M : mM}
theorem t113 {c nt np : Nat} {M0 : mM} (h : Cp c nt np M0 M) (h8 : nt < 8) (hp8 : np ≤ 8) : ∃ M', mT X 113 [.ref 52, .ref 1] (con M) none (con M') ∧ Cp c (nt + 1) np M0 M' := by
  refine tv_of (row := _) rfl (Nat.le_of_ble_eq_true rfl) ?_
  have hm : mMet 113 = some _ := rfl
  refine x_aload_n hm rfl rfl ?_
  refine x_cVv hm rfl rfl (w92 (by assumption)) (fun M1 r1 => ?_)
  refine x_aload_n hm rfl rfl ?_
  refine x_iconst hm rfl (v := nI 3) (by decide) ?_
  refine x_cVi hm rfl rfl (w111 (by assumption)) (fun v2 M2 r2 => ?_)
  first
    | have a1 := r15.1
    | have a1 := r14.1
    | have a1 := r13.1
    | have a1 := r12.1
    | have a1 := r11.1
    | have a1 := r10.1
    | have a1 := r9.1
    | have a1 := r8.1
    | have a1 := r7.1
    | have a1 := r6.1
    | have a1 := r5.1
    | have a1 := r4.1
    | have a1 := r3.1
    | have a1 := r2.1
    | have a1 := r1.1
  first
    | have q1 := nv3 r15.2
    | have q1 := nv3 r14.2
    | have q1 := nv3 r13.2
    | have q1 := nv3 r12.2
    | have q1 := nv3 r11.2
    | have q1 := nv3 r10.2
    | have q1 := nv3 r9.2
    | have q1 := nv3 r8.2
    | have q1 := nv3 r7.2
    | have q1 := nv3 r6.2
    | have q1 := nv3 r5.2
    | have q1 := nv3 r4.2
    | have q1 := nv3 r3.2
    | have q1 := nv3 r2.2
    | have q1 := nv3 r1.2
  refine x_istore_n hm rfl rfl ?_
  refine x_aload_n hm rfl rfl ?_
  refine x_ldcS hm rfl ?_
  refine x_bipush hm rfl (v := nI 15) (by decide) ?_
  refine x_iconst hm rfl (v := nI 0) (by decide) ?_
  refine x_cVi hm rfl rfl (w110 (by decide) (by assumption)) (fun v3 M3 r3 => ?_)
  first
    | have a2 := r3.1
    | have a2 := r2.1
    | have a2 := r1.1
    | have a2 := r15.1
    | have a2 := r14.1
    | have a2 := r13.1
    | have a2 := r12.1
    | have a2 := r11.1
    | have a2 := r10.1
    | have a2 := r9.1
    | have a2 := r8.1
    | have a2 := r7.1
    | have a2 := r6.1
    | have a2 := r5.1
    | have a2 := r4.1
  refine x_istore_n hm rfl rfl ?_
  refine x_aload_n hm rfl rfl ?_
  refine x_ldcS hm rfl ?_
  refine x_sipush hm rfl (v := nI 999) (by decide) ?_
  refine x_bipush hm rfl (v := nI 100) (by decide) ?_
  refine x_cVi hm rfl rfl (w110 (by decide) (by assumption)) (fun v4 M4 r4 => ?_)
  first
    | have a3 := r4.1
    | have a3 := r3.1
    | have a3 := r2.1
    | have a3 := r1.1
    | have a3 := r15.1
    | have a3 := r14.1
    | have a3 := r13.1
    | have a3 := r12.1
    | have a3 := r11.1
    | have a3 := r10.1
    | have a3 := r9.1
    | have a3 := r8.1
    | have a3 := r7.1
    | have a3 := r6.1
    | have a3 := r5.1
  refine x_istore hm rfl rfl ?_
  refine x_aload_n hm rfl rfl ?_
  refine x_ldcS hm rfl ?_
  refine x_bipush hm rfl (v := nI 9) (by decide) ?_
  refine x_iconst hm rfl (v := nI 0) (by decide) ?_
  refine x_cVi hm rfl rfl (w110 (by decide) (by assumption)) (fun v5 M5 r5 => ?_)
  first
    | have a4 := r5.1
    | have a4 := r4.1
    | have a4 := r3.1
    | have a4 := r2.1
    | have a4 := r1.1
    | have a4 := r15.1
    | have a4 := r14.1
    | have a4 := r13.1
    | have a4 := r12.1
    | have a4 := r11.1
    | have a4 := r10.1
    | have a4 := r9.1
    | have a4 := r8.1
    | have a4 := r7.1
    | have a4 := r6.1
  refine x_istore hm rfl rfl ?_
  refine x_aload_n hm rfl rfl ?_
  refine x_ldcS hm rfl ?_
  refine x_aload_n hm rfl rfl ?_
  refine x_getf hm rfl (gI rfl rfl) ?_
  rw [a4.2.2.2]
  refine x_iconst hm rfl (v := nI 1) (by decide) ?_
  refine x_isub hm rfl ?_
  refine x_iconst hm rfl (v := (-1 : Int32)) (by decide) ?_
  refine x_cVi hm rfl rfl (w110 (by decide) (by assumption)) (fun v6 M6 r6 => ?_)
  first
    | have a5 := r15.1
    | have a5 := r14.1
    | have a5 := r13.1
    | have a5 := r12.1
    | have a5 := r11.1
    | have a5 := r10.1
    | have a5 := r9.1
    | have a5 := r8.1
    | have a5 := r7.1
    | have a5 := r6.1
    | have a5 := r5.1
    | have a5 := r4.1
    | have a5 := r3.1
    | have a5 := r2.1
    | have a5 := r1.1
  first
    | have q5 := nvn hp8 r15.2
    | have q5 := nvn hp8 r14.2
    | have q5 := nvn hp8 r13.2
    | have q5 := nvn hp8 r12.2
    | have q5 := nvn hp8 r11.2
    | have q5 := nvn hp8 r10.2
    | have q5 := nvn hp8 r9.2
    | have q5 := nvn hp8 r8.2
    | have q5 := nvn hp8 r7.2
    | have q5 := nvn hp8 r6.2
    | have q5 := nvn hp8 r5.2
    | have q5 := nvn hp8 r4.2
    | have q5 := nvn hp8 r3.2
    | have q5 := nvn hp8 r2.2
    | have q5 := nvn hp8 r1.2
  refine x_istore hm rfl rfl ?_
  refine x_aload_n hm rfl rfl ?_
  refine x_ldcS hm rfl ?_
  refine x_aload_n hm rfl rfl ?_
  refine x_getf hm rfl (gI rfl rfl) ?_
  rw [a5.2.2.1]
  refine x_iconst hm rfl (v := nI 1) (by decide) ?_
  refine x_isub hm rfl ?_
  refine x_iconst hm rfl (v := (-1 : Int32)) (by decide) ?_
  refine x_cVi hm rfl rfl (w110 (by decide) (by assumption)) (fun v7 M7 r7 => ?_)
  first
    | have a6 := r15.1
    | have a6 := r14.1
    | have a6 := r13.1
    | have a6 := r12.1
    | have a6 := r11.1
    | have a6 := r10.1
    | have a6 := r9.1
    | have a6 := r8.1
    | have a6 := r7.1
    | have a6 := r6.1
    | have a6 := r5.1
    | have a6 := r4.1
    | have a6 := r3.1
    | have a6 := r2.1
    | have a6 := r1.1
  first
    | have q6 := nvn (Nat.le_of_lt h8) r15.2
    | have q6 := nvn (Nat.le_of_lt h8) r14.2
    | have q6 := nvn (Nat.le_of_lt h8) r13.2
    | have q6 := nvn (Nat.le_of_lt h8) r12.2
    | have q6 := nvn (Nat.le_of_lt h8) r11.2
    | have q6 := nvn (Nat.le_of_lt h8) r10.2
    | have q6 := nvn (Nat.le_of_lt h8) r9.2
    | have q6 := nvn (Nat.le_of_lt h8) r8.2
    | have q6 := nvn (Nat.le_of_lt h8) r7.2
    | have q6 := nvn (Nat.le_of_lt h8) r6.2
    | have q6 := nvn (Nat.le_of_lt h8) r5.2
    | have q6 := nvn (Nat.le_of_lt h8) r4.2
    | have q6 := nvn (Nat.le_of_lt h8) r3.2
    | have q6 := nvn (Nat.le_of_lt h8) r2.2
    | have q6 := nvn (Nat.le_of_lt h8) r1.2
  refine x_istore hm rfl rfl ?_
  refine x_aload_n hm rfl rfl ?_
  refine x_iload_n hm rfl rfl ?_
  refine x_iload_n hm rfl rfl ?_
  refine x_callV hm rfl rfl (u8 a6.2.2.1 h8) ?_
  refine x_istore hm rfl rfl ?_
  refine x_aload_n hm rfl rfl ?_
  refine x_getf hm rfl (gR rfl rfl) ?_
  refine x_iconst hm rfl (v := nI 2) (by decide) ?_
  refine x_aald hm rfl (lQ _ (by decide) rfl rfl (by omega) (by decide)) ?_
  refine x_iload hm rfl rfl ?_
  refine x_iload hm rfl rfl ?_
  refine x_iast hm rfl (sI rfl (by omega) (by decide)) ?_
  refine x_aload_n hm rfl rfl ?_
  refine x_getf hm rfl (gR rfl rfl) ?_
  refine x_iconst hm rfl (v := nI 3) (by decide) ?_
  refine x_aald hm rfl (lQ _ (by decide) rfl rfl (by omega) (by decide)) ?_
  refine x_iload hm rfl rfl ?_
  refine x_iload hm rfl rfl ?_
  refine x_iast hm rfl (sI rfl (by omega) (by decide)) ?_
  refine x_aload_n hm rfl rfl ?_
  refine x_getf hm rfl (gR rfl rfl) ?_
  refine x_iconst hm rfl (v := nI 4) (by decide) ?_
  refine x_aald hm rfl (lQ _ (by decide) rfl rfl (by omega) (by decide)) ?_
  refine x_iload hm rfl rfl ?_
  refine x_iload hm rfl rfl ?_
  refine x_iast hm rfl (sI rfl (by omega) (by decide)) ?_
  refine x_aload_n hm rfl rfl ?_
  refine x_getf hm rfl (gR rfl rfl) ?_
  refine x_iconst hm rfl (v := nI 5) (by decide) ?_
  refine x_aald hm rfl (lQ _ (by decide) rfl rfl (by omega) (by decide)) ?_
  refine x_iload hm rfl rfl ?_
  refine x_iload hm rfl rfl ?_
  refine x_iast hm rfl (sI rfl (by omega) (by decide)) ?_
  refine x_ret hm rfl rfl ?_
  exact ⟨_, rfl, rfl, (((((a6.addC h8 q1).row (j := 4) (by decide) (by decide) trivial).row (j := 5) (by decide) (by decide) trivial).row (j := 6) (by decide) (by decide) q5).row (j := 7) (by decide) (by decide) q6)⟩
end CU
