section CU
variable {X : mSc} {Q : Option Value → mHp → Prop} {M : mM}
theorem t109 {c nt np : Nat} {M0 : mM} (h : Cp c nt np M0 M) {k : Int32} (h8 : np < 8) : ∃ M', mT X 109 [.ref 52, .ref 1, .int k] (con M) none (con M') ∧ Cp c nt (np + 1) M0 M' := by
  refine tv_of (row := _) rfl (Nat.le_of_ble_eq_true rfl) ?_
  have hm : mMet 109 = some _ := rfl
  refine x_aload_n hm rfl rfl ?_
  refine x_cVv hm rfl rfl (w92 (by assumption)) (fun M1 r1 => ?_)
  refine x_aload_n hm rfl rfl ?_
  refine x_ldcS hm rfl ?_
  refine x_bipush hm rfl (v := nI 15) (by decide) ?_
  refine x_iconst hm rfl (v := nI 0) (by decide) ?_
  refine x_cVi hm rfl rfl (w110 (by decide) (by assumption)) (fun v2 M2 r2 => ?_)
  first
    | have a1 := r2.1
    | have a1 := r1.1
    | have a1 := r15.1
    | have a1 := r14.1
    | have a1 := r13.1
    | have a1 := r12.1
    | have a1 := r11.1
    | have a1 := r10.1
    | have a1 := r9.1
    | have a1 := r8.1
    | have a1 := r7.1
    | have a1 := r6.1
    | have a1 := r5.1
    | have a1 := r4.1
    | have a1 := r3.1
  refine x_istore_n hm rfl rfl ?_
  refine x_aload_n hm rfl rfl ?_
  refine x_ldcS hm rfl ?_
  refine x_bipush hm rfl (v := nI 15) (by decide) ?_
  refine x_iconst hm rfl (v := nI 1) (by decide) ?_
  refine x_cVi hm rfl rfl (w110 (by decide) (by assumption)) (fun v3 M3 r3 => ?_)
  first
    | have a2 := r3.1
    | have a2 := r2.1
    | have a2 := r1.1
    | have a2 := r15.1
    | have a2 := r14.1
    | have a2 := r13.1
    | have a2 := r12.1
    | have a2 := r11.1
    | have a2 := r10.1
    | have a2 := r9.1
    | have a2 := r8.1
    | have a2 := r7.1
    | have a2 := r6.1
    | have a2 := r5.1
    | have a2 := r4.1
  refine x_istore hm rfl rfl ?_
  refine x_aload_n hm rfl rfl ?_
  refine x_iload_n hm rfl rfl ?_
  refine x_iload_n hm rfl rfl ?_
  refine x_callV hm rfl rfl (u23 a2.2.2.2 h8) ?_
  refine x_istore hm rfl rfl ?_
  refine x_aload_n hm rfl rfl ?_
  refine x_getf hm rfl (gR rfl rfl) ?_
  refine x_iconst hm rfl (v := nI 2) (by decide) ?_
  refine x_aald hm rfl (lQ _ (by decide) rfl rfl (by omega) (by decide)) ?_
  refine x_iload hm rfl rfl ?_
  refine x_iload hm rfl rfl ?_
  refine x_iast hm rfl (sI rfl (by omega) (by decide)) ?_
  have a3 := (a2.joinC (k := k) (p := v2) h8).row (j := 11) (x := np) (v := v3) (by decide) (by decide) trivial
  refine x_aload_n hm rfl rfl ?_
  refine x_getf hm rfl (gI rfl rfl) ?_
  refine x_iconst hm rfl (v := (-1 : Int32)) (by decide) ?_
  refine x_icmp_ne hm rfl (t := 98) rfl (fun h4 => ?_) (fun h4 => ?_)
  · refine x_ret hm rfl rfl ?_
    exact ⟨_, rfl, rfl, a3⟩
  · refine x_aload_n hm rfl rfl ?_
    refine x_ldcS hm rfl ?_
    refine x_cVe hm rfl rfl (w97 (by decide) (by assumption)) (fun v5 r5 => ?_)
    refine x_if_eq hm rfl (t := 98) rfl (fun h6 => ?_) (fun h6 => ?_)
    · refine x_ret hm rfl rfl ?_
      exact ⟨_, rfl, rfl, a3⟩
    · refine x_aload_n hm rfl rfl ?_
      refine x_cVv hm rfl rfl (w92 (by assumption)) (fun M7 r7 => ?_)
      refine x_iconst hm rfl (v := nI 0) (by decide) ?_
      refine x_istore hm rfl rfl ?_
      first
        | exact l109 h8 _ 0 _ (Nat.lt_succ_self _) (Nat.zero_le _) r7
        | exact l109 h8 _ 0 _ (Nat.lt_succ_self _) (Nat.zero_le _) r5
        | exact l109 h8 _ 0 _ (Nat.lt_succ_self _) (Nat.zero_le _) r3
        | exact l109 h8 _ 0 _ (Nat.lt_succ_self _) (Nat.zero_le _) r2
        | exact l109 h8 _ 0 _ (Nat.lt_succ_self _) (Nat.zero_le _) r1
        | exact l109 h8 _ 0 _ (Nat.lt_succ_self _) (Nat.zero_le _) r15
        | exact l109 h8 _ 0 _ (Nat.lt_succ_self _) (Nat.zero_le _) r14
        | exact l109 h8 _ 0 _ (Nat.lt_succ_self _) (Nat.zero_le _) r13
        | exact l109 h8 _ 0 _ (Nat.lt_succ_self _) (Nat.zero_le _) r12
        | exact l109 h8 _ 0 _ (Nat.lt_succ_self _) (Nat.zero_le _) r11
        | exact l109 h8 _ 0 _ (Nat.lt_succ_self _) (Nat.zero_le _) r10
        | exact l109 h8 _ 0 _ (Nat.lt_succ_self _) (Nat.zero_le _) r9
        | exact l109 h8 _ 0 _ (Nat.lt_succ_self _) (Nat.zero_le _) r8
        | exact l109 h8 _ 0 _ (Nat.lt_succ_self _) (Nat.zero_le _) r6
        | exact l109 h8 _ 0 _ (Nat.lt_succ_self _) (Nat.zero_le _) r4
end CU
