section CD
variable {X : mSc} {Q : Option Value → mHp → Prop} {M : mM} {b : Nat}
theorem t29 {a1 : Int32} (hW : Wf M) : ∃ v M', mT X 29 [.ref 0, .int a1] (con M) (some (.int v)) (con M') ∧ Ck M M' := by
  refine ti_of (row := _) rfl (Nat.le_of_ble_eq_true rfl) ?_
  have hm : mMet 29 = some _ := rfl
  refine x_iload_n hm rfl rfl ?_
  refine x_iconst hm rfl (v := nI 1) (by decide) ?_
  refine x_bipush hm rfl (v := nI 60) (by decide) ?_
  refine x_callS hm rfl rfl (t6) ?_
  refine x_if_ne hm rfl (t := 17) rfl (fun h1 => ?_) (fun h1 => ?_)
  · obtain ⟨a, ha, -, rfl⟩ := le1_k (by omega) (bI_ne0 h1)
    refine x_aload_n hm rfl rfl ?_
    refine x_getf hm rfl (gR rfl rfl) ?_
    refine x_getf hm rfl (gI rfl rfl) ?_
    refine x_iload_n hm rfl rfl ?_
    refine x_iadd hm rfl ?_
    refine x_ldcI hm rfl (v := nI 99999) (by decide +kernel) ?_
    refine x_icmp_le hm rfl (t := 38) rfl (fun h2 => ?_) (fun h2 => ?_)
    · refine x_aload_n hm rfl rfl ?_
      refine x_getf hm rfl (gR rfl rfl) ?_
      refine x_iload_n hm rfl rfl ?_
      refine x_cVv hm rfl rfl (t30 (by decide) (by omega) hW) (fun M3 r3 => ?_)
      refine x_aload_n hm rfl rfl ?_
      refine x_getf hm rfl (gR rfl rfl) ?_
      refine x_cVe hm rfl rfl (t35 (by decide) (r3.1 hW)) (fun v4 r4 => ?_)
      refine x_cSe hm rfl rfl (t36) (fun v5 r5 => ?_)
      refine x_iret hm rfl rfl (by first | rfl | exact bI_nar | decide) ?_
      first
        | exact ⟨_, _, rfl, rfl, r5.2.ck hW⟩
        | exact ⟨_, _, rfl, rfl, r5.ck hW⟩
        | exact ⟨_, _, rfl, rfl, Ck.rf hW⟩
        | exact ⟨_, _, rfl, rfl, r3.2.ck hW⟩
        | exact ⟨_, _, rfl, rfl, r4.2.ck hW⟩
        | exact ⟨_, _, rfl, rfl, r3.ck hW⟩
        | exact ⟨_, _, rfl, rfl, r4.ck hW⟩
        | exact ⟨_, _, rfl, rfl, r1.2.ck hW⟩
        | exact ⟨_, _, rfl, rfl, r2.2.ck hW⟩
        | exact ⟨_, _, rfl, rfl, r6.2.ck hW⟩
        | exact ⟨_, _, rfl, rfl, r7.2.ck hW⟩
        | exact ⟨_, _, rfl, rfl, r8.2.ck hW⟩
        | exact ⟨_, _, rfl, rfl, r9.2.ck hW⟩
        | exact ⟨_, _, rfl, rfl, r10.2.ck hW⟩
        | exact ⟨_, _, rfl, rfl, r11.2.ck hW⟩
        | exact ⟨_, _, rfl, rfl, r12.2.ck hW⟩
        | exact ⟨_, _, rfl, rfl, r13.2.ck hW⟩
        | exact ⟨_, _, rfl, rfl, r14.2.ck hW⟩
        | exact ⟨_, _, rfl, rfl, r15.2.ck hW⟩
        | exact ⟨_, _, rfl, rfl, r16.2.ck hW⟩
        | exact ⟨_, _, rfl, rfl, r17.2.ck hW⟩
        | exact ⟨_, _, rfl, rfl, r18.2.ck hW⟩
        | exact ⟨_, _, rfl, rfl, r19.2.ck hW⟩
        | exact ⟨_, _, rfl, rfl, r1.ck hW⟩
        | exact ⟨_, _, rfl, rfl, r2.ck hW⟩
        | exact ⟨_, _, rfl, rfl, r6.ck hW⟩
        | exact ⟨_, _, rfl, rfl, r7.ck hW⟩
        | exact ⟨_, _, rfl, rfl, r8.ck hW⟩
        | exact ⟨_, _, rfl, rfl, r9.ck hW⟩
        | exact ⟨_, _, rfl, rfl, r10.ck hW⟩
        | exact ⟨_, _, rfl, rfl, r11.ck hW⟩
    · refine x_aload_n hm rfl rfl ?_
      refine x_ldcI hm rfl (v := (-1000005 : Int32)) (by decide +kernel) ?_
      refine x_cVi hm rfl rfl (t7 (by decide +kernel)) (fun v6 M6 r6 => ?_)
      refine x_iret hm rfl rfl (by first | rfl | exact bI_nar | decide) ?_
      first
        | exact ⟨_, _, rfl, rfl, r6.2.ck hW⟩
        | exact ⟨_, _, rfl, rfl, r6.ck hW⟩
        | exact ⟨_, _, rfl, rfl, Ck.rf hW⟩
        | exact ⟨_, _, rfl, rfl, r1.2.ck hW⟩
        | exact ⟨_, _, rfl, rfl, r2.2.ck hW⟩
        | exact ⟨_, _, rfl, rfl, r3.2.ck hW⟩
        | exact ⟨_, _, rfl, rfl, r4.2.ck hW⟩
        | exact ⟨_, _, rfl, rfl, r5.2.ck hW⟩
        | exact ⟨_, _, rfl, rfl, r7.2.ck hW⟩
        | exact ⟨_, _, rfl, rfl, r8.2.ck hW⟩
        | exact ⟨_, _, rfl, rfl, r9.2.ck hW⟩
        | exact ⟨_, _, rfl, rfl, r10.2.ck hW⟩
        | exact ⟨_, _, rfl, rfl, r11.2.ck hW⟩
        | exact ⟨_, _, rfl, rfl, r12.2.ck hW⟩
        | exact ⟨_, _, rfl, rfl, r13.2.ck hW⟩
        | exact ⟨_, _, rfl, rfl, r14.2.ck hW⟩
        | exact ⟨_, _, rfl, rfl, r15.2.ck hW⟩
        | exact ⟨_, _, rfl, rfl, r16.2.ck hW⟩
        | exact ⟨_, _, rfl, rfl, r17.2.ck hW⟩
        | exact ⟨_, _, rfl, rfl, r18.2.ck hW⟩
        | exact ⟨_, _, rfl, rfl, r19.2.ck hW⟩
        | exact ⟨_, _, rfl, rfl, r1.ck hW⟩
        | exact ⟨_, _, rfl, rfl, r2.ck hW⟩
        | exact ⟨_, _, rfl, rfl, r3.ck hW⟩
        | exact ⟨_, _, rfl, rfl, r4.ck hW⟩
        | exact ⟨_, _, rfl, rfl, r5.ck hW⟩
        | exact ⟨_, _, rfl, rfl, r7.ck hW⟩
        | exact ⟨_, _, rfl, rfl, r8.ck hW⟩
        | exact ⟨_, _, rfl, rfl, r9.ck hW⟩
        | exact ⟨_, _, rfl, rfl, r10.ck hW⟩
        | exact ⟨_, _, rfl, rfl, r11.ck hW⟩
  · refine x_aload_n hm rfl rfl ?_
    refine x_ldcI hm rfl (v := (-1000001 : Int32)) (by decide +kernel) ?_
    refine x_cVi hm rfl rfl (t7 (by decide +kernel)) (fun v7 M7 r7 => ?_)
    refine x_iret hm rfl rfl (by first | rfl | exact bI_nar | decide) ?_
    first
      | exact ⟨_, _, rfl, rfl, r7.2.ck hW⟩
      | exact ⟨_, _, rfl, rfl, r7.ck hW⟩
      | exact ⟨_, _, rfl, rfl, Ck.rf hW⟩
      | exact ⟨_, _, rfl, rfl, r1.2.ck hW⟩
      | exact ⟨_, _, rfl, rfl, r2.2.ck hW⟩
      | exact ⟨_, _, rfl, rfl, r3.2.ck hW⟩
      | exact ⟨_, _, rfl, rfl, r4.2.ck hW⟩
      | exact ⟨_, _, rfl, rfl, r5.2.ck hW⟩
      | exact ⟨_, _, rfl, rfl, r6.2.ck hW⟩
      | exact ⟨_, _, rfl, rfl, r8.2.ck hW⟩
      | exact ⟨_, _, rfl, rfl, r9.2.ck hW⟩
      | exact ⟨_, _, rfl, rfl, r10.2.ck hW⟩
      | exact ⟨_, _, rfl, rfl, r11.2.ck hW⟩
      | exact ⟨_, _, rfl, rfl, r12.2.ck hW⟩
      | exact ⟨_, _, rfl, rfl, r13.2.ck hW⟩
      | exact ⟨_, _, rfl, rfl, r14.2.ck hW⟩
      | exact ⟨_, _, rfl, rfl, r15.2.ck hW⟩
      | exact ⟨_, _, rfl, rfl, r16.2.ck hW⟩
      | exact ⟨_, _, rfl, rfl, r17.2.ck hW⟩
      | exact ⟨_, _, rfl, rfl, r18.2.ck hW⟩
      | exact ⟨_, _, rfl, rfl, r19.2.ck hW⟩
      | exact ⟨_, _, rfl, rfl, r1.ck hW⟩
      | exact ⟨_, _, rfl, rfl, r2.ck hW⟩
      | exact ⟨_, _, rfl, rfl, r3.ck hW⟩
      | exact ⟨_, _, rfl, rfl, r4.ck hW⟩
      | exact ⟨_, _, rfl, rfl, r5.ck hW⟩
      | exact ⟨_, _, rfl, rfl, r6.ck hW⟩
      | exact ⟨_, _, rfl, rfl, r8.ck hW⟩
      | exact ⟨_, _, rfl, rfl, r9.ck hW⟩
      | exact ⟨_, _, rfl, rfl, r10.ck hW⟩
      | exact ⟨_, _, rfl, rfl, r11.ck hW⟩
end CD
