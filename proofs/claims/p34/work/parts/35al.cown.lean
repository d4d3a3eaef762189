section CD
variable {X : mSc} {Q : Option Value → mHp → Prop} {M : mM} {b : Nat}
theorem t37 {a1 : Int32} (hW : Wf M) : ∃ v M', mT X 37 [.ref 0, .int a1] (con M) (some (.int v)) (con M') ∧ Cq M M' := by
  refine ti_of (row := _) rfl (Nat.le_of_ble_eq_true rfl) ?_
  have hm : mMet 37 = some _ := rfl
  refine x_iload_n hm rfl rfl ?_
  refine x_ts hm rfl (fun h1 => ⟨76, rfl, ?_⟩) (fun i1 h1 g1 => ?_)
  · refine x_aload_n hm rfl rfl ?_
    refine x_ldcI hm rfl (v := (-1000001 : Int32)) (by decide +kernel) ?_
    refine x_cVi hm rfl rfl (t7 (by decide +kernel)) (fun v2 M2 r2 => ?_)
    refine x_iret hm rfl rfl (by first | rfl | exact bI_nar | decide) ?_
    first
      | exact ⟨_, _, rfl, rfl, r2.2.cq hW⟩
      | exact ⟨_, _, rfl, rfl, Cq.rf hW⟩
      | exact ⟨_, _, rfl, rfl, r1.2.cq hW⟩
      | exact ⟨_, _, rfl, rfl, r3.2.cq hW⟩
      | exact ⟨_, _, rfl, rfl, r4.2.cq hW⟩
      | exact ⟨_, _, rfl, rfl, r5.2.cq hW⟩
      | exact ⟨_, _, rfl, rfl, r6.2.cq hW⟩
      | exact ⟨_, _, rfl, rfl, r7.2.cq hW⟩
      | exact ⟨_, _, rfl, rfl, r8.2.cq hW⟩
      | exact ⟨_, _, rfl, rfl, r9.2.cq hW⟩
      | exact ⟨_, _, rfl, rfl, r10.2.cq hW⟩
      | exact ⟨_, _, rfl, rfl, r11.2.cq hW⟩
      | exact ⟨_, _, rfl, rfl, r12.2.cq hW⟩
      | exact ⟨_, _, rfl, rfl, r13.2.cq hW⟩
      | exact ⟨_, _, rfl, rfl, r14.2.cq hW⟩
      | exact ⟨_, _, rfl, rfl, r15.2.cq hW⟩
      | exact ⟨_, _, rfl, rfl, r16.2.cq hW⟩
      | exact ⟨_, _, rfl, rfl, r17.2.cq hW⟩
      | exact ⟨_, _, rfl, rfl, r18.2.cq hW⟩
      | exact ⟨_, _, rfl, rfl, r19.2.cq hW⟩
  · have k1 : i1 = 0 ∨ i1 = 1 ∨ i1 = 2 ∨ i1 = 3 ∨ i1 = 4 := by omega
    rcases k1 with rfl | rfl | rfl | rfl | rfl
    · refine ⟨_, 36, rfl, rfl, ?_⟩
      refine x_aload_n hm rfl rfl ?_
      refine x_getf hm rfl (gR rfl rfl) ?_
      refine x_getf hm rfl (gI rfl rfl) ?_
      refine x_iret hm rfl rfl (by first | rfl | exact bI_nar | decide) ?_
      first
        | exact ⟨_, _, rfl, rfl, Cq.rf hW⟩
        | exact ⟨_, _, rfl, rfl, r1.2.cq hW⟩
        | exact ⟨_, _, rfl, rfl, r2.2.cq hW⟩
        | exact ⟨_, _, rfl, rfl, r3.2.cq hW⟩
        | exact ⟨_, _, rfl, rfl, r4.2.cq hW⟩
        | exact ⟨_, _, rfl, rfl, r5.2.cq hW⟩
        | exact ⟨_, _, rfl, rfl, r6.2.cq hW⟩
        | exact ⟨_, _, rfl, rfl, r7.2.cq hW⟩
        | exact ⟨_, _, rfl, rfl, r8.2.cq hW⟩
        | exact ⟨_, _, rfl, rfl, r9.2.cq hW⟩
        | exact ⟨_, _, rfl, rfl, r10.2.cq hW⟩
        | exact ⟨_, _, rfl, rfl, r11.2.cq hW⟩
        | exact ⟨_, _, rfl, rfl, r12.2.cq hW⟩
        | exact ⟨_, _, rfl, rfl, r13.2.cq hW⟩
        | exact ⟨_, _, rfl, rfl, r14.2.cq hW⟩
        | exact ⟨_, _, rfl, rfl, r15.2.cq hW⟩
        | exact ⟨_, _, rfl, rfl, r16.2.cq hW⟩
        | exact ⟨_, _, rfl, rfl, r17.2.cq hW⟩
        | exact ⟨_, _, rfl, rfl, r18.2.cq hW⟩
        | exact ⟨_, _, rfl, rfl, r19.2.cq hW⟩
    · refine ⟨_, 44, rfl, rfl, ?_⟩
      refine x_aload_n hm rfl rfl ?_
      refine x_getf hm rfl (gR rfl rfl) ?_
      refine x_cVe hm rfl rfl (t35 (by decide) hW) (fun v3 r3 => ?_)
      refine x_iret hm rfl rfl (by first | rfl | exact bI_nar | decide) ?_
      first
        | exact ⟨_, _, rfl, rfl, r3.2.cq hW⟩
        | exact ⟨_, _, rfl, rfl, Cq.rf hW⟩
        | exact ⟨_, _, rfl, rfl, r1.2.cq hW⟩
        | exact ⟨_, _, rfl, rfl, r2.2.cq hW⟩
        | exact ⟨_, _, rfl, rfl, r4.2.cq hW⟩
        | exact ⟨_, _, rfl, rfl, r5.2.cq hW⟩
        | exact ⟨_, _, rfl, rfl, r6.2.cq hW⟩
        | exact ⟨_, _, rfl, rfl, r7.2.cq hW⟩
        | exact ⟨_, _, rfl, rfl, r8.2.cq hW⟩
        | exact ⟨_, _, rfl, rfl, r9.2.cq hW⟩
        | exact ⟨_, _, rfl, rfl, r10.2.cq hW⟩
        | exact ⟨_, _, rfl, rfl, r11.2.cq hW⟩
        | exact ⟨_, _, rfl, rfl, r12.2.cq hW⟩
        | exact ⟨_, _, rfl, rfl, r13.2.cq hW⟩
        | exact ⟨_, _, rfl, rfl, r14.2.cq hW⟩
        | exact ⟨_, _, rfl, rfl, r15.2.cq hW⟩
        | exact ⟨_, _, rfl, rfl, r16.2.cq hW⟩
        | exact ⟨_, _, rfl, rfl, r17.2.cq hW⟩
        | exact ⟨_, _, rfl, rfl, r18.2.cq hW⟩
        | exact ⟨_, _, rfl, rfl, r19.2.cq hW⟩
    · refine ⟨_, 52, rfl, rfl, ?_⟩
      refine x_aload_n hm rfl rfl ?_
      refine x_getf hm rfl (gR rfl rfl) ?_
      refine x_cVe hm rfl rfl (t38 (by decide) hW) (fun v4 r4 => ?_)
      refine x_iret hm rfl rfl (by first | rfl | exact bI_nar | decide) ?_
      first
        | exact ⟨_, _, rfl, rfl, r4.2.cq hW⟩
        | exact ⟨_, _, rfl, rfl, Cq.rf hW⟩
        | exact ⟨_, _, rfl, rfl, r1.2.cq hW⟩
        | exact ⟨_, _, rfl, rfl, r2.2.cq hW⟩
        | exact ⟨_, _, rfl, rfl, r3.2.cq hW⟩
        | exact ⟨_, _, rfl, rfl, r5.2.cq hW⟩
        | exact ⟨_, _, rfl, rfl, r6.2.cq hW⟩
        | exact ⟨_, _, rfl, rfl, r7.2.cq hW⟩
        | exact ⟨_, _, rfl, rfl, r8.2.cq hW⟩
        | exact ⟨_, _, rfl, rfl, r9.2.cq hW⟩
        | exact ⟨_, _, rfl, rfl, r10.2.cq hW⟩
        | exact ⟨_, _, rfl, rfl, r11.2.cq hW⟩
        | exact ⟨_, _, rfl, rfl, r12.2.cq hW⟩
        | exact ⟨_, _, rfl, rfl, r13.2.cq hW⟩
        | exact ⟨_, _, rfl, rfl, r14.2.cq hW⟩
        | exact ⟨_, _, rfl, rfl, r15.2.cq hW⟩
        | exact ⟨_, _, rfl, rfl, r16.2.cq hW⟩
        | exact ⟨_, _, rfl, rfl, r17.2.cq hW⟩
        | exact ⟨_, _, rfl, rfl, r18.2.cq hW⟩
        | exact ⟨_, _, rfl, rfl, r19.2.cq hW⟩
    · refine ⟨_, 60, rfl, rfl, ?_⟩
      refine x_aload_n hm rfl rfl ?_
      refine x_getf hm rfl (gR rfl rfl) ?_
      refine x_cVe hm rfl rfl (t39 (by decide) hW) (fun v5 r5 => ?_)
      refine x_iret hm rfl rfl (by first | rfl | exact bI_nar | decide) ?_
      first
        | exact ⟨_, _, rfl, rfl, r5.2.cq hW⟩
        | exact ⟨_, _, rfl, rfl, Cq.rf hW⟩
        | exact ⟨_, _, rfl, rfl, r1.2.cq hW⟩
        | exact ⟨_, _, rfl, rfl, r2.2.cq hW⟩
        | exact ⟨_, _, rfl, rfl, r3.2.cq hW⟩
        | exact ⟨_, _, rfl, rfl, r4.2.cq hW⟩
        | exact ⟨_, _, rfl, rfl, r6.2.cq hW⟩
        | exact ⟨_, _, rfl, rfl, r7.2.cq hW⟩
        | exact ⟨_, _, rfl, rfl, r8.2.cq hW⟩
        | exact ⟨_, _, rfl, rfl, r9.2.cq hW⟩
        | exact ⟨_, _, rfl, rfl, r10.2.cq hW⟩
        | exact ⟨_, _, rfl, rfl, r11.2.cq hW⟩
        | exact ⟨_, _, rfl, rfl, r12.2.cq hW⟩
        | exact ⟨_, _, rfl, rfl, r13.2.cq hW⟩
        | exact ⟨_, _, rfl, rfl, r14.2.cq hW⟩
        | exact ⟨_, _, rfl, rfl, r15.2.cq hW⟩
        | exact ⟨_, _, rfl, rfl, r16.2.cq hW⟩
        | exact ⟨_, _, rfl, rfl, r17.2.cq hW⟩
        | exact ⟨_, _, rfl, rfl, r18.2.cq hW⟩
        | exact ⟨_, _, rfl, rfl, r19.2.cq hW⟩
    · refine ⟨_, 68, rfl, rfl, ?_⟩
      refine x_aload_n hm rfl rfl ?_
      refine x_getf hm rfl (gR rfl rfl) ?_
      refine x_cVe hm rfl rfl (t40 (by decide) hW) (fun v6 r6 => ?_)
      refine x_iret hm rfl rfl (by first | rfl | exact bI_nar | decide) ?_
      first
        | exact ⟨_, _, rfl, rfl, r6.2.cq hW⟩
        | exact ⟨_, _, rfl, rfl, Cq.rf hW⟩
        | exact ⟨_, _, rfl, rfl, r1.2.cq hW⟩
        | exact ⟨_, _, rfl, rfl, r2.2.cq hW⟩
        | exact ⟨_, _, rfl, rfl, r3.2.cq hW⟩
        | exact ⟨_, _, rfl, rfl, r4.2.cq hW⟩
        | exact ⟨_, _, rfl, rfl, r5.2.cq hW⟩
        | exact ⟨_, _, rfl, rfl, r7.2.cq hW⟩
        | exact ⟨_, _, rfl, rfl, r8.2.cq hW⟩
        | exact ⟨_, _, rfl, rfl, r9.2.cq hW⟩
        | exact ⟨_, _, rfl, rfl, r10.2.cq hW⟩
        | exact ⟨_, _, rfl, rfl, r11.2.cq hW⟩
        | exact ⟨_, _, rfl, rfl, r12.2.cq hW⟩
        | exact ⟨_, _, rfl, rfl, r13.2.cq hW⟩
        | exact ⟨_, _, rfl, rfl, r14.2.cq hW⟩
        | exact ⟨_, _, rfl, rfl, r15.2.cq hW⟩
        | exact ⟨_, _, rfl, rfl, r16.2.cq hW⟩
        | exact ⟨_, _, rfl, rfl, r17.2.cq hW⟩
        | exact ⟨_, _, rfl, rfl, r18.2.cq hW⟩
        | exact ⟨_, _, rfl, rfl, r19.2.cq hW⟩
end CD
