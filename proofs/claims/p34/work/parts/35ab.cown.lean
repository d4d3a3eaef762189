section CD
variable {X : mSc} {Q : Option Value → mHp → Prop} {M : mM} {b : Nat}
theorem t5 {a1 a2 : Int32} (hW : Wf M) : ∃ v M', mT X 5 [.ref 0, .int a1, .int a2] (con M) (some (.int v)) (con M') ∧ Ck M M' := by
  refine ti_of (row := _) rfl (Nat.le_of_ble_eq_true rfl) ?_
  have hm : mMet 5 = some _ := rfl
  obtain ⟨nt, hn8, hnt⟩ := hW.ct (b := 1) (by decide)
  refine x_iload_n hm rfl rfl ?_
  refine x_iconst hm rfl (v := nI 0) (by decide) ?_
  refine x_iconst hm rfl (v := nI 3) (by decide) ?_
  refine x_callS hm rfl rfl (t6) ?_
  refine x_if_eq hm rfl (t := 19) rfl (fun h1 => ?_) (fun h1 => ?_)
  · refine x_aload_n hm rfl rfl ?_
    refine x_ldcI hm rfl (v := (-1000001 : Int32)) (by decide +kernel) ?_
    refine x_cVi hm rfl rfl (t7 (by decide +kernel)) (fun v2 M2 r2 => ?_)
    refine x_iret hm rfl rfl (by first | rfl | exact bI_nar | decide) ?_
    first
      | exact ⟨_, _, rfl, rfl, r2.2.ck hW⟩
      | exact ⟨_, _, rfl, rfl, r2.2.1.ck hW⟩
      | exact ⟨_, _, rfl, rfl, Ck.rf hW⟩
      | exact ⟨_, _, rfl, rfl, r1.2.ck hW⟩
      | exact ⟨_, _, rfl, rfl, r3.2.ck hW⟩
      | exact ⟨_, _, rfl, rfl, r4.2.ck hW⟩
      | exact ⟨_, _, rfl, rfl, r5.2.ck hW⟩
      | exact ⟨_, _, rfl, rfl, r6.2.ck hW⟩
      | exact ⟨_, _, rfl, rfl, r7.2.ck hW⟩
      | exact ⟨_, _, rfl, rfl, r8.2.ck hW⟩
      | exact ⟨_, _, rfl, rfl, r9.2.ck hW⟩
      | exact ⟨_, _, rfl, rfl, r10.2.ck hW⟩
      | exact ⟨_, _, rfl, rfl, r11.2.ck hW⟩
      | exact ⟨_, _, rfl, rfl, r12.2.ck hW⟩
      | exact ⟨_, _, rfl, rfl, r13.2.ck hW⟩
      | exact ⟨_, _, rfl, rfl, r14.2.ck hW⟩
      | exact ⟨_, _, rfl, rfl, r15.2.ck hW⟩
      | exact ⟨_, _, rfl, rfl, r16.2.ck hW⟩
      | exact ⟨_, _, rfl, rfl, r17.2.ck hW⟩
      | exact ⟨_, _, rfl, rfl, r18.2.ck hW⟩
      | exact ⟨_, _, rfl, rfl, r19.2.ck hW⟩
      | exact ⟨_, _, rfl, rfl, r1.2.1.ck hW⟩
      | exact ⟨_, _, rfl, rfl, r3.2.1.ck hW⟩
      | exact ⟨_, _, rfl, rfl, r4.2.1.ck hW⟩
      | exact ⟨_, _, rfl, rfl, r5.2.1.ck hW⟩
      | exact ⟨_, _, rfl, rfl, r6.2.1.ck hW⟩
      | exact ⟨_, _, rfl, rfl, r7.2.1.ck hW⟩
      | exact ⟨_, _, rfl, rfl, r8.2.1.ck hW⟩
      | exact ⟨_, _, rfl, rfl, r9.2.1.ck hW⟩
      | exact ⟨_, _, rfl, rfl, r10.2.1.ck hW⟩
      | exact ⟨_, _, rfl, rfl, r11.2.1.ck hW⟩
  · have hs := okx_le3 (bI_ne0 h1)
    refine x_iload_n hm rfl rfl ?_
    refine x_iconst hm rfl (v := nI 0) (by decide) ?_
    refine x_bipush hm rfl (v := nI 15) (by decide) ?_
    refine x_callS hm rfl rfl (t6) ?_
    refine x_if_ne hm rfl (t := 26) rfl (fun h3 => ?_) (fun h3 => ?_)
    · refine x_aload_n hm rfl rfl ?_
      refine x_getf hm rfl (gR rfl rfl) ?_
      refine x_getf hm rfl (gI rfl rfl) ?_
      rw [hnt]
      refine x_bipush hm rfl (v := nI 8) (by decide) ?_
      refine x_icmp_lt hm rfl (t := 45) rfl (fun h4 => ?_) (fun h4 => ?_)
      · have hlt : nt < 8 := Nat.lt_of_not_le fun h => absurd h4 (Int32.not_lt.mpr (nI_le h (by omega)))
        refine x_aload_n hm rfl rfl ?_
        refine x_getf hm rfl (gR rfl rfl) ?_
        refine x_iload_n hm rfl rfl ?_
        refine x_iload_n hm rfl rfl ?_
        refine x_cVi hm rfl rfl (t8 (by decide) hnt hlt hs) (fun v5 M5 r5 => ?_)
        refine x_iret hm rfl rfl (by first | rfl | exact bI_nar | decide) ?_
        first
          | exact ⟨_, _, rfl, rfl, r5.2.ck hW⟩
          | exact ⟨_, _, rfl, rfl, r5.2.1.ck hW⟩
          | exact ⟨_, _, rfl, rfl, Ck.rf hW⟩
          | exact ⟨_, _, rfl, rfl, r1.2.ck hW⟩
          | exact ⟨_, _, rfl, rfl, r2.2.ck hW⟩
          | exact ⟨_, _, rfl, rfl, r3.2.ck hW⟩
          | exact ⟨_, _, rfl, rfl, r4.2.ck hW⟩
          | exact ⟨_, _, rfl, rfl, r6.2.ck hW⟩
          | exact ⟨_, _, rfl, rfl, r7.2.ck hW⟩
          | exact ⟨_, _, rfl, rfl, r8.2.ck hW⟩
          | exact ⟨_, _, rfl, rfl, r9.2.ck hW⟩
          | exact ⟨_, _, rfl, rfl, r10.2.ck hW⟩
          | exact ⟨_, _, rfl, rfl, r11.2.ck hW⟩
          | exact ⟨_, _, rfl, rfl, r12.2.ck hW⟩
          | exact ⟨_, _, rfl, rfl, r13.2.ck hW⟩
          | exact ⟨_, _, rfl, rfl, r14.2.ck hW⟩
          | exact ⟨_, _, rfl, rfl, r15.2.ck hW⟩
          | exact ⟨_, _, rfl, rfl, r16.2.ck hW⟩
          | exact ⟨_, _, rfl, rfl, r17.2.ck hW⟩
          | exact ⟨_, _, rfl, rfl, r18.2.ck hW⟩
          | exact ⟨_, _, rfl, rfl, r19.2.ck hW⟩
          | exact ⟨_, _, rfl, rfl, r1.2.1.ck hW⟩
          | exact ⟨_, _, rfl, rfl, r2.2.1.ck hW⟩
          | exact ⟨_, _, rfl, rfl, r3.2.1.ck hW⟩
          | exact ⟨_, _, rfl, rfl, r4.2.1.ck hW⟩
          | exact ⟨_, _, rfl, rfl, r6.2.1.ck hW⟩
          | exact ⟨_, _, rfl, rfl, r7.2.1.ck hW⟩
          | exact ⟨_, _, rfl, rfl, r8.2.1.ck hW⟩
          | exact ⟨_, _, rfl, rfl, r9.2.1.ck hW⟩
          | exact ⟨_, _, rfl, rfl, r10.2.1.ck hW⟩
          | exact ⟨_, _, rfl, rfl, r11.2.1.ck hW⟩
      · refine x_aload_n hm rfl rfl ?_
        refine x_ldcI hm rfl (v := (-1000002 : Int32)) (by decide +kernel) ?_
        refine x_cVi hm rfl rfl (t7 (by decide +kernel)) (fun v6 M6 r6 => ?_)
        refine x_iret hm rfl rfl (by first | rfl | exact bI_nar | decide) ?_
        first
          | exact ⟨_, _, rfl, rfl, r6.2.ck hW⟩
          | exact ⟨_, _, rfl, rfl, r6.2.1.ck hW⟩
          | exact ⟨_, _, rfl, rfl, Ck.rf hW⟩
          | exact ⟨_, _, rfl, rfl, r1.2.ck hW⟩
          | exact ⟨_, _, rfl, rfl, r2.2.ck hW⟩
          | exact ⟨_, _, rfl, rfl, r3.2.ck hW⟩
          | exact ⟨_, _, rfl, rfl, r4.2.ck hW⟩
          | exact ⟨_, _, rfl, rfl, r5.2.ck hW⟩
          | exact ⟨_, _, rfl, rfl, r7.2.ck hW⟩
          | exact ⟨_, _, rfl, rfl, r8.2.ck hW⟩
          | exact ⟨_, _, rfl, rfl, r9.2.ck hW⟩
          | exact ⟨_, _, rfl, rfl, r10.2.ck hW⟩
          | exact ⟨_, _, rfl, rfl, r11.2.ck hW⟩
          | exact ⟨_, _, rfl, rfl, r12.2.ck hW⟩
          | exact ⟨_, _, rfl, rfl, r13.2.ck hW⟩
          | exact ⟨_, _, rfl, rfl, r14.2.ck hW⟩
          | exact ⟨_, _, rfl, rfl, r15.2.ck hW⟩
          | exact ⟨_, _, rfl, rfl, r16.2.ck hW⟩
          | exact ⟨_, _, rfl, rfl, r17.2.ck hW⟩
          | exact ⟨_, _, rfl, rfl, r18.2.ck hW⟩
          | exact ⟨_, _, rfl, rfl, r19.2.ck hW⟩
          | exact ⟨_, _, rfl, rfl, r1.2.1.ck hW⟩
          | exact ⟨_, _, rfl, rfl, r2.2.1.ck hW⟩
          | exact ⟨_, _, rfl, rfl, r3.2.1.ck hW⟩
          | exact ⟨_, _, rfl, rfl, r4.2.1.ck hW⟩
          | exact ⟨_, _, rfl, rfl, r5.2.1.ck hW⟩
          | exact ⟨_, _, rfl, rfl, r7.2.1.ck hW⟩
          | exact ⟨_, _, rfl, rfl, r8.2.1.ck hW⟩
          | exact ⟨_, _, rfl, rfl, r9.2.1.ck hW⟩
          | exact ⟨_, _, rfl, rfl, r10.2.1.ck hW⟩
          | exact ⟨_, _, rfl, rfl, r11.2.1.ck hW⟩
    · refine x_aload_n hm rfl rfl ?_
      refine x_ldcI hm rfl (v := (-1000001 : Int32)) (by decide +kernel) ?_
      refine x_cVi hm rfl rfl (t7 (by decide +kernel)) (fun v7 M7 r7 => ?_)
      refine x_iret hm rfl rfl (by first | rfl | exact bI_nar | decide) ?_
      first
        | exact ⟨_, _, rfl, rfl, r7.2.ck hW⟩
        | exact ⟨_, _, rfl, rfl, r7.2.1.ck hW⟩
        | exact ⟨_, _, rfl, rfl, Ck.rf hW⟩
        | exact ⟨_, _, rfl, rfl, r1.2.ck hW⟩
        | exact ⟨_, _, rfl, rfl, r2.2.ck hW⟩
        | exact ⟨_, _, rfl, rfl, r3.2.ck hW⟩
        | exact ⟨_, _, rfl, rfl, r4.2.ck hW⟩
        | exact ⟨_, _, rfl, rfl, r5.2.ck hW⟩
        | exact ⟨_, _, rfl, rfl, r6.2.ck hW⟩
        | exact ⟨_, _, rfl, rfl, r8.2.ck hW⟩
        | exact ⟨_, _, rfl, rfl, r9.2.ck hW⟩
        | exact ⟨_, _, rfl, rfl, r10.2.ck hW⟩
        | exact ⟨_, _, rfl, rfl, r11.2.ck hW⟩
        | exact ⟨_, _, rfl, rfl, r12.2.ck hW⟩
        | exact ⟨_, _, rfl, rfl, r13.2.ck hW⟩
        | exact ⟨_, _, rfl, rfl, r14.2.ck hW⟩
        | exact ⟨_, _, rfl, rfl, r15.2.ck hW⟩
        | exact ⟨_, _, rfl, rfl, r16.2.ck hW⟩
        | exact ⟨_, _, rfl, rfl, r17.2.ck hW⟩
        | exact ⟨_, _, rfl, rfl, r18.2.ck hW⟩
        | exact ⟨_, _, rfl, rfl, r19.2.ck hW⟩
        | exact ⟨_, _, rfl, rfl, r1.2.1.ck hW⟩
        | exact ⟨_, _, rfl, rfl, r2.2.1.ck hW⟩
        | exact ⟨_, _, rfl, rfl, r3.2.1.ck hW⟩
        | exact ⟨_, _, rfl, rfl, r4.2.1.ck hW⟩
        | exact ⟨_, _, rfl, rfl, r5.2.1.ck hW⟩
        | exact ⟨_, _, rfl, rfl, r6.2.1.ck hW⟩
        | exact ⟨_, _, rfl, rfl, r8.2.1.ck hW⟩
        | exact ⟨_, _, rfl, rfl, r9.2.1.ck hW⟩
        | exact ⟨_, _, rfl, rfl, r10.2.1.ck hW⟩
        | exact ⟨_, _, rfl, rfl, r11.2.1.ck hW⟩
end CD
