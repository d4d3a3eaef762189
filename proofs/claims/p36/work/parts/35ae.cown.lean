section CD
variable {X : mSc} {Q : Option Value → mHp → Prop} {M : mM} {b : Nat}
theorem t5 {a1 a2 : Int32} (hW : Wf M) : ∃ v M', mT X 5 [.ref 0, .int a1, .int a2] (con M) (some (.int v)) (con M') ∧ Ck M M' := by
  refine ti_of (row := _) rfl (Nat.le_of_ble_eq_true rfl) ?_
  have hm : mMet 5 = some _ := rfl
  obtain ⟨nt, hn8, hnt⟩ := hW.ct (b := 1) (by decide)
  refine x_iload_n hm rfl rfl ?_
  refine x_iconst hm rfl (v := nI 0) (by decide) ?_
  refine x_iconst hm rfl (v := nI 3) (by decide) ?_
  refine x_callS hm rfl rfl (t6) ?_
  refine x_if_eq hm rfl (t := 19) rfl (fun h1 => ?_) (fun h1 => ?_)
  · refine x_aload_n hm rfl rfl ?_
    refine x_ldcI hm rfl (v := (-1000001 : Int32)) (by decide +kernel) ?_
    refine x_cVi hm rfl rfl (t7 (by decide +kernel)) (fun v2 M2 r2 => ?_)
    refine x_iret hm rfl rfl (by first | rfl | exact bI_nar | decide) ?_
    first
      | exact ⟨_, _, rfl, rfl, r2.2.ck hW⟩
      | exact ⟨_, _, rfl, rfl, r2.2.1.ck hW⟩
      | exact ⟨_, _, rfl, rfl, Ck.rf hW⟩
      | exact ⟨_, _, rfl, rfl, r1.2.ck hW⟩
      | exact ⟨_, _, rfl, rfl, r3.2.ck hW⟩
      | exact ⟨_, _, rfl, rfl, r4.2.ck hW⟩
      | exact ⟨_, _, rfl, rfl, r5.2.ck hW⟩
      | exact ⟨_, _, rfl, rfl, r6.2.ck hW⟩
      | exact ⟨_, _, rfl, rfl, r7.2.ck hW⟩
      | exact ⟨_, _, rfl, rfl, r8.2.ck hW⟩
      | exact ⟨_, _, rfl, rfl, r9.2.ck hW⟩
      | exact ⟨_, _, rfl, rfl, r10.2.ck hW⟩
      | exact ⟨_, _, rfl, rfl, r11.2.ck hW⟩
      | exact ⟨_, _, rfl, rfl, r12.2.ck hW⟩
      | exact ⟨_, _, rfl, rfl, r13.2.ck hW⟩
      | exact ⟨_, _, rfl, rfl, r14.2.ck hW⟩
      | exact ⟨_, _, rfl, rfl, r15.2.ck hW⟩
      | exact ⟨_, _, rfl, rfl, r16.2.ck hW⟩
      | exact ⟨_, _, rfl, rfl, r17.2.ck hW⟩
      | exact ⟨_, _, rfl, rfl, r18.2.ck hW⟩
      | exact ⟨_, _, rfl, rfl, r19.2.ck hW⟩
      | exact ⟨_, _, rfl, rfl, r1.2.1.ck hW⟩
      | exact ⟨_, _, rfl, rfl, r3.2.1.ck hW⟩
      | exact ⟨_, _, rfl, rfl, r4.2.1.ck hW⟩
      | exact ⟨_, _, rfl, rfl, r5.2.1.ck hW⟩
      | exact ⟨_, _, rfl, rfl, r6.2.1.ck hW⟩
      | exact ⟨_, _, rfl, rfl, r7.2.1.ck hW⟩
      | exact ⟨_, _, rfl, rfl, r8.2.1.ck hW⟩
      | exact ⟨_, _, rfl, rfl, r9.2.1.ck hW⟩
      | exact ⟨_, _, rfl, rfl, r10.2.1.ck hW⟩
      | exact ⟨_, _, rfl, rfl, r11.2.1.ck hW⟩
  · have hs := okx_le3 (bI_ne0 h1)
    refine x_iload_n hm rfl rfl ?_
    refine x_iconst hm rfl (v := nI 0) (by decide) ?_
    refine x_bipush hm rfl (v := nI 15) (by decide) ?_
    refine x_callS hm rfl rfl (t6) ?_
    refine x_if_ne hm rfl (t := 26) rfl (fun h3 => ?_) (fun h3 => ?_)
    · refine x_aload_n hm rfl rfl ?_
      refine x_getf hm rfl (gR rfl rfl) ?_
      refine x_getf hm rfl (gI rfl rfl) ?_
      rw [hnt]
      refine x_bipush hm rfl (v := nI 8) (by decide) ?_
      refine x_icmp_lt hm rfl (t := 45) rfl (fun h4 => ?_) (fun h4 => ?_)
      · have hlt : nt < 8 := Nat.lt_of_not_le fun h => absurd h4 (Int32.not_lt.mpr (nI_le h (by omega)))
        refine x_aload_n hm rfl rfl ?_
        refine x_getf hm rfl (gR rfl rfl) ?_
        refine x_iload_n hm rfl rfl ?_
        refine x_iload_n hm rfl rfl ?_
        refine x_cVi hm rfl rfl (t8 (by decide) hnt hlt hs) (fun v5 M5 r5 => ?_)
        refine x_iret hm rfl rfl (by first | rfl | exact bI_nar | decide) ?_
        first
          | exact ⟨_, _, rfl, rfl, r5.2.ck hW⟩
          | exact ⟨_, _, rfl, rfl, r5.2.1.ck hW⟩
          | exact ⟨_, _, rfl, rfl, Ck.rf hW⟩
          | exact ⟨_, _, rfl, rfl, r1.2.ck hW⟩
          | exact ⟨_, _, rfl, rfl, r2.2.ck hW⟩
          | exact ⟨_, _, rfl, rfl, r3.2.ck hW⟩
          | exact ⟨_, _, rfl, rfl, r4.2.ck hW⟩
          | exact ⟨_, _, rfl, rfl, r6.2.ck hW⟩
          | exact ⟨_, _, rfl, rfl, r7.2.ck hW⟩
          | exact ⟨_, _, rfl, rfl, r8.2.ck hW⟩
          | exact ⟨_, _, rfl, rfl, r9.2.ck hW⟩
          | exact ⟨_, _, rfl, rfl, r10.2.ck hW⟩
          | exact ⟨_, _, rfl, rfl, r11.2.ck hW⟩
          | exact ⟨_, _, rfl, rfl, r12.2.ck hW⟩
          | exact ⟨_, _, rfl, rfl, r13.2.ck hW⟩
          | exact ⟨_, _, rfl, rfl, r14.2.ck hW⟩
          | exact ⟨_, _, rfl, rfl, r15.2.ck hW⟩
          | exact ⟨_, _, rfl, rfl, r16.2.ck hW⟩
          | exact ⟨_, _, rfl, rfl, r17.2.ck hW⟩
          | exact ⟨_, _, rfl, rfl, r18.2.ck hW⟩
          | exact ⟨_, _, rfl, rfl, r19.2.ck hW⟩
          | exact ⟨_, _, rfl, rfl, r1.2.1.ck hW⟩
          | exact ⟨_, _, rfl, rfl, r2.2.1.ck hW⟩
          | exact ⟨_, _, rfl, rfl, r3.2.1.ck hW⟩
          | exact ⟨_, _, rfl, rfl, r4.2.1.ck hW⟩
          | exact ⟨_, _, rfl, rfl, r6.2.1.ck hW⟩
          | exact ⟨_, _, rfl, rfl, r7.2.1.ck hW⟩
          | exact ⟨_, _, rfl, rfl, r8.2.1.ck hW⟩
          | exact ⟨_, _, rfl, rfl, r9.2.1.ck hW⟩
          | exact ⟨_, _, rfl, rfl, r10.2.1.ck hW⟩
          | exact ⟨_, _, rfl, rfl, r11.2.1.ck hW⟩
      · refine x_aload_n hm rfl rfl ?_
        refine x_ldcI hm rfl (v := (-1000002 : Int32)) (by decide +kernel) ?_
        refine x_cVi hm rfl rfl (t7 (by decide +kernel)) (fun v6 M6 r6 => ?_)
        refine x_iret hm rfl rfl (by first | rfl | exact bI_nar | decide) ?_
        first
          | exact ⟨_, _, rfl, rfl, r6.2.ck hW⟩
          | exact ⟨_, _, rfl, rfl, r6.2.1.ck hW⟩
          | exact ⟨_, _, rfl, rfl, Ck.rf hW⟩
          | exact ⟨_, _, rfl, rfl, r1.2.ck hW⟩
          | exact ⟨_, _, rfl, rfl, r2.2.ck hW⟩
          | exact ⟨_, _, rfl, rfl, r3.2.ck hW⟩
          | exact ⟨_, _, rfl, rfl, r4.2.ck hW⟩
          | exact ⟨_, _, rfl, rfl, r5.2.ck hW⟩
          | exact ⟨_, _, rfl, rfl, r7.2.ck hW⟩
          | exact ⟨_, _, rfl, rfl, r8.2.ck hW⟩
          | exact ⟨_, _, rfl, rfl, r9.2.ck hW⟩
          | exact ⟨_, _, rfl, rfl, r10.2.ck hW⟩
          | exact ⟨_, _, rfl, rfl, r11.2.ck hW⟩
          | exact ⟨_, _, rfl, rfl, r12.2.ck hW⟩
          | exact ⟨_, _, rfl, rfl, r13.2.ck hW⟩
          | exact ⟨_, _, rfl, rfl, r14.2.ck hW⟩
          | exact ⟨_, _, rfl, rfl, r15.2.ck hW⟩
          | exact ⟨_, _, rfl, rfl, r16.2.ck hW⟩
          | exact ⟨_, _, rfl, rfl, r17.2.ck hW⟩
          | exact ⟨_, _, rfl, rfl, r18.2.ck hW⟩
          | exact ⟨_, _, rfl, rfl, r19.2.ck hW⟩
          | exact ⟨_, _, rfl, rfl, r1.2.1.ck hW⟩
          | exact ⟨_, _, rfl, rfl, r2.2.1.ck hW⟩
          | exact ⟨_, _, rfl, rfl, r3.2.1.ck hW⟩
          | exact ⟨_, _, rfl, rfl, r4.2.1.ck hW⟩
          | exact ⟨_, _, rfl, rfl, r5.2.1.ck hW⟩
          | exact ⟨_, _, rfl, rfl, r7.2.1.ck hW⟩
          | exact ⟨_, _, rfl, rfl, r8.2.1.ck hW⟩
          | exact ⟨_, _, rfl, rfl, r9.2.1.ck hW⟩
          | exact ⟨_, _, rfl, rfl, r10.2.1.ck hW⟩
          | exact ⟨_, _, rfl, rfl, r11.2.1.ck hW⟩
    · refine x_aload_n hm rfl rfl ?_
      refine x_ldcI hm rfl (v := (-1000001 : Int32)) (by decide +kernel) ?_
      refine x_cVi hm rfl rfl (t7 (by decide +kernel)) (fun v7 M7 r7 => ?_)
      refine x_iret hm rfl rfl (by first | rfl | exact bI_nar | decide) ?_
      first
        | exact ⟨_, _, rfl, rfl, r7.2.ck hW⟩
        | exact ⟨_, _, rfl, rfl, r7.2.1.ck hW⟩
        | exact ⟨_, _, rfl, rfl, Ck.rf hW⟩
        | exact ⟨_, _, rfl, rfl, r1.2.ck hW⟩
        | exact ⟨_, _, rfl, rfl, r2.2.ck hW⟩
        | exact ⟨_, _, rfl, rfl, r3.2.ck hW⟩
        | exact ⟨_, _, rfl, rfl, r4.2.ck hW⟩
        | exact ⟨_, _, rfl, rfl, r5.2.ck hW⟩
        | exact ⟨_, _, rfl, rfl, r6.2.ck hW⟩
        | exact ⟨_, _, rfl, rfl, r8.2.ck hW⟩
        | exact ⟨_, _, rfl, rfl, r9.2.ck hW⟩
        | exact ⟨_, _, rfl, rfl, r10.2.ck hW⟩
        | exact ⟨_, _, rfl, rfl, r11.2.ck hW⟩
        | exact ⟨_, _, rfl, rfl, r12.2.ck hW⟩
        | exact ⟨_, _, rfl, rfl, r13.2.ck hW⟩
        | exact ⟨_, _, rfl, rfl, r14.2.ck hW⟩
        | exact ⟨_, _, rfl, rfl, r15.2.ck hW⟩
        | exact ⟨_, _, rfl, rfl, r16.2.ck hW⟩
        | exact ⟨_, _, rfl, rfl, r17.2.ck hW⟩
        | exact ⟨_, _, rfl, rfl, r18.2.ck hW⟩
        | exact ⟨_, _, rfl, rfl, r19.2.ck hW⟩
        | exact ⟨_, _, rfl, rfl, r1.2.1.ck hW⟩
        | exact ⟨_, _, rfl, rfl, r2.2.1.ck hW⟩
        | exact ⟨_, _, rfl, rfl, r3.2.1.ck hW⟩
        | exact ⟨_, _, rfl, rfl, r4.2.1.ck hW⟩
        | exact ⟨_, _, rfl, rfl, r5.2.1.ck hW⟩
        | exact ⟨_, _, rfl, rfl, r6.2.1.ck hW⟩
        | exact ⟨_, _, rfl, rfl, r8.2.1.ck hW⟩
        | exact ⟨_, _, rfl, rfl, r9.2.1.ck hW⟩
        | exact ⟨_, _, rfl, rfl, r10.2.1.ck hW⟩
        | exact ⟨_, _, rfl, rfl, r11.2.1.ck hW⟩
theorem t9 {a1 a2 : Int32} (hW : Wf M) : ∃ v M', mT X 9 [.ref 0, .int a1, .int a2] (con M) (some (.int v)) (con M') ∧ Cq M M' := by
  refine ti_of (row := _) rfl (Nat.le_of_ble_eq_true rfl) ?_
  have hm : mMet 9 = some _ := rfl
  obtain ⟨nt, hn8, hnt⟩ := hW.ct (b := 1) (by decide)
  refine x_aload_n hm rfl rfl ?_
  refine x_getf hm rfl (gR rfl rfl) ?_
  refine x_iload_n hm rfl rfl ?_
  refine x_callV hm rfl rfl (t10 (by decide)) ?_
  refine x_if_eq hm rfl (t := 21) rfl (fun h1 => ?_) (fun h1 => ?_)
  · refine x_aload_n hm rfl rfl ?_
    refine x_ldcI hm rfl (v := (-1000001 : Int32)) (by decide +kernel) ?_
    refine x_cVi hm rfl rfl (t7 (by decide +kernel)) (fun v2 M2 r2 => ?_)
    refine x_iret hm rfl rfl (by first | rfl | exact bI_nar | decide) ?_
    first
      | exact ⟨_, _, rfl, rfl, r2.2.cq hW⟩
      | exact ⟨_, _, rfl, rfl, Cq.rf hW⟩
      | exact ⟨_, _, rfl, rfl, r1.2.cq hW⟩
      | exact ⟨_, _, rfl, rfl, r3.2.cq hW⟩
      | exact ⟨_, _, rfl, rfl, r4.2.cq hW⟩
      | exact ⟨_, _, rfl, rfl, r5.2.cq hW⟩
      | exact ⟨_, _, rfl, rfl, r6.2.cq hW⟩
      | exact ⟨_, _, rfl, rfl, r7.2.cq hW⟩
      | exact ⟨_, _, rfl, rfl, r8.2.cq hW⟩
      | exact ⟨_, _, rfl, rfl, r9.2.cq hW⟩
      | exact ⟨_, _, rfl, rfl, r10.2.cq hW⟩
      | exact ⟨_, _, rfl, rfl, r11.2.cq hW⟩
      | exact ⟨_, _, rfl, rfl, r12.2.cq hW⟩
      | exact ⟨_, _, rfl, rfl, r13.2.cq hW⟩
      | exact ⟨_, _, rfl, rfl, r14.2.cq hW⟩
      | exact ⟨_, _, rfl, rfl, r15.2.cq hW⟩
      | exact ⟨_, _, rfl, rfl, r16.2.cq hW⟩
      | exact ⟨_, _, rfl, rfl, r17.2.cq hW⟩
      | exact ⟨_, _, rfl, rfl, r18.2.cq hW⟩
      | exact ⟨_, _, rfl, rfl, r19.2.cq hW⟩
  · obtain ⟨t, ht, rfl⟩ := in_k hnt (by omega) (bI_ne0 h1)
    refine x_iload_n hm rfl rfl ?_
    refine x_iconst hm rfl (v := nI 0) (by decide) ?_
    refine x_bipush hm rfl (v := nI 6) (by decide) ?_
    refine x_callS hm rfl rfl (t6) ?_
    refine x_if_ne hm rfl (t := 28) rfl (fun h3 => ?_) (fun h3 => ?_)
    · obtain ⟨w, hw, rfl⟩ := le_k (by omega) (bI_ne0 h3)
      refine x_iload_n hm rfl rfl ?_
      refine x_bipush hm rfl (v := nI 6) (by decide) ?_
      refine x_icmp_ne hm rfl (t := 45) rfl (fun h4 => ?_) (fun h4 => ?_)
      · have hw6 : w ≠ 6 := fun e => h4 (by rw [e])
        refine x_aload_n hm rfl rfl ?_
        refine x_getf hm rfl (gR rfl rfl) ?_
        refine x_getf hm rfl (gR rfl rfl) ?_
        refine x_iload_n hm rfl rfl ?_
        refine x_aald hm rfl (lQ 3 (Or.inr (Or.inl rfl)) (tI (b := 1) (by decide)) (tIk (by omega)) (by omega) (by decide)) ?_
        refine x_iload_n hm rfl rfl ?_
        refine x_iald hm rfl (lI (tRowI (b := 1) (by decide) (by omega)) (by omega) (by decide)) ?_
        refine x_iret hm rfl rfl (by first | rfl | exact bI_nar | decide) ?_
        first
          | exact ⟨_, _, rfl, rfl, Cq.rf hW⟩
          | exact ⟨_, _, rfl, rfl, r1.2.cq hW⟩
          | exact ⟨_, _, rfl, rfl, r2.2.cq hW⟩
          | exact ⟨_, _, rfl, rfl, r3.2.cq hW⟩
          | exact ⟨_, _, rfl, rfl, r4.2.cq hW⟩
          | exact ⟨_, _, rfl, rfl, r5.2.cq hW⟩
          | exact ⟨_, _, rfl, rfl, r6.2.cq hW⟩
          | exact ⟨_, _, rfl, rfl, r7.2.cq hW⟩
          | exact ⟨_, _, rfl, rfl, r8.2.cq hW⟩
          | exact ⟨_, _, rfl, rfl, r9.2.cq hW⟩
          | exact ⟨_, _, rfl, rfl, r10.2.cq hW⟩
          | exact ⟨_, _, rfl, rfl, r11.2.cq hW⟩
          | exact ⟨_, _, rfl, rfl, r12.2.cq hW⟩
          | exact ⟨_, _, rfl, rfl, r13.2.cq hW⟩
          | exact ⟨_, _, rfl, rfl, r14.2.cq hW⟩
          | exact ⟨_, _, rfl, rfl, r15.2.cq hW⟩
          | exact ⟨_, _, rfl, rfl, r16.2.cq hW⟩
          | exact ⟨_, _, rfl, rfl, r17.2.cq hW⟩
          | exact ⟨_, _, rfl, rfl, r18.2.cq hW⟩
          | exact ⟨_, _, rfl, rfl, r19.2.cq hW⟩
      · refine x_aload_n hm rfl rfl ?_
        refine x_getf hm rfl (gR rfl rfl) ?_
        refine x_iload_n hm rfl rfl ?_
        refine x_cVe hm rfl rfl (t11 (by decide) (by omega) hW) (fun v5 r5 => ?_)
        refine x_goto hm rfl (t := 56) rfl ?_
        refine x_iret hm rfl rfl (by first | rfl | exact bI_nar | decide) ?_
        first
          | exact ⟨_, _, rfl, rfl, r5.2.cq hW⟩
          | exact ⟨_, _, rfl, rfl, Cq.rf hW⟩
          | exact ⟨_, _, rfl, rfl, r1.2.cq hW⟩
          | exact ⟨_, _, rfl, rfl, r2.2.cq hW⟩
          | exact ⟨_, _, rfl, rfl, r3.2.cq hW⟩
          | exact ⟨_, _, rfl, rfl, r4.2.cq hW⟩
          | exact ⟨_, _, rfl, rfl, r6.2.cq hW⟩
          | exact ⟨_, _, rfl, rfl, r7.2.cq hW⟩
          | exact ⟨_, _, rfl, rfl, r8.2.cq hW⟩
          | exact ⟨_, _, rfl, rfl, r9.2.cq hW⟩
          | exact ⟨_, _, rfl, rfl, r10.2.cq hW⟩
          | exact ⟨_, _, rfl, rfl, r11.2.cq hW⟩
          | exact ⟨_, _, rfl, rfl, r12.2.cq hW⟩
          | exact ⟨_, _, rfl, rfl, r13.2.cq hW⟩
          | exact ⟨_, _, rfl, rfl, r14.2.cq hW⟩
          | exact ⟨_, _, rfl, rfl, r15.2.cq hW⟩
          | exact ⟨_, _, rfl, rfl, r16.2.cq hW⟩
          | exact ⟨_, _, rfl, rfl, r17.2.cq hW⟩
          | exact ⟨_, _, rfl, rfl, r18.2.cq hW⟩
          | exact ⟨_, _, rfl, rfl, r19.2.cq hW⟩
    · refine x_aload_n hm rfl rfl ?_
      refine x_ldcI hm rfl (v := (-1000001 : Int32)) (by decide +kernel) ?_
      refine x_cVi hm rfl rfl (t7 (by decide +kernel)) (fun v6 M6 r6 => ?_)
      refine x_iret hm rfl rfl (by first | rfl | exact bI_nar | decide) ?_
      first
        | exact ⟨_, _, rfl, rfl, r6.2.cq hW⟩
        | exact ⟨_, _, rfl, rfl, Cq.rf hW⟩
        | exact ⟨_, _, rfl, rfl, r1.2.cq hW⟩
        | exact ⟨_, _, rfl, rfl, r2.2.cq hW⟩
        | exact ⟨_, _, rfl, rfl, r3.2.cq hW⟩
        | exact ⟨_, _, rfl, rfl, r4.2.cq hW⟩
        | exact ⟨_, _, rfl, rfl, r5.2.cq hW⟩
        | exact ⟨_, _, rfl, rfl, r7.2.cq hW⟩
        | exact ⟨_, _, rfl, rfl, r8.2.cq hW⟩
        | exact ⟨_, _, rfl, rfl, r9.2.cq hW⟩
        | exact ⟨_, _, rfl, rfl, r10.2.cq hW⟩
        | exact ⟨_, _, rfl, rfl, r11.2.cq hW⟩
        | exact ⟨_, _, rfl, rfl, r12.2.cq hW⟩
        | exact ⟨_, _, rfl, rfl, r13.2.cq hW⟩
        | exact ⟨_, _, rfl, rfl, r14.2.cq hW⟩
        | exact ⟨_, _, rfl, rfl, r15.2.cq hW⟩
        | exact ⟨_, _, rfl, rfl, r16.2.cq hW⟩
        | exact ⟨_, _, rfl, rfl, r17.2.cq hW⟩
        | exact ⟨_, _, rfl, rfl, r18.2.cq hW⟩
        | exact ⟨_, _, rfl, rfl, r19.2.cq hW⟩
theorem t18 {a1 a2 a3 : Int32} (hW : Wf M) : ∃ v, mT X 18 [.ref 0, .int a1, .int a2, .int a3] (con M) (some (.int v)) (con M) ∧ (v = nI 0 ∨ (v = nI 1 ∧ ∃ f, f < 6 ∧ a2 = nI f ∧ (f = 0 → okx 3 a3) ∧ (f = 4 → okx 2 a3) ∧ (f = 5 → okx 2 a3))) := by
  refine te_of (row := _) rfl (Nat.le_of_ble_eq_true rfl) ?_
  have hm : mMet 18 = some _ := rfl
  obtain ⟨nt, hn8, hnt⟩ := hW.ct (b := 1) (by decide)
  obtain ⟨np, hp8, hnp⟩ := hW.cpn (b := 1) (by decide)
  refine x_iload_n hm rfl rfl ?_
  refine x_ts hm rfl (fun h1 => ⟨121, rfl, ?_⟩) (fun i1 h1 g1 => ?_)
  · refine x_iconst hm rfl (v := nI 0) (by decide) ?_
    refine x_iret hm rfl rfl (by first | rfl | exact bI_nar | decide) ?_
    exact ⟨_, rfl, rfl, Or.inl rfl⟩
  · have k1 : i1 = 0 ∨ i1 = 1 ∨ i1 = 2 ∨ i1 = 3 ∨ i1 = 4 ∨ i1 = 5 := by omega
    rcases k1 with rfl | rfl | rfl | rfl | rfl | rfl
    · refine ⟨_, 40, rfl, rfl, ?_⟩
      refine x_iload_n hm rfl rfl ?_
      refine x_iconst hm rfl (v := nI 0) (by decide) ?_
      refine x_iconst hm rfl (v := nI 3) (by decide) ?_
      refine x_callS hm rfl rfl (t6) ?_
      refine x_iret hm rfl rfl (by first | rfl | exact bI_nar | decide) ?_
      exact ⟨_, rfl, rfl, bI_cs.imp id (fun e => ⟨e.1, 0, by decide, tn h1 (by decide), by first | exact fun _ => okx_le3 e.2 | exact fun q => absurd q (by decide), fun q => absurd q (by decide), fun q => absurd q (by decide)⟩)⟩
    · refine ⟨_, 47, rfl, rfl, ?_⟩
      refine x_iload_n hm rfl rfl ?_
      refine x_iconst hm rfl (v := nI 0) (by decide) ?_
      refine x_bipush hm rfl (v := nI 15) (by decide) ?_
      refine x_callS hm rfl rfl (t6) ?_
      refine x_iret hm rfl rfl (by first | rfl | exact bI_nar | decide) ?_
      exact ⟨_, rfl, rfl, bI_cs.imp id (fun e => ⟨e.1, 1, by decide, tn h1 (by decide), by first | exact fun _ => okx_le3 e.2 | exact fun q => absurd q (by decide), fun q => absurd q (by decide), fun q => absurd q (by decide)⟩)⟩
    · refine ⟨_, 55, rfl, rfl, ?_⟩
      refine x_iload_n hm rfl rfl ?_
      refine x_iconst hm rfl (v := nI 0) (by decide) ?_
      refine x_sipush hm rfl (v := nI 999) (by decide) ?_
      refine x_callS hm rfl rfl (t6) ?_
      refine x_iret hm rfl rfl (by first | rfl | exact bI_nar | decide) ?_
      exact ⟨_, rfl, rfl, bI_cs.imp id (fun e => ⟨e.1, 2, by decide, tn h1 (by decide), by first | exact fun _ => okx_le3 e.2 | exact fun q => absurd q (by decide), fun q => absurd q (by decide), fun q => absurd q (by decide)⟩)⟩
    · refine ⟨_, 64, rfl, rfl, ?_⟩
      refine x_iload_n hm rfl rfl ?_
      refine x_iconst hm rfl (v := nI 0) (by decide) ?_
      refine x_bipush hm rfl (v := nI 9) (by decide) ?_
      refine x_callS hm rfl rfl (t6) ?_
      refine x_iret hm rfl rfl (by first | rfl | exact bI_nar | decide) ?_
      exact ⟨_, rfl, rfl, bI_cs.imp id (fun e => ⟨e.1, 3, by decide, tn h1 (by decide), by first | exact fun _ => okx_le3 e.2 | exact fun q => absurd q (by decide), fun q => absurd q (by decide), fun q => absurd q (by decide)⟩)⟩
    · refine ⟨_, 72, rfl, rfl, ?_⟩
      refine x_iload_n hm rfl rfl ?_
      refine x_iconst hm rfl (v := (-1 : Int32)) (by decide) ?_
      refine x_icmp_eq hm rfl (t := 88) rfl (fun h2 => ?_) (fun h2 => ?_)
      · have hq : okx 2 a3 := by rw [h2]; exact okM1
        refine x_iconst hm rfl (v := nI 1) (by decide) ?_
        refine x_goto hm rfl (t := 93) rfl ?_
        refine x_iret hm rfl rfl (by first | rfl | exact bI_nar | decide) ?_
        exact ⟨_, rfl, rfl, by first | exact Or.inl rfl | exact Or.inr ⟨rfl, 4, by decide, tn h1 (by decide), fun q => absurd q (by decide), fun q => by first | exact hq | exact absurd q (by decide), fun q => by first | exact hq | exact absurd q (by decide)⟩⟩
      · refine x_aload_n hm rfl rfl ?_
        refine x_getf hm rfl (gR rfl rfl) ?_
        refine x_iload_n hm rfl rfl ?_
        refine x_callV hm rfl rfl (t19 (by decide)) ?_
        refine x_if_eq hm rfl (t := 92) rfl (fun h3 => ?_) (fun h3 => ?_)
        · refine x_iconst hm rfl (v := nI 0) (by decide) ?_
          refine x_iret hm rfl rfl (by first | rfl | exact bI_nar | decide) ?_
          exact ⟨_, rfl, rfl, by first | exact Or.inl rfl | exact Or.inr ⟨rfl, 4, by decide, tn h1 (by decide), fun q => absurd q (by decide), fun q => by first | exact hq | exact absurd q (by decide), fun q => by first | exact hq | exact absurd q (by decide)⟩⟩
        · have hq : okx 2 a3 := by
            obtain ⟨k, hk, e⟩ := in_k hnp (by omega) (bI_ne0 h3)
            rw [e]; exact okI2 (by omega)
          refine x_iconst hm rfl (v := nI 1) (by decide) ?_
          refine x_goto hm rfl (t := 93) rfl ?_
          refine x_iret hm rfl rfl (by first | rfl | exact bI_nar | decide) ?_
          exact ⟨_, rfl, rfl, by first | exact Or.inl rfl | exact Or.inr ⟨rfl, 4, by decide, tn h1 (by decide), fun q => absurd q (by decide), fun q => by first | exact hq | exact absurd q (by decide), fun q => by first | exact hq | exact absurd q (by decide)⟩⟩
    · refine ⟨_, 94, rfl, rfl, ?_⟩
      refine x_iload_n hm rfl rfl ?_
      refine x_iconst hm rfl (v := (-1 : Int32)) (by decide) ?_
      refine x_icmp_eq hm rfl (t := 115) rfl (fun h4 => ?_) (fun h4 => ?_)
      · have hq : okx 2 a3 := by rw [h4]; exact okM1
        refine x_iconst hm rfl (v := nI 1) (by decide) ?_
        refine x_goto hm rfl (t := 120) rfl ?_
        refine x_iret hm rfl rfl (by first | rfl | exact bI_nar | decide) ?_
        exact ⟨_, rfl, rfl, by first | exact Or.inl rfl | exact Or.inr ⟨rfl, 5, by decide, tn h1 (by decide), fun q => absurd q (by decide), fun q => by first | exact hq | exact absurd q (by decide), fun q => by first | exact hq | exact absurd q (by decide)⟩⟩
      · refine x_aload_n hm rfl rfl ?_
        refine x_getf hm rfl (gR rfl rfl) ?_
        refine x_iload_n hm rfl rfl ?_
        refine x_callV hm rfl rfl (t10 (by decide)) ?_
        refine x_if_eq hm rfl (t := 119) rfl (fun h5 => ?_) (fun h5 => ?_)
        · refine x_iconst hm rfl (v := nI 0) (by decide) ?_
          refine x_iret hm rfl rfl (by first | rfl | exact bI_nar | decide) ?_
          exact ⟨_, rfl, rfl, by first | exact Or.inl rfl | exact Or.inr ⟨rfl, 5, by decide, tn h1 (by decide), fun q => absurd q (by decide), fun q => by first | exact hq | exact absurd q (by decide), fun q => by first | exact hq | exact absurd q (by decide)⟩⟩
        · have hq : okx 2 a3 := by
            obtain ⟨k, hk, e⟩ := in_k hnt (by omega) (bI_ne0 h5)
            rw [e]; exact okI2 (by omega)
          refine x_iload_n hm rfl rfl ?_
          refine x_iload_n hm rfl rfl ?_
          refine x_icmp_eq hm rfl (t := 119) rfl (fun h6 => ?_) (fun h6 => ?_)
          · refine x_iconst hm rfl (v := nI 0) (by decide) ?_
            refine x_iret hm rfl rfl (by first | rfl | exact bI_nar | decide) ?_
            exact ⟨_, rfl, rfl, by first | exact Or.inl rfl | exact Or.inr ⟨rfl, 5, by decide, tn h1 (by decide), fun q => absurd q (by decide), fun q => by first | exact hq | exact absurd q (by decide), fun q => by first | exact hq | exact absurd q (by decide)⟩⟩
          · refine x_iconst hm rfl (v := nI 1) (by decide) ?_
            refine x_goto hm rfl (t := 120) rfl ?_
            refine x_iret hm rfl rfl (by first | rfl | exact bI_nar | decide) ?_
            exact ⟨_, rfl, rfl, by first | exact Or.inl rfl | exact Or.inr ⟨rfl, 5, by decide, tn h1 (by decide), fun q => absurd q (by decide), fun q => by first | exact hq | exact absurd q (by decide), fun q => by first | exact hq | exact absurd q (by decide)⟩⟩
theorem forge_tw {f t : Nat} {v : Int32} (hf : f < 6) (g0 : f = 0 → okx 3 v) (g4 : f = 4 → okx 2 v) (g5 : f = 5 → okx 2 v) : Tw 1 M (mput M (1 + 2 + f) t v) := by
  rw [Nat.add_assoc]
  refine Tw.row (b := 1) (j := 2 + f) (Or.inl rfl) (by omega) (by omega) ?_
  rcases (by omega : f = 0 ∨ f = 4 ∨ f = 5 ∨ (f ≠ 0 ∧ f ≠ 4 ∧ f ≠ 5)) with rfl | rfl | rfl | ⟨h1, h2, h3⟩
  · exact g0 rfl
  · exact g4 rfl
  · exact g5 rfl
  · rw [if_neg (by omega), if_neg (by omega)]
    trivial
theorem t17 {a1 a2 a3 : Int32} (hW : Wf M) : ∃ v M', mT X 17 [.ref 0, .int a1, .int a2, .int a3] (con M) (some (.int v)) (con M') ∧ Ck M M' := by
  refine ti_of (row := _) rfl (Nat.le_of_ble_eq_true rfl) ?_
  have hm : mMet 17 = some _ := rfl
  obtain ⟨nt, hn8, hnt⟩ := hW.ct (b := 1) (by decide)
  refine x_aload_n hm rfl rfl ?_
  refine x_getf hm rfl (gR rfl rfl) ?_
  refine x_iload_n hm rfl rfl ?_
  refine x_callV hm rfl rfl (t10 (by decide)) ?_
  refine x_if_eq hm rfl (t := 21) rfl (fun h1 => ?_) (fun h1 => ?_)
  · refine x_aload_n hm rfl rfl ?_
    refine x_ldcI hm rfl (v := (-1000001 : Int32)) (by decide +kernel) ?_
    refine x_cVi hm rfl rfl (t7 (by decide +kernel)) (fun v2 M2 r2 => ?_)
    refine x_iret hm rfl rfl (by first | rfl | exact bI_nar | decide) ?_
    first
      | exact ⟨_, _, rfl, rfl, r2.2.ck hW⟩
      | exact ⟨_, _, rfl, rfl, Ck.rf hW⟩
      | exact ⟨_, _, rfl, rfl, (forge_tw hf g0 g4 g5).ck hW⟩
      | exact ⟨_, _, rfl, rfl, r1.2.ck hW⟩
      | exact ⟨_, _, rfl, rfl, r3.2.ck hW⟩
      | exact ⟨_, _, rfl, rfl, r4.2.ck hW⟩
      | exact ⟨_, _, rfl, rfl, r5.2.ck hW⟩
      | exact ⟨_, _, rfl, rfl, r6.2.ck hW⟩
      | exact ⟨_, _, rfl, rfl, r7.2.ck hW⟩
      | exact ⟨_, _, rfl, rfl, r8.2.ck hW⟩
      | exact ⟨_, _, rfl, rfl, r9.2.ck hW⟩
      | exact ⟨_, _, rfl, rfl, r10.2.ck hW⟩
      | exact ⟨_, _, rfl, rfl, r11.2.ck hW⟩
      | exact ⟨_, _, rfl, rfl, r12.2.ck hW⟩
      | exact ⟨_, _, rfl, rfl, r13.2.ck hW⟩
      | exact ⟨_, _, rfl, rfl, r14.2.ck hW⟩
      | exact ⟨_, _, rfl, rfl, r15.2.ck hW⟩
      | exact ⟨_, _, rfl, rfl, r16.2.ck hW⟩
      | exact ⟨_, _, rfl, rfl, r17.2.ck hW⟩
      | exact ⟨_, _, rfl, rfl, r18.2.ck hW⟩
      | exact ⟨_, _, rfl, rfl, r19.2.ck hW⟩
  · obtain ⟨t, ht, rfl⟩ := in_k hnt (by omega) (bI_ne0 h1)
    refine x_aload_n hm rfl rfl ?_
    refine x_iload_n hm rfl rfl ?_
    refine x_iload_n hm rfl rfl ?_
    refine x_iload_n hm rfl rfl ?_
    refine x_cVe hm rfl rfl (t18 hW) (fun v3 r3 => ?_)
    refine x_if_ne hm rfl (t := 28) rfl (fun h4 => ?_) (fun h4 => ?_)
    · first
        | obtain ⟨-, f, hf, rfl, g0, g4, g5⟩ := r3.resolve_left (fun e => by subst e; exact h4 rfl)
        | obtain ⟨-, f, hf, rfl, g0, g4, g5⟩ := r1.resolve_left (fun e => by subst e; exact h4 rfl)
        | obtain ⟨-, f, hf, rfl, g0, g4, g5⟩ := r2.resolve_left (fun e => by subst e; exact h4 rfl)
        | obtain ⟨-, f, hf, rfl, g0, g4, g5⟩ := r4.resolve_left (fun e => by subst e; exact h4 rfl)
        | obtain ⟨-, f, hf, rfl, g0, g4, g5⟩ := r5.resolve_left (fun e => by subst e; exact h4 rfl)
        | obtain ⟨-, f, hf, rfl, g0, g4, g5⟩ := r6.resolve_left (fun e => by subst e; exact h4 rfl)
        | obtain ⟨-, f, hf, rfl, g0, g4, g5⟩ := r7.resolve_left (fun e => by subst e; exact h4 rfl)
      refine x_iload_n hm rfl rfl ?_
      refine x_iconst hm rfl (v := nI 5) (by decide) ?_
      refine x_icmp_ne hm rfl (t := 60) rfl (fun h5 => ?_) (fun h5 => ?_)
      · refine x_aload_n hm rfl rfl ?_
        refine x_getf hm rfl (gR rfl rfl) ?_
        refine x_getf hm rfl (gR rfl rfl) ?_
        refine x_iload_n hm rfl rfl ?_
        refine x_aald hm rfl (lQ 3 (Or.inr (Or.inl rfl)) (tI (b := 1) (by decide)) (tIk (by omega)) (by omega) (by decide)) ?_
        refine x_iload_n hm rfl rfl ?_
        refine x_iald hm rfl (lI (tRowI (b := 1) (by decide) (by omega)) (by omega) (by decide)) ?_
        refine x_istore hm rfl rfl ?_
        refine x_aload_n hm rfl rfl ?_
        refine x_getf hm rfl (gR rfl rfl) ?_
        refine x_getf hm rfl (gR rfl rfl) ?_
        refine x_iload_n hm rfl rfl ?_
        refine x_aald hm rfl (lQ 3 (Or.inr (Or.inl rfl)) (tI (b := 1) (by decide)) (tIk (by omega)) (by omega) (by decide)) ?_
        refine x_iload_n hm rfl rfl ?_
        refine x_iload_n hm rfl rfl ?_
        refine x_iast hm rfl (sI (tRowI (b := 1) (by decide) (by omega)) (by omega) (by decide)) ?_
        refine x_iload hm rfl rfl ?_
        refine x_iret hm rfl rfl (by first | rfl | exact bI_nar | decide) ?_
        first
          | exact ⟨_, _, rfl, rfl, r3.2.ck hW⟩
          | exact ⟨_, _, rfl, rfl, Ck.rf hW⟩
          | exact ⟨_, _, rfl, rfl, (forge_tw hf g0 g4 g5).ck hW⟩
          | exact ⟨_, _, rfl, rfl, r1.2.ck hW⟩
          | exact ⟨_, _, rfl, rfl, r2.2.ck hW⟩
          | exact ⟨_, _, rfl, rfl, r4.2.ck hW⟩
          | exact ⟨_, _, rfl, rfl, r5.2.ck hW⟩
          | exact ⟨_, _, rfl, rfl, r6.2.ck hW⟩
          | exact ⟨_, _, rfl, rfl, r7.2.ck hW⟩
          | exact ⟨_, _, rfl, rfl, r8.2.ck hW⟩
          | exact ⟨_, _, rfl, rfl, r9.2.ck hW⟩
          | exact ⟨_, _, rfl, rfl, r10.2.ck hW⟩
          | exact ⟨_, _, rfl, rfl, r11.2.ck hW⟩
          | exact ⟨_, _, rfl, rfl, r12.2.ck hW⟩
          | exact ⟨_, _, rfl, rfl, r13.2.ck hW⟩
          | exact ⟨_, _, rfl, rfl, r14.2.ck hW⟩
          | exact ⟨_, _, rfl, rfl, r15.2.ck hW⟩
          | exact ⟨_, _, rfl, rfl, r16.2.ck hW⟩
          | exact ⟨_, _, rfl, rfl, r17.2.ck hW⟩
          | exact ⟨_, _, rfl, rfl, r18.2.ck hW⟩
          | exact ⟨_, _, rfl, rfl, r19.2.ck hW⟩
      · refine x_iload_n hm rfl rfl ?_
        refine x_iconst hm rfl (v := (-1 : Int32)) (by decide) ?_
        refine x_icmp_eq hm rfl (t := 60) rfl (fun h6 => ?_) (fun h6 => ?_)
        · refine x_aload_n hm rfl rfl ?_
          refine x_getf hm rfl (gR rfl rfl) ?_
          refine x_getf hm rfl (gR rfl rfl) ?_
          refine x_iload_n hm rfl rfl ?_
          refine x_aald hm rfl (lQ 3 (Or.inr (Or.inl rfl)) (tI (b := 1) (by decide)) (tIk (by omega)) (by omega) (by decide)) ?_
          refine x_iload_n hm rfl rfl ?_
          refine x_iald hm rfl (lI (tRowI (b := 1) (by decide) (by omega)) (by omega) (by decide)) ?_
          refine x_istore hm rfl rfl ?_
          refine x_aload_n hm rfl rfl ?_
          refine x_getf hm rfl (gR rfl rfl) ?_
          refine x_getf hm rfl (gR rfl rfl) ?_
          refine x_iload_n hm rfl rfl ?_
          refine x_aald hm rfl (lQ 3 (Or.inr (Or.inl rfl)) (tI (b := 1) (by decide)) (tIk (by omega)) (by omega) (by decide)) ?_
          refine x_iload_n hm rfl rfl ?_
          refine x_iload_n hm rfl rfl ?_
          refine x_iast hm rfl (sI (tRowI (b := 1) (by decide) (by omega)) (by omega) (by decide)) ?_
          refine x_iload hm rfl rfl ?_
          refine x_iret hm rfl rfl (by first | rfl | exact bI_nar | decide) ?_
          first
            | exact ⟨_, _, rfl, rfl, r3.2.ck hW⟩
            | exact ⟨_, _, rfl, rfl, Ck.rf hW⟩
            | exact ⟨_, _, rfl, rfl, (forge_tw hf g0 g4 g5).ck hW⟩
            | exact ⟨_, _, rfl, rfl, r1.2.ck hW⟩
            | exact ⟨_, _, rfl, rfl, r2.2.ck hW⟩
            | exact ⟨_, _, rfl, rfl, r4.2.ck hW⟩
            | exact ⟨_, _, rfl, rfl, r5.2.ck hW⟩
            | exact ⟨_, _, rfl, rfl, r6.2.ck hW⟩
            | exact ⟨_, _, rfl, rfl, r7.2.ck hW⟩
            | exact ⟨_, _, rfl, rfl, r8.2.ck hW⟩
            | exact ⟨_, _, rfl, rfl, r9.2.ck hW⟩
            | exact ⟨_, _, rfl, rfl, r10.2.ck hW⟩
            | exact ⟨_, _, rfl, rfl, r11.2.ck hW⟩
            | exact ⟨_, _, rfl, rfl, r12.2.ck hW⟩
            | exact ⟨_, _, rfl, rfl, r13.2.ck hW⟩
            | exact ⟨_, _, rfl, rfl, r14.2.ck hW⟩
            | exact ⟨_, _, rfl, rfl, r15.2.ck hW⟩
            | exact ⟨_, _, rfl, rfl, r16.2.ck hW⟩
            | exact ⟨_, _, rfl, rfl, r17.2.ck hW⟩
            | exact ⟨_, _, rfl, rfl, r18.2.ck hW⟩
            | exact ⟨_, _, rfl, rfl, r19.2.ck hW⟩
        · refine x_aload_n hm rfl rfl ?_
          refine x_getf hm rfl (gR rfl rfl) ?_
          refine x_iload_n hm rfl rfl ?_
          refine x_cVe hm rfl rfl (t20 (by decide) hW) (fun v7 r7 => ?_)
          refine x_iload_n hm rfl rfl ?_
          refine x_cSe hm rfl rfl (t21) (fun v8 r8 => ?_)
          refine x_if_eq hm rfl (t := 60) rfl (fun h9 => ?_) (fun h9 => ?_)
          · refine x_aload_n hm rfl rfl ?_
            refine x_getf hm rfl (gR rfl rfl) ?_
            refine x_getf hm rfl (gR rfl rfl) ?_
            refine x_iload_n hm rfl rfl ?_
            refine x_aald hm rfl (lQ 3 (Or.inr (Or.inl rfl)) (tI (b := 1) (by decide)) (tIk (by omega)) (by omega) (by decide)) ?_
            refine x_iload_n hm rfl rfl ?_
            refine x_iald hm rfl (lI (tRowI (b := 1) (by decide) (by omega)) (by omega) (by decide)) ?_
            refine x_istore hm rfl rfl ?_
            refine x_aload_n hm rfl rfl ?_
            refine x_getf hm rfl (gR rfl rfl) ?_
            refine x_getf hm rfl (gR rfl rfl) ?_
            refine x_iload_n hm rfl rfl ?_
            refine x_aald hm rfl (lQ 3 (Or.inr (Or.inl rfl)) (tI (b := 1) (by decide)) (tIk (by omega)) (by omega) (by decide)) ?_
            refine x_iload_n hm rfl rfl ?_
            refine x_iload_n hm rfl rfl ?_
            refine x_iast hm rfl (sI (tRowI (b := 1) (by decide) (by omega)) (by omega) (by decide)) ?_
            refine x_iload hm rfl rfl ?_
            refine x_iret hm rfl rfl (by first | rfl | exact bI_nar | decide) ?_
            first
              | exact ⟨_, _, rfl, rfl, r8.2.ck hW⟩
              | exact ⟨_, _, rfl, rfl, Ck.rf hW⟩
              | exact ⟨_, _, rfl, rfl, (forge_tw hf g0 g4 g5).ck hW⟩
              | exact ⟨_, _, rfl, rfl, r3.2.ck hW⟩
              | exact ⟨_, _, rfl, rfl, r7.2.ck hW⟩
              | exact ⟨_, _, rfl, rfl, r1.2.ck hW⟩
              | exact ⟨_, _, rfl, rfl, r2.2.ck hW⟩
              | exact ⟨_, _, rfl, rfl, r4.2.ck hW⟩
              | exact ⟨_, _, rfl, rfl, r5.2.ck hW⟩
              | exact ⟨_, _, rfl, rfl, r6.2.ck hW⟩
              | exact ⟨_, _, rfl, rfl, r9.2.ck hW⟩
              | exact ⟨_, _, rfl, rfl, r10.2.ck hW⟩
              | exact ⟨_, _, rfl, rfl, r11.2.ck hW⟩
              | exact ⟨_, _, rfl, rfl, r12.2.ck hW⟩
              | exact ⟨_, _, rfl, rfl, r13.2.ck hW⟩
              | exact ⟨_, _, rfl, rfl, r14.2.ck hW⟩
              | exact ⟨_, _, rfl, rfl, r15.2.ck hW⟩
              | exact ⟨_, _, rfl, rfl, r16.2.ck hW⟩
              | exact ⟨_, _, rfl, rfl, r17.2.ck hW⟩
              | exact ⟨_, _, rfl, rfl, r18.2.ck hW⟩
              | exact ⟨_, _, rfl, rfl, r19.2.ck hW⟩
          · refine x_aload_n hm rfl rfl ?_
            refine x_ldcI hm rfl (v := (-1000005 : Int32)) (by decide +kernel) ?_
            refine x_cVi hm rfl rfl (t7 (by decide +kernel)) (fun v10 M10 r10 => ?_)
            refine x_iret hm rfl rfl (by first | rfl | exact bI_nar | decide) ?_
            first
              | exact ⟨_, _, rfl, rfl, r10.2.ck hW⟩
              | exact ⟨_, _, rfl, rfl, Ck.rf hW⟩
              | exact ⟨_, _, rfl, rfl, (forge_tw hf g0 g4 g5).ck hW⟩
              | exact ⟨_, _, rfl, rfl, r3.2.ck hW⟩
              | exact ⟨_, _, rfl, rfl, r7.2.ck hW⟩
              | exact ⟨_, _, rfl, rfl, r8.2.ck hW⟩
              | exact ⟨_, _, rfl, rfl, r1.2.ck hW⟩
              | exact ⟨_, _, rfl, rfl, r2.2.ck hW⟩
              | exact ⟨_, _, rfl, rfl, r4.2.ck hW⟩
              | exact ⟨_, _, rfl, rfl, r5.2.ck hW⟩
              | exact ⟨_, _, rfl, rfl, r6.2.ck hW⟩
              | exact ⟨_, _, rfl, rfl, r9.2.ck hW⟩
              | exact ⟨_, _, rfl, rfl, r11.2.ck hW⟩
              | exact ⟨_, _, rfl, rfl, r12.2.ck hW⟩
              | exact ⟨_, _, rfl, rfl, r13.2.ck hW⟩
              | exact ⟨_, _, rfl, rfl, r14.2.ck hW⟩
              | exact ⟨_, _, rfl, rfl, r15.2.ck hW⟩
              | exact ⟨_, _, rfl, rfl, r16.2.ck hW⟩
              | exact ⟨_, _, rfl, rfl, r17.2.ck hW⟩
              | exact ⟨_, _, rfl, rfl, r18.2.ck hW⟩
              | exact ⟨_, _, rfl, rfl, r19.2.ck hW⟩
    · refine x_aload_n hm rfl rfl ?_
      refine x_ldcI hm rfl (v := (-1000001 : Int32)) (by decide +kernel) ?_
      refine x_cVi hm rfl rfl (t7 (by decide +kernel)) (fun v11 M11 r11 => ?_)
      refine x_iret hm rfl rfl (by first | rfl | exact bI_nar | decide) ?_
      first
        | exact ⟨_, _, rfl, rfl, r11.2.ck hW⟩
        | exact ⟨_, _, rfl, rfl, Ck.rf hW⟩
        | exact ⟨_, _, rfl, rfl, (forge_tw hf g0 g4 g5).ck hW⟩
        | exact ⟨_, _, rfl, rfl, r3.2.ck hW⟩
        | exact ⟨_, _, rfl, rfl, r1.2.ck hW⟩
        | exact ⟨_, _, rfl, rfl, r2.2.ck hW⟩
        | exact ⟨_, _, rfl, rfl, r4.2.ck hW⟩
        | exact ⟨_, _, rfl, rfl, r5.2.ck hW⟩
        | exact ⟨_, _, rfl, rfl, r6.2.ck hW⟩
        | exact ⟨_, _, rfl, rfl, r7.2.ck hW⟩
        | exact ⟨_, _, rfl, rfl, r8.2.ck hW⟩
        | exact ⟨_, _, rfl, rfl, r9.2.ck hW⟩
        | exact ⟨_, _, rfl, rfl, r10.2.ck hW⟩
        | exact ⟨_, _, rfl, rfl, r12.2.ck hW⟩
        | exact ⟨_, _, rfl, rfl, r13.2.ck hW⟩
        | exact ⟨_, _, rfl, rfl, r14.2.ck hW⟩
        | exact ⟨_, _, rfl, rfl, r15.2.ck hW⟩
        | exact ⟨_, _, rfl, rfl, r16.2.ck hW⟩
        | exact ⟨_, _, rfl, rfl, r17.2.ck hW⟩
        | exact ⟨_, _, rfl, rfl, r18.2.ck hW⟩
        | exact ⟨_, _, rfl, rfl, r19.2.ck hW⟩
theorem t22 {a1 a2 : Int32} (hW : Wf M) : ∃ v M', mT X 22 [.ref 0, .int a1, .int a2] (con M) (some (.int v)) (con M') ∧ Ck M M' := by
  refine ti_of (row := _) rfl (Nat.le_of_ble_eq_true rfl) ?_
  have hm : mMet 22 = some _ := rfl
  obtain ⟨np, hp8, hnp⟩ := hW.cpn (b := 1) (by decide)
  refine x_iload_n hm rfl rfl ?_
  refine x_iconst hm rfl (v := nI 0) (by decide) ?_
  refine x_bipush hm rfl (v := nI 6) (by decide) ?_
  refine x_callS hm rfl rfl (t6) ?_
  refine x_if_eq hm rfl (t := 20) rfl (fun h1 => ?_) (fun h1 => ?_)
  · refine x_aload_n hm rfl rfl ?_
    refine x_ldcI hm rfl (v := (-1000001 : Int32)) (by decide +kernel) ?_
    refine x_cVi hm rfl rfl (t7 (by decide +kernel)) (fun v2 M2 r2 => ?_)
    refine x_iret hm rfl rfl (by first | rfl | exact bI_nar | decide) ?_
    first
      | exact ⟨_, _, rfl, rfl, r2.2.ck hW⟩
      | exact ⟨_, _, rfl, rfl, r2.2.1.ck hW⟩
      | exact ⟨_, _, rfl, rfl, Ck.rf hW⟩
      | exact ⟨_, _, rfl, rfl, r1.2.ck hW⟩
      | exact ⟨_, _, rfl, rfl, r3.2.ck hW⟩
      | exact ⟨_, _, rfl, rfl, r4.2.ck hW⟩
      | exact ⟨_, _, rfl, rfl, r5.2.ck hW⟩
      | exact ⟨_, _, rfl, rfl, r6.2.ck hW⟩
      | exact ⟨_, _, rfl, rfl, r7.2.ck hW⟩
      | exact ⟨_, _, rfl, rfl, r8.2.ck hW⟩
      | exact ⟨_, _, rfl, rfl, r9.2.ck hW⟩
      | exact ⟨_, _, rfl, rfl, r10.2.ck hW⟩
      | exact ⟨_, _, rfl, rfl, r11.2.ck hW⟩
      | exact ⟨_, _, rfl, rfl, r12.2.ck hW⟩
      | exact ⟨_, _, rfl, rfl, r13.2.ck hW⟩
      | exact ⟨_, _, rfl, rfl, r14.2.ck hW⟩
      | exact ⟨_, _, rfl, rfl, r15.2.ck hW⟩
      | exact ⟨_, _, rfl, rfl, r16.2.ck hW⟩
      | exact ⟨_, _, rfl, rfl, r17.2.ck hW⟩
      | exact ⟨_, _, rfl, rfl, r18.2.ck hW⟩
      | exact ⟨_, _, rfl, rfl, r19.2.ck hW⟩
      | exact ⟨_, _, rfl, rfl, r1.2.1.ck hW⟩
      | exact ⟨_, _, rfl, rfl, r3.2.1.ck hW⟩
      | exact ⟨_, _, rfl, rfl, r4.2.1.ck hW⟩
      | exact ⟨_, _, rfl, rfl, r5.2.1.ck hW⟩
      | exact ⟨_, _, rfl, rfl, r6.2.1.ck hW⟩
      | exact ⟨_, _, rfl, rfl, r7.2.1.ck hW⟩
      | exact ⟨_, _, rfl, rfl, r8.2.1.ck hW⟩
      | exact ⟨_, _, rfl, rfl, r9.2.1.ck hW⟩
      | exact ⟨_, _, rfl, rfl, r10.2.1.ck hW⟩
      | exact ⟨_, _, rfl, rfl, r11.2.1.ck hW⟩
  · refine x_iload_n hm rfl rfl ?_
    refine x_iconst hm rfl (v := nI 0) (by decide) ?_
    refine x_bipush hm rfl (v := nI 15) (by decide) ?_
    refine x_callS hm rfl rfl (t6) ?_
    refine x_if_ne hm rfl (t := 27) rfl (fun h3 => ?_) (fun h3 => ?_)
    · refine x_aload_n hm rfl rfl ?_
      refine x_getf hm rfl (gR rfl rfl) ?_
      refine x_getf hm rfl (gI rfl rfl) ?_
      rw [hnp]
      refine x_bipush hm rfl (v := nI 8) (by decide) ?_
      refine x_icmp_lt hm rfl (t := 46) rfl (fun h4 => ?_) (fun h4 => ?_)
      · have hlt : np < 8 := Nat.lt_of_not_le fun h => absurd h4 (Int32.not_lt.mpr (nI_le h (by omega)))
        refine x_aload_n hm rfl rfl ?_
        refine x_getf hm rfl (gR rfl rfl) ?_
        refine x_iload_n hm rfl rfl ?_
        refine x_iload_n hm rfl rfl ?_
        refine x_cVi hm rfl rfl (t23 (by decide) hnp hlt) (fun v5 M5 r5 => ?_)
        refine x_iret hm rfl rfl (by first | rfl | exact bI_nar | decide) ?_
        first
          | exact ⟨_, _, rfl, rfl, r5.2.ck hW⟩
          | exact ⟨_, _, rfl, rfl, r5.2.1.ck hW⟩
          | exact ⟨_, _, rfl, rfl, Ck.rf hW⟩
          | exact ⟨_, _, rfl, rfl, r1.2.ck hW⟩
          | exact ⟨_, _, rfl, rfl, r2.2.ck hW⟩
          | exact ⟨_, _, rfl, rfl, r3.2.ck hW⟩
          | exact ⟨_, _, rfl, rfl, r4.2.ck hW⟩
          | exact ⟨_, _, rfl, rfl, r6.2.ck hW⟩
          | exact ⟨_, _, rfl, rfl, r7.2.ck hW⟩
          | exact ⟨_, _, rfl, rfl, r8.2.ck hW⟩
          | exact ⟨_, _, rfl, rfl, r9.2.ck hW⟩
          | exact ⟨_, _, rfl, rfl, r10.2.ck hW⟩
          | exact ⟨_, _, rfl, rfl, r11.2.ck hW⟩
          | exact ⟨_, _, rfl, rfl, r12.2.ck hW⟩
          | exact ⟨_, _, rfl, rfl, r13.2.ck hW⟩
          | exact ⟨_, _, rfl, rfl, r14.2.ck hW⟩
          | exact ⟨_, _, rfl, rfl, r15.2.ck hW⟩
          | exact ⟨_, _, rfl, rfl, r16.2.ck hW⟩
          | exact ⟨_, _, rfl, rfl, r17.2.ck hW⟩
          | exact ⟨_, _, rfl, rfl, r18.2.ck hW⟩
          | exact ⟨_, _, rfl, rfl, r19.2.ck hW⟩
          | exact ⟨_, _, rfl, rfl, r1.2.1.ck hW⟩
          | exact ⟨_, _, rfl, rfl, r2.2.1.ck hW⟩
          | exact ⟨_, _, rfl, rfl, r3.2.1.ck hW⟩
          | exact ⟨_, _, rfl, rfl, r4.2.1.ck hW⟩
          | exact ⟨_, _, rfl, rfl, r6.2.1.ck hW⟩
          | exact ⟨_, _, rfl, rfl, r7.2.1.ck hW⟩
          | exact ⟨_, _, rfl, rfl, r8.2.1.ck hW⟩
          | exact ⟨_, _, rfl, rfl, r9.2.1.ck hW⟩
          | exact ⟨_, _, rfl, rfl, r10.2.1.ck hW⟩
          | exact ⟨_, _, rfl, rfl, r11.2.1.ck hW⟩
      · refine x_aload_n hm rfl rfl ?_
        refine x_ldcI hm rfl (v := (-1000002 : Int32)) (by decide +kernel) ?_
        refine x_cVi hm rfl rfl (t7 (by decide +kernel)) (fun v6 M6 r6 => ?_)
        refine x_iret hm rfl rfl (by first | rfl | exact bI_nar | decide) ?_
        first
          | exact ⟨_, _, rfl, rfl, r6.2.ck hW⟩
          | exact ⟨_, _, rfl, rfl, r6.2.1.ck hW⟩
          | exact ⟨_, _, rfl, rfl, Ck.rf hW⟩
          | exact ⟨_, _, rfl, rfl, r1.2.ck hW⟩
          | exact ⟨_, _, rfl, rfl, r2.2.ck hW⟩
          | exact ⟨_, _, rfl, rfl, r3.2.ck hW⟩
          | exact ⟨_, _, rfl, rfl, r4.2.ck hW⟩
          | exact ⟨_, _, rfl, rfl, r5.2.ck hW⟩
          | exact ⟨_, _, rfl, rfl, r7.2.ck hW⟩
          | exact ⟨_, _, rfl, rfl, r8.2.ck hW⟩
          | exact ⟨_, _, rfl, rfl, r9.2.ck hW⟩
          | exact ⟨_, _, rfl, rfl, r10.2.ck hW⟩
          | exact ⟨_, _, rfl, rfl, r11.2.ck hW⟩
          | exact ⟨_, _, rfl, rfl, r12.2.ck hW⟩
          | exact ⟨_, _, rfl, rfl, r13.2.ck hW⟩
          | exact ⟨_, _, rfl, rfl, r14.2.ck hW⟩
          | exact ⟨_, _, rfl, rfl, r15.2.ck hW⟩
          | exact ⟨_, _, rfl, rfl, r16.2.ck hW⟩
          | exact ⟨_, _, rfl, rfl, r17.2.ck hW⟩
          | exact ⟨_, _, rfl, rfl, r18.2.ck hW⟩
          | exact ⟨_, _, rfl, rfl, r19.2.ck hW⟩
          | exact ⟨_, _, rfl, rfl, r1.2.1.ck hW⟩
          | exact ⟨_, _, rfl, rfl, r2.2.1.ck hW⟩
          | exact ⟨_, _, rfl, rfl, r3.2.1.ck hW⟩
          | exact ⟨_, _, rfl, rfl, r4.2.1.ck hW⟩
          | exact ⟨_, _, rfl, rfl, r5.2.1.ck hW⟩
          | exact ⟨_, _, rfl, rfl, r7.2.1.ck hW⟩
          | exact ⟨_, _, rfl, rfl, r8.2.1.ck hW⟩
          | exact ⟨_, _, rfl, rfl, r9.2.1.ck hW⟩
          | exact ⟨_, _, rfl, rfl, r10.2.1.ck hW⟩
          | exact ⟨_, _, rfl, rfl, r11.2.1.ck hW⟩
    · refine x_aload_n hm rfl rfl ?_
      refine x_ldcI hm rfl (v := (-1000001 : Int32)) (by decide +kernel) ?_
      refine x_cVi hm rfl rfl (t7 (by decide +kernel)) (fun v7 M7 r7 => ?_)
      refine x_iret hm rfl rfl (by first | rfl | exact bI_nar | decide) ?_
      first
        | exact ⟨_, _, rfl, rfl, r7.2.ck hW⟩
        | exact ⟨_, _, rfl, rfl, r7.2.1.ck hW⟩
        | exact ⟨_, _, rfl, rfl, Ck.rf hW⟩
        | exact ⟨_, _, rfl, rfl, r1.2.ck hW⟩
        | exact ⟨_, _, rfl, rfl, r2.2.ck hW⟩
        | exact ⟨_, _, rfl, rfl, r3.2.ck hW⟩
        | exact ⟨_, _, rfl, rfl, r4.2.ck hW⟩
        | exact ⟨_, _, rfl, rfl, r5.2.ck hW⟩
        | exact ⟨_, _, rfl, rfl, r6.2.ck hW⟩
        | exact ⟨_, _, rfl, rfl, r8.2.ck hW⟩
        | exact ⟨_, _, rfl, rfl, r9.2.ck hW⟩
        | exact ⟨_, _, rfl, rfl, r10.2.ck hW⟩
        | exact ⟨_, _, rfl, rfl, r11.2.ck hW⟩
        | exact ⟨_, _, rfl, rfl, r12.2.ck hW⟩
        | exact ⟨_, _, rfl, rfl, r13.2.ck hW⟩
        | exact ⟨_, _, rfl, rfl, r14.2.ck hW⟩
        | exact ⟨_, _, rfl, rfl, r15.2.ck hW⟩
        | exact ⟨_, _, rfl, rfl, r16.2.ck hW⟩
        | exact ⟨_, _, rfl, rfl, r17.2.ck hW⟩
        | exact ⟨_, _, rfl, rfl, r18.2.ck hW⟩
        | exact ⟨_, _, rfl, rfl, r19.2.ck hW⟩
        | exact ⟨_, _, rfl, rfl, r1.2.1.ck hW⟩
        | exact ⟨_, _, rfl, rfl, r2.2.1.ck hW⟩
        | exact ⟨_, _, rfl, rfl, r3.2.1.ck hW⟩
        | exact ⟨_, _, rfl, rfl, r4.2.1.ck hW⟩
        | exact ⟨_, _, rfl, rfl, r5.2.1.ck hW⟩
        | exact ⟨_, _, rfl, rfl, r6.2.1.ck hW⟩
        | exact ⟨_, _, rfl, rfl, r8.2.1.ck hW⟩
        | exact ⟨_, _, rfl, rfl, r9.2.1.ck hW⟩
        | exact ⟨_, _, rfl, rfl, r10.2.1.ck hW⟩
        | exact ⟨_, _, rfl, rfl, r11.2.1.ck hW⟩
theorem t24 {a1 a2 : Int32} (hW : Wf M) : ∃ v M', mT X 24 [.ref 0, .int a1, .int a2] (con M) (some (.int v)) (con M') ∧ Cq M M' := by
  refine ti_of (row := _) rfl (Nat.le_of_ble_eq_true rfl) ?_
  have hm : mMet 24 = some _ := rfl
  obtain ⟨np, hp8, hnp⟩ := hW.cpn (b := 1) (by decide)
  refine x_aload_n hm rfl rfl ?_
  refine x_getf hm rfl (gR rfl rfl) ?_
  refine x_iload_n hm rfl rfl ?_
  refine x_callV hm rfl rfl (t19 (by decide)) ?_
  refine x_if_eq hm rfl (t := 21) rfl (fun h1 => ?_) (fun h1 => ?_)
  · refine x_aload_n hm rfl rfl ?_
    refine x_ldcI hm rfl (v := (-1000001 : Int32)) (by decide +kernel) ?_
    refine x_cVi hm rfl rfl (t7 (by decide +kernel)) (fun v2 M2 r2 => ?_)
    refine x_iret hm rfl rfl (by first | rfl | exact bI_nar | decide) ?_
    first
      | exact ⟨_, _, rfl, rfl, r2.2.cq hW⟩
      | exact ⟨_, _, rfl, rfl, Cq.rf hW⟩
      | exact ⟨_, _, rfl, rfl, r1.2.cq hW⟩
      | exact ⟨_, _, rfl, rfl, r3.2.cq hW⟩
      | exact ⟨_, _, rfl, rfl, r4.2.cq hW⟩
      | exact ⟨_, _, rfl, rfl, r5.2.cq hW⟩
      | exact ⟨_, _, rfl, rfl, r6.2.cq hW⟩
      | exact ⟨_, _, rfl, rfl, r7.2.cq hW⟩
      | exact ⟨_, _, rfl, rfl, r8.2.cq hW⟩
      | exact ⟨_, _, rfl, rfl, r9.2.cq hW⟩
      | exact ⟨_, _, rfl, rfl, r10.2.cq hW⟩
      | exact ⟨_, _, rfl, rfl, r11.2.cq hW⟩
      | exact ⟨_, _, rfl, rfl, r12.2.cq hW⟩
      | exact ⟨_, _, rfl, rfl, r13.2.cq hW⟩
      | exact ⟨_, _, rfl, rfl, r14.2.cq hW⟩
      | exact ⟨_, _, rfl, rfl, r15.2.cq hW⟩
      | exact ⟨_, _, rfl, rfl, r16.2.cq hW⟩
      | exact ⟨_, _, rfl, rfl, r17.2.cq hW⟩
      | exact ⟨_, _, rfl, rfl, r18.2.cq hW⟩
      | exact ⟨_, _, rfl, rfl, r19.2.cq hW⟩
  · obtain ⟨p, hp, rfl⟩ := in_k hnp (by omega) (bI_ne0 h1)
    refine x_iload_n hm rfl rfl ?_
    refine x_iconst hm rfl (v := nI 0) (by decide) ?_
    refine x_bipush hm rfl (v := nI 7) (by decide) ?_
    refine x_callS hm rfl rfl (t6) ?_
    refine x_if_ne hm rfl (t := 28) rfl (fun h3 => ?_) (fun h3 => ?_)
    · obtain ⟨w, hw, rfl⟩ := le_k (by omega) (bI_ne0 h3)
      refine x_iload_n hm rfl rfl ?_
      refine x_bipush hm rfl (v := nI 7) (by decide) ?_
      refine x_icmp_ne hm rfl (t := 45) rfl (fun h4 => ?_) (fun h4 => ?_)
      · have hw6 : w ≠ 7 := fun e => h4 (by rw [e])
        refine x_aload_n hm rfl rfl ?_
        refine x_getf hm rfl (gR rfl rfl) ?_
        refine x_getf hm rfl (gR rfl rfl) ?_
        refine x_iload_n hm rfl rfl ?_
        refine x_aald hm rfl (lQ 3 (Or.inr (Or.inl rfl)) (tF (b := 1) (by decide)) (tFk (by omega)) (by omega) (by decide)) ?_
        refine x_iload_n hm rfl rfl ?_
        refine x_iald hm rfl (lI (tRowF (b := 1) (by decide) (by omega)) (by omega) (by decide)) ?_
        refine x_iret hm rfl rfl (by first | rfl | exact bI_nar | decide) ?_
        first
          | exact ⟨_, _, rfl, rfl, Cq.rf hW⟩
          | exact ⟨_, _, rfl, rfl, r1.2.cq hW⟩
          | exact ⟨_, _, rfl, rfl, r2.2.cq hW⟩
          | exact ⟨_, _, rfl, rfl, r3.2.cq hW⟩
          | exact ⟨_, _, rfl, rfl, r4.2.cq hW⟩
          | exact ⟨_, _, rfl, rfl, r5.2.cq hW⟩
          | exact ⟨_, _, rfl, rfl, r6.2.cq hW⟩
          | exact ⟨_, _, rfl, rfl, r7.2.cq hW⟩
          | exact ⟨_, _, rfl, rfl, r8.2.cq hW⟩
          | exact ⟨_, _, rfl, rfl, r9.2.cq hW⟩
          | exact ⟨_, _, rfl, rfl, r10.2.cq hW⟩
          | exact ⟨_, _, rfl, rfl, r11.2.cq hW⟩
          | exact ⟨_, _, rfl, rfl, r12.2.cq hW⟩
          | exact ⟨_, _, rfl, rfl, r13.2.cq hW⟩
          | exact ⟨_, _, rfl, rfl, r14.2.cq hW⟩
          | exact ⟨_, _, rfl, rfl, r15.2.cq hW⟩
          | exact ⟨_, _, rfl, rfl, r16.2.cq hW⟩
          | exact ⟨_, _, rfl, rfl, r17.2.cq hW⟩
          | exact ⟨_, _, rfl, rfl, r18.2.cq hW⟩
          | exact ⟨_, _, rfl, rfl, r19.2.cq hW⟩
      · refine x_aload_n hm rfl rfl ?_
        refine x_getf hm rfl (gR rfl rfl) ?_
        refine x_iload_n hm rfl rfl ?_
        refine x_cVe hm rfl rfl (t25 (by decide) hW) (fun v5 r5 => ?_)
        refine x_goto hm rfl (t := 56) rfl ?_
        refine x_iret hm rfl rfl (by first | rfl | exact bI_nar | decide) ?_
        first
          | exact ⟨_, _, rfl, rfl, r5.2.cq hW⟩
          | exact ⟨_, _, rfl, rfl, Cq.rf hW⟩
          | exact ⟨_, _, rfl, rfl, r1.2.cq hW⟩
          | exact ⟨_, _, rfl, rfl, r2.2.cq hW⟩
          | exact ⟨_, _, rfl, rfl, r3.2.cq hW⟩
          | exact ⟨_, _, rfl, rfl, r4.2.cq hW⟩
          | exact ⟨_, _, rfl, rfl, r6.2.cq hW⟩
          | exact ⟨_, _, rfl, rfl, r7.2.cq hW⟩
          | exact ⟨_, _, rfl, rfl, r8.2.cq hW⟩
          | exact ⟨_, _, rfl, rfl, r9.2.cq hW⟩
          | exact ⟨_, _, rfl, rfl, r10.2.cq hW⟩
          | exact ⟨_, _, rfl, rfl, r11.2.cq hW⟩
          | exact ⟨_, _, rfl, rfl, r12.2.cq hW⟩
          | exact ⟨_, _, rfl, rfl, r13.2.cq hW⟩
          | exact ⟨_, _, rfl, rfl, r14.2.cq hW⟩
          | exact ⟨_, _, rfl, rfl, r15.2.cq hW⟩
          | exact ⟨_, _, rfl, rfl, r16.2.cq hW⟩
          | exact ⟨_, _, rfl, rfl, r17.2.cq hW⟩
          | exact ⟨_, _, rfl, rfl, r18.2.cq hW⟩
          | exact ⟨_, _, rfl, rfl, r19.2.cq hW⟩
    · refine x_aload_n hm rfl rfl ?_
      refine x_ldcI hm rfl (v := (-1000001 : Int32)) (by decide +kernel) ?_
      refine x_cVi hm rfl rfl (t7 (by decide +kernel)) (fun v6 M6 r6 => ?_)
      refine x_iret hm rfl rfl (by first | rfl | exact bI_nar | decide) ?_
      first
        | exact ⟨_, _, rfl, rfl, r6.2.cq hW⟩
        | exact ⟨_, _, rfl, rfl, Cq.rf hW⟩
        | exact ⟨_, _, rfl, rfl, r1.2.cq hW⟩
        | exact ⟨_, _, rfl, rfl, r2.2.cq hW⟩
        | exact ⟨_, _, rfl, rfl, r3.2.cq hW⟩
        | exact ⟨_, _, rfl, rfl, r4.2.cq hW⟩
        | exact ⟨_, _, rfl, rfl, r5.2.cq hW⟩
        | exact ⟨_, _, rfl, rfl, r7.2.cq hW⟩
        | exact ⟨_, _, rfl, rfl, r8.2.cq hW⟩
        | exact ⟨_, _, rfl, rfl, r9.2.cq hW⟩
        | exact ⟨_, _, rfl, rfl, r10.2.cq hW⟩
        | exact ⟨_, _, rfl, rfl, r11.2.cq hW⟩
        | exact ⟨_, _, rfl, rfl, r12.2.cq hW⟩
        | exact ⟨_, _, rfl, rfl, r13.2.cq hW⟩
        | exact ⟨_, _, rfl, rfl, r14.2.cq hW⟩
        | exact ⟨_, _, rfl, rfl, r15.2.cq hW⟩
        | exact ⟨_, _, rfl, rfl, r16.2.cq hW⟩
        | exact ⟨_, _, rfl, rfl, r17.2.cq hW⟩
        | exact ⟨_, _, rfl, rfl, r18.2.cq hW⟩
        | exact ⟨_, _, rfl, rfl, r19.2.cq hW⟩
theorem t27 {a1 a2 : Int32} : ∃ v, mT X 27 [.int a1, .int a2] (con M) (some (.int v)) (con M) ∧ (v = nI 0 ∨ ∃ f, f < 7 ∧ a1 = nI f) := by
  refine te_of (row := _) rfl (Nat.le_of_ble_eq_true rfl) ?_
  have hm : mMet 27 = some _ := rfl
  refine x_iload_n hm rfl rfl ?_
  refine x_ts hm rfl (fun h1 => ⟨44, rfl, ?_⟩) (fun i1 h1 g1 => ?_)
  · refine x_iload_n hm rfl rfl ?_
    refine x_iconst hm rfl (v := nI 3) (by decide) ?_
    refine x_bipush hm rfl (v := nI 6) (by decide) ?_
    refine x_callS hm rfl rfl (t6) ?_
    refine x_if_eq hm rfl (t := 68) rfl (fun h2 => ?_) (fun h2 => ?_)
    · refine x_iconst hm rfl (v := nI 0) (by decide) ?_
      refine x_iret hm rfl rfl (by first | rfl | exact bI_nar | decide) ?_
      exact ⟨_, rfl, rfl, by first | exact Or.inl rfl | exact Or.inr ⟨f, by omega, hf⟩⟩
    · obtain ⟨f, hf6, hf⟩ := bt_k (by decide) (by decide) (bI_ne0 h2)
      refine x_iload_n hm rfl rfl ?_
      refine x_iconst hm rfl (v := nI 0) (by decide) ?_
      refine x_bipush hm rfl (v := nI 9) (by decide) ?_
      refine x_callS hm rfl rfl (t6) ?_
      refine x_if_eq hm rfl (t := 68) rfl (fun h3 => ?_) (fun h3 => ?_)
      · refine x_iconst hm rfl (v := nI 0) (by decide) ?_
        refine x_iret hm rfl rfl (by first | rfl | exact bI_nar | decide) ?_
        exact ⟨_, rfl, rfl, by first | exact Or.inl rfl | exact Or.inr ⟨f, by omega, hf⟩⟩
      · refine x_iconst hm rfl (v := nI 1) (by decide) ?_
        refine x_goto hm rfl (t := 69) rfl ?_
        refine x_iret hm rfl rfl (by first | rfl | exact bI_nar | decide) ?_
        exact ⟨_, rfl, rfl, by first | exact Or.inl rfl | exact Or.inr ⟨f, by omega, hf⟩⟩
  · have k1 : i1 = 0 ∨ i1 = 1 ∨ i1 = 2 := by omega
    rcases k1 with rfl | rfl | rfl
    · refine ⟨_, 28, rfl, rfl, ?_⟩
      refine x_iload_n hm rfl rfl ?_
      refine x_iconst hm rfl (v := nI 0) (by decide) ?_
      refine x_bipush hm rfl (v := nI 6) (by decide) ?_
      refine x_callS hm rfl rfl (t6) ?_
      refine x_iret hm rfl rfl (by first | rfl | exact bI_nar | decide) ?_
      exact ⟨_, rfl, rfl, Or.inr ⟨0, by decide, tn h1 (by decide)⟩⟩
    · refine ⟨_, 36, rfl, rfl, ?_⟩
      refine x_iload_n hm rfl rfl ?_
      refine x_iconst hm rfl (v := nI 0) (by decide) ?_
      refine x_bipush hm rfl (v := nI 15) (by decide) ?_
      refine x_callS hm rfl rfl (t6) ?_
      refine x_iret hm rfl rfl (by first | rfl | exact bI_nar | decide) ?_
      exact ⟨_, rfl, rfl, Or.inr (by first | exact ⟨1, by decide, tn h1 (by decide)⟩ | exact ⟨2, by decide, tn h1 (by decide)⟩)⟩
    · refine ⟨_, 36, rfl, rfl, ?_⟩
      refine x_iload_n hm rfl rfl ?_
      refine x_iconst hm rfl (v := nI 0) (by decide) ?_
      refine x_bipush hm rfl (v := nI 15) (by decide) ?_
      refine x_callS hm rfl rfl (t6) ?_
      refine x_iret hm rfl rfl (by first | rfl | exact bI_nar | decide) ?_
      exact ⟨_, rfl, rfl, Or.inr (by first | exact ⟨1, by decide, tn h1 (by decide)⟩ | exact ⟨2, by decide, tn h1 (by decide)⟩)⟩
theorem change_tw {f t : Nat} {v : Int32} (hf : f < 7) : Tw 1 M (mput M (1 + 9 + f) t v) := by
  rw [Nat.add_assoc]
  refine Tw.row (b := 1) (j := 9 + f) (Or.inl rfl) (by omega) (by omega) ?_
  rw [if_neg (by omega), if_neg (by omega)]
  trivial
theorem t26 {a1 a2 a3 : Int32} (hW : Wf M) : ∃ v M', mT X 26 [.ref 0, .int a1, .int a2, .int a3] (con M) (some (.int v)) (con M') ∧ Ck M M' := by
  refine ti_of (row := _) rfl (Nat.le_of_ble_eq_true rfl) ?_
  have hm : mMet 26 = some _ := rfl
  obtain ⟨np, hp8, hnp⟩ := hW.cpn (b := 1) (by decide)
  refine x_aload_n hm rfl rfl ?_
  refine x_getf hm rfl (gR rfl rfl) ?_
  refine x_iload_n hm rfl rfl ?_
  refine x_callV hm rfl rfl (t19 (by decide)) ?_
  refine x_if_eq hm rfl (t := 19) rfl (fun h1 => ?_) (fun h1 => ?_)
  · refine x_aload_n hm rfl rfl ?_
    refine x_ldcI hm rfl (v := (-1000001 : Int32)) (by decide +kernel) ?_
    refine x_cVi hm rfl rfl (t7 (by decide +kernel)) (fun v2 M2 r2 => ?_)
    refine x_iret hm rfl rfl (by first | rfl | exact bI_nar | decide) ?_
    first
      | exact ⟨_, _, rfl, rfl, r2.2.ck hW⟩
      | exact ⟨_, _, rfl, rfl, Ck.rf hW⟩
      | exact ⟨_, _, rfl, rfl, (change_tw hf).ck hW⟩
      | exact ⟨_, _, rfl, rfl, r1.2.ck hW⟩
      | exact ⟨_, _, rfl, rfl, r3.2.ck hW⟩
      | exact ⟨_, _, rfl, rfl, r4.2.ck hW⟩
      | exact ⟨_, _, rfl, rfl, r5.2.ck hW⟩
      | exact ⟨_, _, rfl, rfl, r6.2.ck hW⟩
      | exact ⟨_, _, rfl, rfl, r7.2.ck hW⟩
      | exact ⟨_, _, rfl, rfl, r8.2.ck hW⟩
      | exact ⟨_, _, rfl, rfl, r9.2.ck hW⟩
      | exact ⟨_, _, rfl, rfl, r10.2.ck hW⟩
      | exact ⟨_, _, rfl, rfl, r11.2.ck hW⟩
      | exact ⟨_, _, rfl, rfl, r12.2.ck hW⟩
      | exact ⟨_, _, rfl, rfl, r13.2.ck hW⟩
      | exact ⟨_, _, rfl, rfl, r14.2.ck hW⟩
      | exact ⟨_, _, rfl, rfl, r15.2.ck hW⟩
      | exact ⟨_, _, rfl, rfl, r16.2.ck hW⟩
      | exact ⟨_, _, rfl, rfl, r17.2.ck hW⟩
      | exact ⟨_, _, rfl, rfl, r18.2.ck hW⟩
      | exact ⟨_, _, rfl, rfl, r19.2.ck hW⟩
  · obtain ⟨p, hp, rfl⟩ := in_k hnp (by omega) (bI_ne0 h1)
    refine x_iload_n hm rfl rfl ?_
    refine x_iload_n hm rfl rfl ?_
    refine x_cSe hm rfl rfl (t27) (fun v3 r3 => ?_)
    refine x_if_ne hm rfl (t := 26) rfl (fun h4 => ?_) (fun h4 => ?_)
    · first
        | obtain ⟨f, hf, rfl⟩ := r3.resolve_left (fun e => by subst e; exact h4 rfl)
        | obtain ⟨f, hf, rfl⟩ := r1.resolve_left (fun e => by subst e; exact h4 rfl)
        | obtain ⟨f, hf, rfl⟩ := r2.resolve_left (fun e => by subst e; exact h4 rfl)
        | obtain ⟨f, hf, rfl⟩ := r4.resolve_left (fun e => by subst e; exact h4 rfl)
        | obtain ⟨f, hf, rfl⟩ := r5.resolve_left (fun e => by subst e; exact h4 rfl)
        | obtain ⟨f, hf, rfl⟩ := r6.resolve_left (fun e => by subst e; exact h4 rfl)
        | obtain ⟨f, hf, rfl⟩ := r7.resolve_left (fun e => by subst e; exact h4 rfl)
      refine x_aload_n hm rfl rfl ?_
      refine x_getf hm rfl (gR rfl rfl) ?_
      refine x_getf hm rfl (gR rfl rfl) ?_
      refine x_iload_n hm rfl rfl ?_
      refine x_aald hm rfl (lQ 3 (Or.inr (Or.inl rfl)) (tF (b := 1) (by decide)) (tFk (by omega)) (by omega) (by decide)) ?_
      refine x_iload_n hm rfl rfl ?_
      refine x_iald hm rfl (lI (tRowF (b := 1) (by decide) (by omega)) (by omega) (by decide)) ?_
      refine x_istore hm rfl rfl ?_
      refine x_aload_n hm rfl rfl ?_
      refine x_getf hm rfl (gR rfl rfl) ?_
      refine x_getf hm rfl (gR rfl rfl) ?_
      refine x_iload_n hm rfl rfl ?_
      refine x_aald hm rfl (lQ 3 (Or.inr (Or.inl rfl)) (tF (b := 1) (by decide)) (tFk (by omega)) (by omega) (by decide)) ?_
      refine x_iload_n hm rfl rfl ?_
      refine x_iload_n hm rfl rfl ?_
      refine x_iast hm rfl (sI (tRowF (b := 1) (by decide) (by omega)) (by omega) (by decide)) ?_
      refine x_iload hm rfl rfl ?_
      refine x_iret hm rfl rfl (by first | rfl | exact bI_nar | decide) ?_
      first
        | exact ⟨_, _, rfl, rfl, r3.2.ck hW⟩
        | exact ⟨_, _, rfl, rfl, Ck.rf hW⟩
        | exact ⟨_, _, rfl, rfl, (change_tw hf).ck hW⟩
        | exact ⟨_, _, rfl, rfl, r1.2.ck hW⟩
        | exact ⟨_, _, rfl, rfl, r2.2.ck hW⟩
        | exact ⟨_, _, rfl, rfl, r4.2.ck hW⟩
        | exact ⟨_, _, rfl, rfl, r5.2.ck hW⟩
        | exact ⟨_, _, rfl, rfl, r6.2.ck hW⟩
        | exact ⟨_, _, rfl, rfl, r7.2.ck hW⟩
        | exact ⟨_, _, rfl, rfl, r8.2.ck hW⟩
        | exact ⟨_, _, rfl, rfl, r9.2.ck hW⟩
        | exact ⟨_, _, rfl, rfl, r10.2.ck hW⟩
        | exact ⟨_, _, rfl, rfl, r11.2.ck hW⟩
        | exact ⟨_, _, rfl, rfl, r12.2.ck hW⟩
        | exact ⟨_, _, rfl, rfl, r13.2.ck hW⟩
        | exact ⟨_, _, rfl, rfl, r14.2.ck hW⟩
        | exact ⟨_, _, rfl, rfl, r15.2.ck hW⟩
        | exact ⟨_, _, rfl, rfl, r16.2.ck hW⟩
        | exact ⟨_, _, rfl, rfl, r17.2.ck hW⟩
        | exact ⟨_, _, rfl, rfl, r18.2.ck hW⟩
        | exact ⟨_, _, rfl, rfl, r19.2.ck hW⟩
    · refine x_aload_n hm rfl rfl ?_
      refine x_ldcI hm rfl (v := (-1000001 : Int32)) (by decide +kernel) ?_
      refine x_cVi hm rfl rfl (t7 (by decide +kernel)) (fun v5 M5 r5 => ?_)
      refine x_iret hm rfl rfl (by first | rfl | exact bI_nar | decide) ?_
      first
        | exact ⟨_, _, rfl, rfl, r5.2.ck hW⟩
        | exact ⟨_, _, rfl, rfl, Ck.rf hW⟩
        | exact ⟨_, _, rfl, rfl, (change_tw hf).ck hW⟩
        | exact ⟨_, _, rfl, rfl, r3.2.ck hW⟩
        | exact ⟨_, _, rfl, rfl, r1.2.ck hW⟩
        | exact ⟨_, _, rfl, rfl, r2.2.ck hW⟩
        | exact ⟨_, _, rfl, rfl, r4.2.ck hW⟩
        | exact ⟨_, _, rfl, rfl, r6.2.ck hW⟩
        | exact ⟨_, _, rfl, rfl, r7.2.ck hW⟩
        | exact ⟨_, _, rfl, rfl, r8.2.ck hW⟩
        | exact ⟨_, _, rfl, rfl, r9.2.ck hW⟩
        | exact ⟨_, _, rfl, rfl, r10.2.ck hW⟩
        | exact ⟨_, _, rfl, rfl, r11.2.ck hW⟩
        | exact ⟨_, _, rfl, rfl, r12.2.ck hW⟩
        | exact ⟨_, _, rfl, rfl, r13.2.ck hW⟩
        | exact ⟨_, _, rfl, rfl, r14.2.ck hW⟩
        | exact ⟨_, _, rfl, rfl, r15.2.ck hW⟩
        | exact ⟨_, _, rfl, rfl, r16.2.ck hW⟩
        | exact ⟨_, _, rfl, rfl, r17.2.ck hW⟩
        | exact ⟨_, _, rfl, rfl, r18.2.ck hW⟩
        | exact ⟨_, _, rfl, rfl, r19.2.ck hW⟩
theorem t28 {a1 a2 : Int32} (hW : Wf M) : ∃ v M', mT X 28 [.ref 0, .int a1, .int a2] (con M) (some (.int v)) (con M') ∧ Cq M M' := by
  refine ti_of (row := _) rfl (Nat.le_of_ble_eq_true rfl) ?_
  have hm : mMet 28 = some _ := rfl
  obtain ⟨np, hp8, hnp⟩ := hW.cpn (b := 1) (by decide)
  obtain ⟨nt, hn8, hnt⟩ := hW.ct (b := 1) (by decide)
  refine x_aload_n hm rfl rfl ?_
  refine x_getf hm rfl (gR rfl rfl) ?_
  refine x_iload_n hm rfl rfl ?_
  refine x_callV hm rfl rfl (t19 (by decide)) ?_
  refine x_if_eq hm rfl (t := 22) rfl (fun h1 => ?_) (fun h1 => ?_)
  · refine x_aload_n hm rfl rfl ?_
    refine x_ldcI hm rfl (v := (-1000001 : Int32)) (by decide +kernel) ?_
    refine x_cVi hm rfl rfl (t7 (by decide +kernel)) (fun v2 M2 r2 => ?_)
    refine x_iret hm rfl rfl (by first | rfl | exact bI_nar | decide) ?_
    first
      | exact ⟨_, _, rfl, rfl, r2.2.cq hW⟩
      | exact ⟨_, _, rfl, rfl, Cq.rf hW⟩
      | exact ⟨_, _, rfl, rfl, r1.2.cq hW⟩
      | exact ⟨_, _, rfl, rfl, r3.2.cq hW⟩
      | exact ⟨_, _, rfl, rfl, r4.2.cq hW⟩
      | exact ⟨_, _, rfl, rfl, r5.2.cq hW⟩
      | exact ⟨_, _, rfl, rfl, r6.2.cq hW⟩
      | exact ⟨_, _, rfl, rfl, r7.2.cq hW⟩
      | exact ⟨_, _, rfl, rfl, r8.2.cq hW⟩
      | exact ⟨_, _, rfl, rfl, r9.2.cq hW⟩
      | exact ⟨_, _, rfl, rfl, r10.2.cq hW⟩
      | exact ⟨_, _, rfl, rfl, r11.2.cq hW⟩
      | exact ⟨_, _, rfl, rfl, r12.2.cq hW⟩
      | exact ⟨_, _, rfl, rfl, r13.2.cq hW⟩
      | exact ⟨_, _, rfl, rfl, r14.2.cq hW⟩
      | exact ⟨_, _, rfl, rfl, r15.2.cq hW⟩
      | exact ⟨_, _, rfl, rfl, r16.2.cq hW⟩
      | exact ⟨_, _, rfl, rfl, r17.2.cq hW⟩
      | exact ⟨_, _, rfl, rfl, r18.2.cq hW⟩
      | exact ⟨_, _, rfl, rfl, r19.2.cq hW⟩
  · obtain ⟨p, hp, rfl⟩ := in_k hnp (by omega) (bI_ne0 h1)
    refine x_aload_n hm rfl rfl ?_
    refine x_getf hm rfl (gR rfl rfl) ?_
    refine x_iload_n hm rfl rfl ?_
    refine x_callV hm rfl rfl (t10 (by decide)) ?_
    refine x_if_ne hm rfl (t := 29) rfl (fun h3 => ?_) (fun h3 => ?_)
    · obtain ⟨t, ht, rfl⟩ := in_k hnt (by omega) (bI_ne0 h3)
      refine x_aload_n hm rfl rfl ?_
      refine x_getf hm rfl (gR rfl rfl) ?_
      refine x_iload_n hm rfl rfl ?_
      refine x_iload_n hm rfl rfl ?_
      refine x_cVe hm rfl rfl (t12 (by decide) hW (by omega) (by omega)) (fun v4 r4 => ?_)
      refine x_iret hm rfl rfl (by first | rfl | exact bI_nar | decide) ?_
      first
        | exact ⟨_, _, rfl, rfl, r4.2.cq hW⟩
        | exact ⟨_, _, rfl, rfl, Cq.rf hW⟩
        | exact ⟨_, _, rfl, rfl, r1.2.cq hW⟩
        | exact ⟨_, _, rfl, rfl, r2.2.cq hW⟩
        | exact ⟨_, _, rfl, rfl, r3.2.cq hW⟩
        | exact ⟨_, _, rfl, rfl, r5.2.cq hW⟩
        | exact ⟨_, _, rfl, rfl, r6.2.cq hW⟩
        | exact ⟨_, _, rfl, rfl, r7.2.cq hW⟩
        | exact ⟨_, _, rfl, rfl, r8.2.cq hW⟩
        | exact ⟨_, _, rfl, rfl, r9.2.cq hW⟩
        | exact ⟨_, _, rfl, rfl, r10.2.cq hW⟩
        | exact ⟨_, _, rfl, rfl, r11.2.cq hW⟩
        | exact ⟨_, _, rfl, rfl, r12.2.cq hW⟩
        | exact ⟨_, _, rfl, rfl, r13.2.cq hW⟩
        | exact ⟨_, _, rfl, rfl, r14.2.cq hW⟩
        | exact ⟨_, _, rfl, rfl, r15.2.cq hW⟩
        | exact ⟨_, _, rfl, rfl, r16.2.cq hW⟩
        | exact ⟨_, _, rfl, rfl, r17.2.cq hW⟩
        | exact ⟨_, _, rfl, rfl, r18.2.cq hW⟩
        | exact ⟨_, _, rfl, rfl, r19.2.cq hW⟩
    · refine x_aload_n hm rfl rfl ?_
      refine x_ldcI hm rfl (v := (-1000001 : Int32)) (by decide +kernel) ?_
      refine x_cVi hm rfl rfl (t7 (by decide +kernel)) (fun v5 M5 r5 => ?_)
      refine x_iret hm rfl rfl (by first | rfl | exact bI_nar | decide) ?_
      first
        | exact ⟨_, _, rfl, rfl, r5.2.cq hW⟩
        | exact ⟨_, _, rfl, rfl, Cq.rf hW⟩
        | exact ⟨_, _, rfl, rfl, r1.2.cq hW⟩
        | exact ⟨_, _, rfl, rfl, r2.2.cq hW⟩
        | exact ⟨_, _, rfl, rfl, r3.2.cq hW⟩
        | exact ⟨_, _, rfl, rfl, r4.2.cq hW⟩
        | exact ⟨_, _, rfl, rfl, r6.2.cq hW⟩
        | exact ⟨_, _, rfl, rfl, r7.2.cq hW⟩
        | exact ⟨_, _, rfl, rfl, r8.2.cq hW⟩
        | exact ⟨_, _, rfl, rfl, r9.2.cq hW⟩
        | exact ⟨_, _, rfl, rfl, r10.2.cq hW⟩
        | exact ⟨_, _, rfl, rfl, r11.2.cq hW⟩
        | exact ⟨_, _, rfl, rfl, r12.2.cq hW⟩
        | exact ⟨_, _, rfl, rfl, r13.2.cq hW⟩
        | exact ⟨_, _, rfl, rfl, r14.2.cq hW⟩
        | exact ⟨_, _, rfl, rfl, r15.2.cq hW⟩
        | exact ⟨_, _, rfl, rfl, r16.2.cq hW⟩
        | exact ⟨_, _, rfl, rfl, r17.2.cq hW⟩
        | exact ⟨_, _, rfl, rfl, r18.2.cq hW⟩
        | exact ⟨_, _, rfl, rfl, r19.2.cq hW⟩
theorem t29 {a1 : Int32} (hW : Wf M) : ∃ v M', mT X 29 [.ref 0, .int a1] (con M) (some (.int v)) (con M') ∧ Ck M M' := by
  refine ti_of (row := _) rfl (Nat.le_of_ble_eq_true rfl) ?_
  have hm : mMet 29 = some _ := rfl
  refine x_iload_n hm rfl rfl ?_
  refine x_iconst hm rfl (v := nI 1) (by decide) ?_
  refine x_bipush hm rfl (v := nI 60) (by decide) ?_
  refine x_callS hm rfl rfl (t6) ?_
  refine x_if_ne hm rfl (t := 17) rfl (fun h1 => ?_) (fun h1 => ?_)
  · obtain ⟨a, ha, -, rfl⟩ := le1_k (by omega) (bI_ne0 h1)
    refine x_aload_n hm rfl rfl ?_
    refine x_getf hm rfl (gR rfl rfl) ?_
    refine x_getf hm rfl (gI rfl rfl) ?_
    refine x_iload_n hm rfl rfl ?_
    refine x_iadd hm rfl ?_
    refine x_ldcI hm rfl (v := nI 99999) (by decide +kernel) ?_
    refine x_icmp_le hm rfl (t := 38) rfl (fun h2 => ?_) (fun h2 => ?_)
    · refine x_aload_n hm rfl rfl ?_
      refine x_getf hm rfl (gR rfl rfl) ?_
      refine x_iload_n hm rfl rfl ?_
      refine x_cVv hm rfl rfl (t30 (by decide) (by omega) hW) (fun M3 r3 => ?_)
      refine x_aload_n hm rfl rfl ?_
      refine x_getf hm rfl (gR rfl rfl) ?_
      refine x_cVe hm rfl rfl (t35 (by decide) (r3.1 hW)) (fun v4 r4 => ?_)
      refine x_cSe hm rfl rfl (t36) (fun v5 r5 => ?_)
      refine x_iret hm rfl rfl (by first | rfl | exact bI_nar | decide) ?_
      first
        | exact ⟨_, _, rfl, rfl, r5.2.ck hW⟩
        | exact ⟨_, _, rfl, rfl, r5.ck hW⟩
        | exact ⟨_, _, rfl, rfl, Ck.rf hW⟩
        | exact ⟨_, _, rfl, rfl, r3.2.ck hW⟩
        | exact ⟨_, _, rfl, rfl, r4.2.ck hW⟩
        | exact ⟨_, _, rfl, rfl, r3.ck hW⟩
        | exact ⟨_, _, rfl, rfl, r4.ck hW⟩
        | exact ⟨_, _, rfl, rfl, r1.2.ck hW⟩
        | exact ⟨_, _, rfl, rfl, r2.2.ck hW⟩
        | exact ⟨_, _, rfl, rfl, r6.2.ck hW⟩
        | exact ⟨_, _, rfl, rfl, r7.2.ck hW⟩
        | exact ⟨_, _, rfl, rfl, r8.2.ck hW⟩
        | exact ⟨_, _, rfl, rfl, r9.2.ck hW⟩
        | exact ⟨_, _, rfl, rfl, r10.2.ck hW⟩
        | exact ⟨_, _, rfl, rfl, r11.2.ck hW⟩
        | exact ⟨_, _, rfl, rfl, r12.2.ck hW⟩
        | exact ⟨_, _, rfl, rfl, r13.2.ck hW⟩
        | exact ⟨_, _, rfl, rfl, r14.2.ck hW⟩
        | exact ⟨_, _, rfl, rfl, r15.2.ck hW⟩
        | exact ⟨_, _, rfl, rfl, r16.2.ck hW⟩
        | exact ⟨_, _, rfl, rfl, r17.2.ck hW⟩
        | exact ⟨_, _, rfl, rfl, r18.2.ck hW⟩
        | exact ⟨_, _, rfl, rfl, r19.2.ck hW⟩
        | exact ⟨_, _, rfl, rfl, r1.ck hW⟩
        | exact ⟨_, _, rfl, rfl, r2.ck hW⟩
        | exact ⟨_, _, rfl, rfl, r6.ck hW⟩
        | exact ⟨_, _, rfl, rfl, r7.ck hW⟩
        | exact ⟨_, _, rfl, rfl, r8.ck hW⟩
        | exact ⟨_, _, rfl, rfl, r9.ck hW⟩
        | exact ⟨_, _, rfl, rfl, r10.ck hW⟩
        | exact ⟨_, _, rfl, rfl, r11.ck hW⟩
    · refine x_aload_n hm rfl rfl ?_
      refine x_ldcI hm rfl (v := (-1000005 : Int32)) (by decide +kernel) ?_
      refine x_cVi hm rfl rfl (t7 (by decide +kernel)) (fun v6 M6 r6 => ?_)
      refine x_iret hm rfl rfl (by first | rfl | exact bI_nar | decide) ?_
      first
        | exact ⟨_, _, rfl, rfl, r6.2.ck hW⟩
        | exact ⟨_, _, rfl, rfl, r6.ck hW⟩
        | exact ⟨_, _, rfl, rfl, Ck.rf hW⟩
        | exact ⟨_, _, rfl, rfl, r1.2.ck hW⟩
        | exact ⟨_, _, rfl, rfl, r2.2.ck hW⟩
        | exact ⟨_, _, rfl, rfl, r3.2.ck hW⟩
        | exact ⟨_, _, rfl, rfl, r4.2.ck hW⟩
        | exact ⟨_, _, rfl, rfl, r5.2.ck hW⟩
        | exact ⟨_, _, rfl, rfl, r7.2.ck hW⟩
        | exact ⟨_, _, rfl, rfl, r8.2.ck hW⟩
        | exact ⟨_, _, rfl, rfl, r9.2.ck hW⟩
        | exact ⟨_, _, rfl, rfl, r10.2.ck hW⟩
        | exact ⟨_, _, rfl, rfl, r11.2.ck hW⟩
        | exact ⟨_, _, rfl, rfl, r12.2.ck hW⟩
        | exact ⟨_, _, rfl, rfl, r13.2.ck hW⟩
        | exact ⟨_, _, rfl, rfl, r14.2.ck hW⟩
        | exact ⟨_, _, rfl, rfl, r15.2.ck hW⟩
        | exact ⟨_, _, rfl, rfl, r16.2.ck hW⟩
        | exact ⟨_, _, rfl, rfl, r17.2.ck hW⟩
        | exact ⟨_, _, rfl, rfl, r18.2.ck hW⟩
        | exact ⟨_, _, rfl, rfl, r19.2.ck hW⟩
        | exact ⟨_, _, rfl, rfl, r1.ck hW⟩
        | exact ⟨_, _, rfl, rfl, r2.ck hW⟩
        | exact ⟨_, _, rfl, rfl, r3.ck hW⟩
        | exact ⟨_, _, rfl, rfl, r4.ck hW⟩
        | exact ⟨_, _, rfl, rfl, r5.ck hW⟩
        | exact ⟨_, _, rfl, rfl, r7.ck hW⟩
        | exact ⟨_, _, rfl, rfl, r8.ck hW⟩
        | exact ⟨_, _, rfl, rfl, r9.ck hW⟩
        | exact ⟨_, _, rfl, rfl, r10.ck hW⟩
        | exact ⟨_, _, rfl, rfl, r11.ck hW⟩
  · refine x_aload_n hm rfl rfl ?_
    refine x_ldcI hm rfl (v := (-1000001 : Int32)) (by decide +kernel) ?_
    refine x_cVi hm rfl rfl (t7 (by decide +kernel)) (fun v7 M7 r7 => ?_)
    refine x_iret hm rfl rfl (by first | rfl | exact bI_nar | decide) ?_
    first
      | exact ⟨_, _, rfl, rfl, r7.2.ck hW⟩
      | exact ⟨_, _, rfl, rfl, r7.ck hW⟩
      | exact ⟨_, _, rfl, rfl, Ck.rf hW⟩
      | exact ⟨_, _, rfl, rfl, r1.2.ck hW⟩
      | exact ⟨_, _, rfl, rfl, r2.2.ck hW⟩
      | exact ⟨_, _, rfl, rfl, r3.2.ck hW⟩
      | exact ⟨_, _, rfl, rfl, r4.2.ck hW⟩
      | exact ⟨_, _, rfl, rfl, r5.2.ck hW⟩
      | exact ⟨_, _, rfl, rfl, r6.2.ck hW⟩
      | exact ⟨_, _, rfl, rfl, r8.2.ck hW⟩
      | exact ⟨_, _, rfl, rfl, r9.2.ck hW⟩
      | exact ⟨_, _, rfl, rfl, r10.2.ck hW⟩
      | exact ⟨_, _, rfl, rfl, r11.2.ck hW⟩
      | exact ⟨_, _, rfl, rfl, r12.2.ck hW⟩
      | exact ⟨_, _, rfl, rfl, r13.2.ck hW⟩
      | exact ⟨_, _, rfl, rfl, r14.2.ck hW⟩
      | exact ⟨_, _, rfl, rfl, r15.2.ck hW⟩
      | exact ⟨_, _, rfl, rfl, r16.2.ck hW⟩
      | exact ⟨_, _, rfl, rfl, r17.2.ck hW⟩
      | exact ⟨_, _, rfl, rfl, r18.2.ck hW⟩
      | exact ⟨_, _, rfl, rfl, r19.2.ck hW⟩
      | exact ⟨_, _, rfl, rfl, r1.ck hW⟩
      | exact ⟨_, _, rfl, rfl, r2.ck hW⟩
      | exact ⟨_, _, rfl, rfl, r3.ck hW⟩
      | exact ⟨_, _, rfl, rfl, r4.ck hW⟩
      | exact ⟨_, _, rfl, rfl, r5.ck hW⟩
      | exact ⟨_, _, rfl, rfl, r6.ck hW⟩
      | exact ⟨_, _, rfl, rfl, r8.ck hW⟩
      | exact ⟨_, _, rfl, rfl, r9.ck hW⟩
      | exact ⟨_, _, rfl, rfl, r10.ck hW⟩
      | exact ⟨_, _, rfl, rfl, r11.ck hW⟩
theorem t37 {a1 : Int32} (hW : Wf M) : ∃ v M', mT X 37 [.ref 0, .int a1] (con M) (some (.int v)) (con M') ∧ Cq M M' := by
  refine ti_of (row := _) rfl (Nat.le_of_ble_eq_true rfl) ?_
  have hm : mMet 37 = some _ := rfl
  refine x_iload_n hm rfl rfl ?_
  refine x_ts hm rfl (fun h1 => ⟨76, rfl, ?_⟩) (fun i1 h1 g1 => ?_)
  · refine x_aload_n hm rfl rfl ?_
    refine x_ldcI hm rfl (v := (-1000001 : Int32)) (by decide +kernel) ?_
    refine x_cVi hm rfl rfl (t7 (by decide +kernel)) (fun v2 M2 r2 => ?_)
    refine x_iret hm rfl rfl (by first | rfl | exact bI_nar | decide) ?_
    first
      | exact ⟨_, _, rfl, rfl, r2.2.cq hW⟩
      | exact ⟨_, _, rfl, rfl, Cq.rf hW⟩
      | exact ⟨_, _, rfl, rfl, r1.2.cq hW⟩
      | exact ⟨_, _, rfl, rfl, r3.2.cq hW⟩
      | exact ⟨_, _, rfl, rfl, r4.2.cq hW⟩
      | exact ⟨_, _, rfl, rfl, r5.2.cq hW⟩
      | exact ⟨_, _, rfl, rfl, r6.2.cq hW⟩
      | exact ⟨_, _, rfl, rfl, r7.2.cq hW⟩
      | exact ⟨_, _, rfl, rfl, r8.2.cq hW⟩
      | exact ⟨_, _, rfl, rfl, r9.2.cq hW⟩
      | exact ⟨_, _, rfl, rfl, r10.2.cq hW⟩
      | exact ⟨_, _, rfl, rfl, r11.2.cq hW⟩
      | exact ⟨_, _, rfl, rfl, r12.2.cq hW⟩
      | exact ⟨_, _, rfl, rfl, r13.2.cq hW⟩
      | exact ⟨_, _, rfl, rfl, r14.2.cq hW⟩
      | exact ⟨_, _, rfl, rfl, r15.2.cq hW⟩
      | exact ⟨_, _, rfl, rfl, r16.2.cq hW⟩
      | exact ⟨_, _, rfl, rfl, r17.2.cq hW⟩
      | exact ⟨_, _, rfl, rfl, r18.2.cq hW⟩
      | exact ⟨_, _, rfl, rfl, r19.2.cq hW⟩
  · have k1 : i1 = 0 ∨ i1 = 1 ∨ i1 = 2 ∨ i1 = 3 ∨ i1 = 4 := by omega
    rcases k1 with rfl | rfl | rfl | rfl | rfl
    · refine ⟨_, 36, rfl, rfl, ?_⟩
      refine x_aload_n hm rfl rfl ?_
      refine x_getf hm rfl (gR rfl rfl) ?_
      refine x_getf hm rfl (gI rfl rfl) ?_
      refine x_iret hm rfl rfl (by first | rfl | exact bI_nar | decide) ?_
      first
        | exact ⟨_, _, rfl, rfl, Cq.rf hW⟩
        | exact ⟨_, _, rfl, rfl, r1.2.cq hW⟩
        | exact ⟨_, _, rfl, rfl, r2.2.cq hW⟩
        | exact ⟨_, _, rfl, rfl, r3.2.cq hW⟩
        | exact ⟨_, _, rfl, rfl, r4.2.cq hW⟩
        | exact ⟨_, _, rfl, rfl, r5.2.cq hW⟩
        | exact ⟨_, _, rfl, rfl, r6.2.cq hW⟩
        | exact ⟨_, _, rfl, rfl, r7.2.cq hW⟩
        | exact ⟨_, _, rfl, rfl, r8.2.cq hW⟩
        | exact ⟨_, _, rfl, rfl, r9.2.cq hW⟩
        | exact ⟨_, _, rfl, rfl, r10.2.cq hW⟩
        | exact ⟨_, _, rfl, rfl, r11.2.cq hW⟩
        | exact ⟨_, _, rfl, rfl, r12.2.cq hW⟩
        | exact ⟨_, _, rfl, rfl, r13.2.cq hW⟩
        | exact ⟨_, _, rfl, rfl, r14.2.cq hW⟩
        | exact ⟨_, _, rfl, rfl, r15.2.cq hW⟩
        | exact ⟨_, _, rfl, rfl, r16.2.cq hW⟩
        | exact ⟨_, _, rfl, rfl, r17.2.cq hW⟩
        | exact ⟨_, _, rfl, rfl, r18.2.cq hW⟩
        | exact ⟨_, _, rfl, rfl, r19.2.cq hW⟩
    · refine ⟨_, 44, rfl, rfl, ?_⟩
      refine x_aload_n hm rfl rfl ?_
      refine x_getf hm rfl (gR rfl rfl) ?_
      refine x_cVe hm rfl rfl (t35 (by decide) hW) (fun v3 r3 => ?_)
      refine x_iret hm rfl rfl (by first | rfl | exact bI_nar | decide) ?_
      first
        | exact ⟨_, _, rfl, rfl, r3.2.cq hW⟩
        | exact ⟨_, _, rfl, rfl, Cq.rf hW⟩
        | exact ⟨_, _, rfl, rfl, r1.2.cq hW⟩
        | exact ⟨_, _, rfl, rfl, r2.2.cq hW⟩
        | exact ⟨_, _, rfl, rfl, r4.2.cq hW⟩
        | exact ⟨_, _, rfl, rfl, r5.2.cq hW⟩
        | exact ⟨_, _, rfl, rfl, r6.2.cq hW⟩
        | exact ⟨_, _, rfl, rfl, r7.2.cq hW⟩
        | exact ⟨_, _, rfl, rfl, r8.2.cq hW⟩
        | exact ⟨_, _, rfl, rfl, r9.2.cq hW⟩
        | exact ⟨_, _, rfl, rfl, r10.2.cq hW⟩
        | exact ⟨_, _, rfl, rfl, r11.2.cq hW⟩
        | exact ⟨_, _, rfl, rfl, r12.2.cq hW⟩
        | exact ⟨_, _, rfl, rfl, r13.2.cq hW⟩
        | exact ⟨_, _, rfl, rfl, r14.2.cq hW⟩
        | exact ⟨_, _, rfl, rfl, r15.2.cq hW⟩
        | exact ⟨_, _, rfl, rfl, r16.2.cq hW⟩
        | exact ⟨_, _, rfl, rfl, r17.2.cq hW⟩
        | exact ⟨_, _, rfl, rfl, r18.2.cq hW⟩
        | exact ⟨_, _, rfl, rfl, r19.2.cq hW⟩
    · refine ⟨_, 52, rfl, rfl, ?_⟩
      refine x_aload_n hm rfl rfl ?_
      refine x_getf hm rfl (gR rfl rfl) ?_
      refine x_cVe hm rfl rfl (t38 (by decide) hW) (fun v4 r4 => ?_)
      refine x_iret hm rfl rfl (by first | rfl | exact bI_nar | decide) ?_
      first
        | exact ⟨_, _, rfl, rfl, r4.2.cq hW⟩
        | exact ⟨_, _, rfl, rfl, Cq.rf hW⟩
        | exact ⟨_, _, rfl, rfl, r1.2.cq hW⟩
        | exact ⟨_, _, rfl, rfl, r2.2.cq hW⟩
        | exact ⟨_, _, rfl, rfl, r3.2.cq hW⟩
        | exact ⟨_, _, rfl, rfl, r5.2.cq hW⟩
        | exact ⟨_, _, rfl, rfl, r6.2.cq hW⟩
        | exact ⟨_, _, rfl, rfl, r7.2.cq hW⟩
        | exact ⟨_, _, rfl, rfl, r8.2.cq hW⟩
        | exact ⟨_, _, rfl, rfl, r9.2.cq hW⟩
        | exact ⟨_, _, rfl, rfl, r10.2.cq hW⟩
        | exact ⟨_, _, rfl, rfl, r11.2.cq hW⟩
        | exact ⟨_, _, rfl, rfl, r12.2.cq hW⟩
        | exact ⟨_, _, rfl, rfl, r13.2.cq hW⟩
        | exact ⟨_, _, rfl, rfl, r14.2.cq hW⟩
        | exact ⟨_, _, rfl, rfl, r15.2.cq hW⟩
        | exact ⟨_, _, rfl, rfl, r16.2.cq hW⟩
        | exact ⟨_, _, rfl, rfl, r17.2.cq hW⟩
        | exact ⟨_, _, rfl, rfl, r18.2.cq hW⟩
        | exact ⟨_, _, rfl, rfl, r19.2.cq hW⟩
    · refine ⟨_, 60, rfl, rfl, ?_⟩
      refine x_aload_n hm rfl rfl ?_
      refine x_getf hm rfl (gR rfl rfl) ?_
      refine x_cVe hm rfl rfl (t39 (by decide) hW) (fun v5 r5 => ?_)
      refine x_iret hm rfl rfl (by first | rfl | exact bI_nar | decide) ?_
      first
        | exact ⟨_, _, rfl, rfl, r5.2.cq hW⟩
        | exact ⟨_, _, rfl, rfl, Cq.rf hW⟩
        | exact ⟨_, _, rfl, rfl, r1.2.cq hW⟩
        | exact ⟨_, _, rfl, rfl, r2.2.cq hW⟩
        | exact ⟨_, _, rfl, rfl, r3.2.cq hW⟩
        | exact ⟨_, _, rfl, rfl, r4.2.cq hW⟩
        | exact ⟨_, _, rfl, rfl, r6.2.cq hW⟩
        | exact ⟨_, _, rfl, rfl, r7.2.cq hW⟩
        | exact ⟨_, _, rfl, rfl, r8.2.cq hW⟩
        | exact ⟨_, _, rfl, rfl, r9.2.cq hW⟩
        | exact ⟨_, _, rfl, rfl, r10.2.cq hW⟩
        | exact ⟨_, _, rfl, rfl, r11.2.cq hW⟩
        | exact ⟨_, _, rfl, rfl, r12.2.cq hW⟩
        | exact ⟨_, _, rfl, rfl, r13.2.cq hW⟩
        | exact ⟨_, _, rfl, rfl, r14.2.cq hW⟩
        | exact ⟨_, _, rfl, rfl, r15.2.cq hW⟩
        | exact ⟨_, _, rfl, rfl, r16.2.cq hW⟩
        | exact ⟨_, _, rfl, rfl, r17.2.cq hW⟩
        | exact ⟨_, _, rfl, rfl, r18.2.cq hW⟩
        | exact ⟨_, _, rfl, rfl, r19.2.cq hW⟩
    · refine ⟨_, 68, rfl, rfl, ?_⟩
      refine x_aload_n hm rfl rfl ?_
      refine x_getf hm rfl (gR rfl rfl) ?_
      refine x_cVe hm rfl rfl (t40 (by decide) hW) (fun v6 r6 => ?_)
      refine x_iret hm rfl rfl (by first | rfl | exact bI_nar | decide) ?_
      first
        | exact ⟨_, _, rfl, rfl, r6.2.cq hW⟩
        | exact ⟨_, _, rfl, rfl, Cq.rf hW⟩
        | exact ⟨_, _, rfl, rfl, r1.2.cq hW⟩
        | exact ⟨_, _, rfl, rfl, r2.2.cq hW⟩
        | exact ⟨_, _, rfl, rfl, r3.2.cq hW⟩
        | exact ⟨_, _, rfl, rfl, r4.2.cq hW⟩
        | exact ⟨_, _, rfl, rfl, r5.2.cq hW⟩
        | exact ⟨_, _, rfl, rfl, r7.2.cq hW⟩
        | exact ⟨_, _, rfl, rfl, r8.2.cq hW⟩
        | exact ⟨_, _, rfl, rfl, r9.2.cq hW⟩
        | exact ⟨_, _, rfl, rfl, r10.2.cq hW⟩
        | exact ⟨_, _, rfl, rfl, r11.2.cq hW⟩
        | exact ⟨_, _, rfl, rfl, r12.2.cq hW⟩
        | exact ⟨_, _, rfl, rfl, r13.2.cq hW⟩
        | exact ⟨_, _, rfl, rfl, r14.2.cq hW⟩
        | exact ⟨_, _, rfl, rfl, r15.2.cq hW⟩
        | exact ⟨_, _, rfl, rfl, r16.2.cq hW⟩
        | exact ⟨_, _, rfl, rfl, r17.2.cq hW⟩
        | exact ⟨_, _, rfl, rfl, r18.2.cq hW⟩
        | exact ⟨_, _, rfl, rfl, r19.2.cq hW⟩
theorem t42 (hW : Wf M) : ∃ M', mT X 42 [.ref 0] (con M) none (con M') ∧ Bq 35 M M' := by
  refine tv_of (row := _) rfl (Nat.le_of_ble_eq_true rfl) ?_
  have hm : mMet 42 = some _ := rfl
  refine x_aload_n hm rfl rfl ?_
  refine x_getf hm rfl (gR rfl rfl) ?_
  refine x_aload_n hm rfl rfl ?_
  refine x_getf hm rfl (gR rfl rfl) ?_
  refine x_cVv hm rfl rfl (t43 (by decide) (by decide) (by decide) hW) (fun M1 r1 => ?_)
  refine x_ret hm rfl rfl ?_
  exact ⟨_, rfl, rfl, r1⟩
theorem t41 {a1 a2 : Int32} (hW : Wf M) : ∃ v M', mT X 41 [.ref 0, .int a1, .int a2] (con M) (some (.int v)) (con M') ∧ Cq M M' := by
  refine ti_of (row := _) rfl (Nat.le_of_ble_eq_true rfl) ?_
  have hm : mMet 41 = some _ := rfl
  obtain ⟨nt, hn8, hnt⟩ := hW.ct (b := 1) (by decide)
  refine x_aload_n hm rfl rfl ?_
  refine x_getf hm rfl (gR rfl rfl) ?_
  refine x_iload_n hm rfl rfl ?_
  refine x_callV hm rfl rfl (t10 (by decide)) ?_
  refine x_if_eq hm rfl (t := 21) rfl (fun h1 => ?_) (fun h1 => ?_)
  · refine x_aload_n hm rfl rfl ?_
    refine x_ldcI hm rfl (v := (-1000001 : Int32)) (by decide +kernel) ?_
    refine x_cVi hm rfl rfl (t7 (by decide +kernel)) (fun v2 M2 r2 => ?_)
    refine x_iret hm rfl rfl (by first | rfl | exact bI_nar | decide) ?_
    first
      | exact ⟨_, _, rfl, rfl, r2.2.cq hW⟩
      | exact ⟨_, _, rfl, rfl, Cq.rf hW⟩
      | exact ⟨_, _, rfl, rfl, (r1.trans r2.bq).cq hW⟩
      | exact ⟨_, _, rfl, rfl, (r2.trans r3.bq).cq hW⟩
      | exact ⟨_, _, rfl, rfl, (r3.trans r4.bq).cq hW⟩
      | exact ⟨_, _, rfl, rfl, (r4.trans r5.bq).cq hW⟩
      | exact ⟨_, _, rfl, rfl, (r5.trans r6.bq).cq hW⟩
      | exact ⟨_, _, rfl, rfl, (r6.trans r7.bq).cq hW⟩
      | exact ⟨_, _, rfl, rfl, (r7.trans r8.bq).cq hW⟩
      | exact ⟨_, _, rfl, rfl, r1.2.cq hW⟩
      | exact ⟨_, _, rfl, rfl, r3.2.cq hW⟩
      | exact ⟨_, _, rfl, rfl, r4.2.cq hW⟩
      | exact ⟨_, _, rfl, rfl, r5.2.cq hW⟩
      | exact ⟨_, _, rfl, rfl, r6.2.cq hW⟩
      | exact ⟨_, _, rfl, rfl, r7.2.cq hW⟩
      | exact ⟨_, _, rfl, rfl, r8.2.cq hW⟩
      | exact ⟨_, _, rfl, rfl, r9.2.cq hW⟩
      | exact ⟨_, _, rfl, rfl, r10.2.cq hW⟩
      | exact ⟨_, _, rfl, rfl, r11.2.cq hW⟩
      | exact ⟨_, _, rfl, rfl, r12.2.cq hW⟩
      | exact ⟨_, _, rfl, rfl, r13.2.cq hW⟩
      | exact ⟨_, _, rfl, rfl, r14.2.cq hW⟩
      | exact ⟨_, _, rfl, rfl, r15.2.cq hW⟩
      | exact ⟨_, _, rfl, rfl, r16.2.cq hW⟩
      | exact ⟨_, _, rfl, rfl, r17.2.cq hW⟩
      | exact ⟨_, _, rfl, rfl, r18.2.cq hW⟩
      | exact ⟨_, _, rfl, rfl, r19.2.cq hW⟩
  · obtain ⟨t, ht, rfl⟩ := in_k hnt (by omega) (bI_ne0 h1)
    refine x_iload_n hm rfl rfl ?_
    refine x_iconst hm rfl (v := nI 0) (by decide) ?_
    refine x_bipush hm rfl (v := nI 100) (by decide) ?_
    refine x_callS hm rfl rfl (t6) ?_
    refine x_if_ne hm rfl (t := 28) rfl (fun h3 => ?_) (fun h3 => ?_)
    · obtain ⟨a, ha, rfl⟩ := le_k (by omega) (bI_ne0 h3)
      refine x_aload_n hm rfl rfl ?_
      refine x_cVv hm rfl rfl (t42 hW) (fun M4 r4 => ?_)
      refine x_aload_n hm rfl rfl ?_
      refine x_getf hm rfl (gR rfl rfl) ?_
      refine x_iload_n hm rfl rfl ?_
      refine x_cVv hm rfl rfl (t30 (by decide) (by omega) (r4.1 hW)) (fun M5 r5 => ?_)
      refine x_aload_n hm rfl rfl ?_
      refine x_getf hm rfl (gR rfl rfl) ?_
      refine x_getf hm rfl (gR rfl rfl) ?_
      refine x_iconst hm rfl (v := nI 2) (by decide) ?_
      refine x_aald hm rfl (lQ _ (by decide) rfl rfl (by omega) (by decide)) ?_
      refine x_iload_n hm rfl rfl ?_
      refine x_iald hm rfl (lI rfl (by omega) (by decide)) ?_
      refine x_iret hm rfl rfl (by first | rfl | exact bI_nar | decide) ?_
      first
        | exact ⟨_, _, rfl, rfl, (r4.trans r5.bq).cq hW⟩
        | exact ⟨_, _, rfl, rfl, r5.2.cq hW⟩
        | exact ⟨_, _, rfl, rfl, Cq.rf hW⟩
        | exact ⟨_, _, rfl, rfl, r4.2.cq hW⟩
        | exact ⟨_, _, rfl, rfl, (r1.trans r2.bq).cq hW⟩
        | exact ⟨_, _, rfl, rfl, (r2.trans r3.bq).cq hW⟩
        | exact ⟨_, _, rfl, rfl, (r3.trans r4.bq).cq hW⟩
        | exact ⟨_, _, rfl, rfl, (r5.trans r6.bq).cq hW⟩
        | exact ⟨_, _, rfl, rfl, (r6.trans r7.bq).cq hW⟩
        | exact ⟨_, _, rfl, rfl, (r7.trans r8.bq).cq hW⟩
        | exact ⟨_, _, rfl, rfl, r1.2.cq hW⟩
        | exact ⟨_, _, rfl, rfl, r2.2.cq hW⟩
        | exact ⟨_, _, rfl, rfl, r3.2.cq hW⟩
        | exact ⟨_, _, rfl, rfl, r6.2.cq hW⟩
        | exact ⟨_, _, rfl, rfl, r7.2.cq hW⟩
        | exact ⟨_, _, rfl, rfl, r8.2.cq hW⟩
        | exact ⟨_, _, rfl, rfl, r9.2.cq hW⟩
        | exact ⟨_, _, rfl, rfl, r10.2.cq hW⟩
        | exact ⟨_, _, rfl, rfl, r11.2.cq hW⟩
        | exact ⟨_, _, rfl, rfl, r12.2.cq hW⟩
        | exact ⟨_, _, rfl, rfl, r13.2.cq hW⟩
        | exact ⟨_, _, rfl, rfl, r14.2.cq hW⟩
        | exact ⟨_, _, rfl, rfl, r15.2.cq hW⟩
        | exact ⟨_, _, rfl, rfl, r16.2.cq hW⟩
        | exact ⟨_, _, rfl, rfl, r17.2.cq hW⟩
        | exact ⟨_, _, rfl, rfl, r18.2.cq hW⟩
        | exact ⟨_, _, rfl, rfl, r19.2.cq hW⟩
    · refine x_aload_n hm rfl rfl ?_
      refine x_ldcI hm rfl (v := (-1000001 : Int32)) (by decide +kernel) ?_
      refine x_cVi hm rfl rfl (t7 (by decide +kernel)) (fun v6 M6 r6 => ?_)
      refine x_iret hm rfl rfl (by first | rfl | exact bI_nar | decide) ?_
      first
        | exact ⟨_, _, rfl, rfl, r6.2.cq hW⟩
        | exact ⟨_, _, rfl, rfl, Cq.rf hW⟩
        | exact ⟨_, _, rfl, rfl, (r1.trans r2.bq).cq hW⟩
        | exact ⟨_, _, rfl, rfl, (r2.trans r3.bq).cq hW⟩
        | exact ⟨_, _, rfl, rfl, (r3.trans r4.bq).cq hW⟩
        | exact ⟨_, _, rfl, rfl, (r4.trans r5.bq).cq hW⟩
        | exact ⟨_, _, rfl, rfl, (r5.trans r6.bq).cq hW⟩
        | exact ⟨_, _, rfl, rfl, (r6.trans r7.bq).cq hW⟩
        | exact ⟨_, _, rfl, rfl, (r7.trans r8.bq).cq hW⟩
        | exact ⟨_, _, rfl, rfl, r1.2.cq hW⟩
        | exact ⟨_, _, rfl, rfl, r2.2.cq hW⟩
        | exact ⟨_, _, rfl, rfl, r3.2.cq hW⟩
        | exact ⟨_, _, rfl, rfl, r4.2.cq hW⟩
        | exact ⟨_, _, rfl, rfl, r5.2.cq hW⟩
        | exact ⟨_, _, rfl, rfl, r7.2.cq hW⟩
        | exact ⟨_, _, rfl, rfl, r8.2.cq hW⟩
        | exact ⟨_, _, rfl, rfl, r9.2.cq hW⟩
        | exact ⟨_, _, rfl, rfl, r10.2.cq hW⟩
        | exact ⟨_, _, rfl, rfl, r11.2.cq hW⟩
        | exact ⟨_, _, rfl, rfl, r12.2.cq hW⟩
        | exact ⟨_, _, rfl, rfl, r13.2.cq hW⟩
        | exact ⟨_, _, rfl, rfl, r14.2.cq hW⟩
        | exact ⟨_, _, rfl, rfl, r15.2.cq hW⟩
        | exact ⟨_, _, rfl, rfl, r16.2.cq hW⟩
        | exact ⟨_, _, rfl, rfl, r17.2.cq hW⟩
        | exact ⟨_, _, rfl, rfl, r18.2.cq hW⟩
        | exact ⟨_, _, rfl, rfl, r19.2.cq hW⟩
end CD
