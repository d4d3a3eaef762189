/-! ===== the reference: the rest but texts ===== -/
section RK
variable {X : mSc} {Q : Option Value → mHp → Prop} {M : mM}
theorem bt_k {v : Int32} {a n : Nat} (ha : a ≤ 999) (hn : n ≤ 999) (h : nI a ≤ v ∧ v ≤ nI n) : ∃ k, k ≤ n ∧ v = nI k := by
  have h0 : nI 0 ≤ v := Int32.le_trans ((jI_le (by omega) (by omega)).mpr (Nat.zero_le _)) h.1
  exact le_k hn ⟨h0, h.2⟩
theorem t159 {a1 a2 : Int32} (hI : Inv M) : ∃ v M', mT X 159 [.ref 66, .int a1, .int a2] (con M) (some (.int v)) (con M') ∧ Iq M M' := by
  refine ti_of (row := _) rfl (Nat.le_of_ble_eq_true rfl) ?_
  have hm : mMet 159 = some _ := rfl
  obtain ⟨np, hp8, hnp⟩ := hI.1.np
  refine x_aload_n hm rfl rfl ?_
  refine x_iload_n hm rfl rfl ?_
  refine x_callV hm rfl rfl (t153) ?_
  refine x_if_eq hm rfl (t := 18) rfl (fun h1 => ?_) (fun h1 => ?_)
  · refine x_aload_n hm rfl rfl ?_
    refine x_ldcI hm rfl (v := (-1000001 : Int32)) (by decide +kernel) ?_
    refine x_cVi hm rfl rfl (t135 (by decide +kernel)) (fun v2 M2 r2 => ?_)
    refine x_iret hm rfl rfl (by first | rfl | exact bI_nar | decide) ?_
    first
      | exact ⟨_, _, rfl, rfl, r2.2.iq hI⟩
      | exact ⟨_, _, rfl, rfl, Iq.rf hI⟩
      | exact ⟨_, _, rfl, rfl, r1.2.iq hI⟩
      | exact ⟨_, _, rfl, rfl, r3.2.iq hI⟩
      | exact ⟨_, _, rfl, rfl, r4.2.iq hI⟩
      | exact ⟨_, _, rfl, rfl, r5.2.iq hI⟩
      | exact ⟨_, _, rfl, rfl, r6.2.iq hI⟩
      | exact ⟨_, _, rfl, rfl, r7.2.iq hI⟩
      | exact ⟨_, _, rfl, rfl, r8.2.iq hI⟩
      | exact ⟨_, _, rfl, rfl, r9.2.iq hI⟩
      | exact ⟨_, _, rfl, rfl, r10.2.iq hI⟩
      | exact ⟨_, _, rfl, rfl, r11.2.iq hI⟩
      | exact ⟨_, _, rfl, rfl, r12.2.iq hI⟩
      | exact ⟨_, _, rfl, rfl, r13.2.iq hI⟩
      | exact ⟨_, _, rfl, rfl, r14.2.iq hI⟩
      | exact ⟨_, _, rfl, rfl, r15.2.iq hI⟩
      | exact ⟨_, _, rfl, rfl, r16.2.iq hI⟩
      | exact ⟨_, _, rfl, rfl, r17.2.iq hI⟩
      | exact ⟨_, _, rfl, rfl, r18.2.iq hI⟩
      | exact ⟨_, _, rfl, rfl, r19.2.iq hI⟩
  · obtain ⟨p, hp, rfl⟩ := in_k hnp (by omega) (bI_ne0 h1)
    refine x_iload_n hm rfl rfl ?_
    refine x_iconst hm rfl (v := nI 0) (by decide) ?_
    refine x_bipush hm rfl (v := nI 7) (by decide) ?_
    refine x_callS hm rfl rfl (t133) ?_
    refine x_if_ne hm rfl (t := 25) rfl (fun h3 => ?_) (fun h3 => ?_)
    · obtain ⟨w, hw, rfl⟩ := le_k (by omega) (bI_ne0 h3)
      refine x_iload_n hm rfl rfl ?_
      refine x_bipush hm rfl (v := nI 7) (by decide) ?_
      refine x_icmp_ne hm rfl (t := 39) rfl (fun h4 => ?_) (fun h4 => ?_)
      · have hw6 : w ≠ 7 := fun e => h4 (by rw [e])
        refine x_aload_n hm rfl rfl ?_
        refine x_iload_n hm rfl rfl ?_
        refine x_iload_n hm rfl rfl ?_
        refine x_callV hm rfl rfl (t141 (by omega) (by omega)) ?_
        refine x_iret hm rfl rfl (by first | rfl | exact bI_nar | decide) ?_
        first
          | exact ⟨_, _, rfl, rfl, Iq.rf hI⟩
          | exact ⟨_, _, rfl, rfl, r1.2.iq hI⟩
          | exact ⟨_, _, rfl, rfl, r2.2.iq hI⟩
          | exact ⟨_, _, rfl, rfl, r3.2.iq hI⟩
          | exact ⟨_, _, rfl, rfl, r4.2.iq hI⟩
          | exact ⟨_, _, rfl, rfl, r5.2.iq hI⟩
          | exact ⟨_, _, rfl, rfl, r6.2.iq hI⟩
          | exact ⟨_, _, rfl, rfl, r7.2.iq hI⟩
          | exact ⟨_, _, rfl, rfl, r8.2.iq hI⟩
          | exact ⟨_, _, rfl, rfl, r9.2.iq hI⟩
          | exact ⟨_, _, rfl, rfl, r10.2.iq hI⟩
          | exact ⟨_, _, rfl, rfl, r11.2.iq hI⟩
          | exact ⟨_, _, rfl, rfl, r12.2.iq hI⟩
          | exact ⟨_, _, rfl, rfl, r13.2.iq hI⟩
          | exact ⟨_, _, rfl, rfl, r14.2.iq hI⟩
          | exact ⟨_, _, rfl, rfl, r15.2.iq hI⟩
          | exact ⟨_, _, rfl, rfl, r16.2.iq hI⟩
          | exact ⟨_, _, rfl, rfl, r17.2.iq hI⟩
          | exact ⟨_, _, rfl, rfl, r18.2.iq hI⟩
          | exact ⟨_, _, rfl, rfl, r19.2.iq hI⟩
      · refine x_aload_n hm rfl rfl ?_
        refine x_iload_n hm rfl rfl ?_
        refine x_cVe hm rfl rfl (t160 hI.1) (fun v5 r5 => ?_)
        refine x_goto hm rfl (t := 45) rfl ?_
        refine x_iret hm rfl rfl (by first | rfl | exact bI_nar | decide) ?_
        first
          | exact ⟨_, _, rfl, rfl, r5.2.iq hI⟩
          | exact ⟨_, _, rfl, rfl, Iq.rf hI⟩
          | exact ⟨_, _, rfl, rfl, r1.2.iq hI⟩
          | exact ⟨_, _, rfl, rfl, r2.2.iq hI⟩
          | exact ⟨_, _, rfl, rfl, r3.2.iq hI⟩
          | exact ⟨_, _, rfl, rfl, r4.2.iq hI⟩
          | exact ⟨_, _, rfl, rfl, r6.2.iq hI⟩
          | exact ⟨_, _, rfl, rfl, r7.2.iq hI⟩
          | exact ⟨_, _, rfl, rfl, r8.2.iq hI⟩
          | exact ⟨_, _, rfl, rfl, r9.2.iq hI⟩
          | exact ⟨_, _, rfl, rfl, r10.2.iq hI⟩
          | exact ⟨_, _, rfl, rfl, r11.2.iq hI⟩
          | exact ⟨_, _, rfl, rfl, r12.2.iq hI⟩
          | exact ⟨_, _, rfl, rfl, r13.2.iq hI⟩
          | exact ⟨_, _, rfl, rfl, r14.2.iq hI⟩
          | exact ⟨_, _, rfl, rfl, r15.2.iq hI⟩
          | exact ⟨_, _, rfl, rfl, r16.2.iq hI⟩
          | exact ⟨_, _, rfl, rfl, r17.2.iq hI⟩
          | exact ⟨_, _, rfl, rfl, r18.2.iq hI⟩
          | exact ⟨_, _, rfl, rfl, r19.2.iq hI⟩
    · refine x_aload_n hm rfl rfl ?_
      refine x_ldcI hm rfl (v := (-1000001 : Int32)) (by decide +kernel) ?_
      refine x_cVi hm rfl rfl (t135 (by decide +kernel)) (fun v6 M6 r6 => ?_)
      refine x_iret hm rfl rfl (by first | rfl | exact bI_nar | decide) ?_
      first
        | exact ⟨_, _, rfl, rfl, r6.2.iq hI⟩
        | exact ⟨_, _, rfl, rfl, Iq.rf hI⟩
        | exact ⟨_, _, rfl, rfl, r1.2.iq hI⟩
        | exact ⟨_, _, rfl, rfl, r2.2.iq hI⟩
        | exact ⟨_, _, rfl, rfl, r3.2.iq hI⟩
        | exact ⟨_, _, rfl, rfl, r4.2.iq hI⟩
        | exact ⟨_, _, rfl, rfl, r5.2.iq hI⟩
        | exact ⟨_, _, rfl, rfl, r7.2.iq hI⟩
        | exact ⟨_, _, rfl, rfl, r8.2.iq hI⟩
        | exact ⟨_, _, rfl, rfl, r9.2.iq hI⟩
        | exact ⟨_, _, rfl, rfl, r10.2.iq hI⟩
        | exact ⟨_, _, rfl, rfl, r11.2.iq hI⟩
        | exact ⟨_, _, rfl, rfl, r12.2.iq hI⟩
        | exact ⟨_, _, rfl, rfl, r13.2.iq hI⟩
        | exact ⟨_, _, rfl, rfl, r14.2.iq hI⟩
        | exact ⟨_, _, rfl, rfl, r15.2.iq hI⟩
        | exact ⟨_, _, rfl, rfl, r16.2.iq hI⟩
        | exact ⟨_, _, rfl, rfl, r17.2.iq hI⟩
        | exact ⟨_, _, rfl, rfl, r18.2.iq hI⟩
        | exact ⟨_, _, rfl, rfl, r19.2.iq hI⟩
theorem t162 {a1 a2 : Int32} (hI : Inv M) : ∃ v M', mT X 162 [.ref 66, .int a1, .int a2] (con M) (some (.int v)) (con M') ∧ Iq M M' := by
  refine ti_of (row := _) rfl (Nat.le_of_ble_eq_true rfl) ?_
  have hm : mMet 162 = some _ := rfl
  obtain ⟨np, hp8, hnp⟩ := hI.1.np
  obtain ⟨nt, hn8, hnt⟩ := hI.1.nt
  refine x_aload_n hm rfl rfl ?_
  refine x_iload_n hm rfl rfl ?_
  refine x_callV hm rfl rfl (t153) ?_
  refine x_if_eq hm rfl (t := 25) rfl (fun h1 => ?_) (fun h1 => ?_)
  · refine x_aload_n hm rfl rfl ?_
    refine x_ldcI hm rfl (v := (-1000001 : Int32)) (by decide +kernel) ?_
    refine x_cVi hm rfl rfl (t135 (by decide +kernel)) (fun v2 M2 r2 => ?_)
    refine x_iret hm rfl rfl (by first | rfl | exact bI_nar | decide) ?_
    first
      | exact ⟨_, _, rfl, rfl, r2.2.iq hI⟩
      | exact ⟨_, _, rfl, rfl, Iq.rf hI⟩
      | exact ⟨_, _, rfl, rfl, r1.2.iq hI⟩
      | exact ⟨_, _, rfl, rfl, r3.2.iq hI⟩
      | exact ⟨_, _, rfl, rfl, r4.2.iq hI⟩
      | exact ⟨_, _, rfl, rfl, r5.2.iq hI⟩
      | exact ⟨_, _, rfl, rfl, r6.2.iq hI⟩
      | exact ⟨_, _, rfl, rfl, r7.2.iq hI⟩
      | exact ⟨_, _, rfl, rfl, r8.2.iq hI⟩
      | exact ⟨_, _, rfl, rfl, r9.2.iq hI⟩
      | exact ⟨_, _, rfl, rfl, r10.2.iq hI⟩
      | exact ⟨_, _, rfl, rfl, r11.2.iq hI⟩
      | exact ⟨_, _, rfl, rfl, r12.2.iq hI⟩
      | exact ⟨_, _, rfl, rfl, r13.2.iq hI⟩
      | exact ⟨_, _, rfl, rfl, r14.2.iq hI⟩
      | exact ⟨_, _, rfl, rfl, r15.2.iq hI⟩
      | exact ⟨_, _, rfl, rfl, r16.2.iq hI⟩
      | exact ⟨_, _, rfl, rfl, r17.2.iq hI⟩
      | exact ⟨_, _, rfl, rfl, r18.2.iq hI⟩
      | exact ⟨_, _, rfl, rfl, r19.2.iq hI⟩
  · obtain ⟨p, hp, rfl⟩ := in_k hnp (by omega) (bI_ne0 h1)
    refine x_aload_n hm rfl rfl ?_
    refine x_iload_n hm rfl rfl ?_
    refine x_callV hm rfl rfl (t139) ?_
    refine x_if_eq hm rfl (t := 25) rfl (fun h3 => ?_) (fun h3 => ?_)
    · refine x_aload_n hm rfl rfl ?_
      refine x_ldcI hm rfl (v := (-1000001 : Int32)) (by decide +kernel) ?_
      refine x_cVi hm rfl rfl (t135 (by decide +kernel)) (fun v4 M4 r4 => ?_)
      refine x_iret hm rfl rfl (by first | rfl | exact bI_nar | decide) ?_
      first
        | exact ⟨_, _, rfl, rfl, r4.2.iq hI⟩
        | exact ⟨_, _, rfl, rfl, Iq.rf hI⟩
        | exact ⟨_, _, rfl, rfl, r1.2.iq hI⟩
        | exact ⟨_, _, rfl, rfl, r2.2.iq hI⟩
        | exact ⟨_, _, rfl, rfl, r3.2.iq hI⟩
        | exact ⟨_, _, rfl, rfl, r5.2.iq hI⟩
        | exact ⟨_, _, rfl, rfl, r6.2.iq hI⟩
        | exact ⟨_, _, rfl, rfl, r7.2.iq hI⟩
        | exact ⟨_, _, rfl, rfl, r8.2.iq hI⟩
        | exact ⟨_, _, rfl, rfl, r9.2.iq hI⟩
        | exact ⟨_, _, rfl, rfl, r10.2.iq hI⟩
        | exact ⟨_, _, rfl, rfl, r11.2.iq hI⟩
        | exact ⟨_, _, rfl, rfl, r12.2.iq hI⟩
        | exact ⟨_, _, rfl, rfl, r13.2.iq hI⟩
        | exact ⟨_, _, rfl, rfl, r14.2.iq hI⟩
        | exact ⟨_, _, rfl, rfl, r15.2.iq hI⟩
        | exact ⟨_, _, rfl, rfl, r16.2.iq hI⟩
        | exact ⟨_, _, rfl, rfl, r17.2.iq hI⟩
        | exact ⟨_, _, rfl, rfl, r18.2.iq hI⟩
        | exact ⟨_, _, rfl, rfl, r19.2.iq hI⟩
    · obtain ⟨t, ht, rfl⟩ := in_k hnt (by omega) (bI_ne0 h3)
      refine x_aload_n hm rfl rfl ?_
      refine x_iload_n hm rfl rfl ?_
      refine x_iload_n hm rfl rfl ?_
      refine x_cVe hm rfl rfl (t144 hI.1 (by omega) (by omega)) (fun v5 r5 => ?_)
      refine x_goto hm rfl (t := 31) rfl ?_
      refine x_iret hm rfl rfl (by first | rfl | exact bI_nar | decide) ?_
      first
        | exact ⟨_, _, rfl, rfl, r5.2.iq hI⟩
        | exact ⟨_, _, rfl, rfl, Iq.rf hI⟩
        | exact ⟨_, _, rfl, rfl, r1.2.iq hI⟩
        | exact ⟨_, _, rfl, rfl, r2.2.iq hI⟩
        | exact ⟨_, _, rfl, rfl, r3.2.iq hI⟩
        | exact ⟨_, _, rfl, rfl, r4.2.iq hI⟩
        | exact ⟨_, _, rfl, rfl, r6.2.iq hI⟩
        | exact ⟨_, _, rfl, rfl, r7.2.iq hI⟩
        | exact ⟨_, _, rfl, rfl, r8.2.iq hI⟩
        | exact ⟨_, _, rfl, rfl, r9.2.iq hI⟩
        | exact ⟨_, _, rfl, rfl, r10.2.iq hI⟩
        | exact ⟨_, _, rfl, rfl, r11.2.iq hI⟩
        | exact ⟨_, _, rfl, rfl, r12.2.iq hI⟩
        | exact ⟨_, _, rfl, rfl, r13.2.iq hI⟩
        | exact ⟨_, _, rfl, rfl, r14.2.iq hI⟩
        | exact ⟨_, _, rfl, rfl, r15.2.iq hI⟩
        | exact ⟨_, _, rfl, rfl, r16.2.iq hI⟩
        | exact ⟨_, _, rfl, rfl, r17.2.iq hI⟩
        | exact ⟨_, _, rfl, rfl, r18.2.iq hI⟩
        | exact ⟨_, _, rfl, rfl, r19.2.iq hI⟩
theorem t163 {a1 : Int32} (hI : Inv M) : ∃ v M', mT X 163 [.ref 66, .int a1] (con M) (some (.int v)) (con M') ∧ Inv M' := by
  refine ti_of (row := _) rfl (Nat.le_of_ble_eq_true rfl) ?_
  have hm : mMet 163 = some _ := rfl
  refine x_iload_n hm rfl rfl ?_
  refine x_iconst hm rfl (v := nI 1) (by decide) ?_
  refine x_bipush hm rfl (v := nI 60) (by decide) ?_
  refine x_callS hm rfl rfl (t133) ?_
  refine x_if_ne hm rfl (t := 17) rfl (fun h1 => ?_) (fun h1 => ?_)
  · obtain ⟨a, ha, -, rfl⟩ := le1_k (by omega) (bI_ne0 h1)
    refine x_aload_n hm rfl rfl ?_
    refine x_getf hm rfl (gR rfl rfl) ?_
    refine x_iconst hm rfl (v := nI 0) (by decide) ?_
    refine x_iald hm rfl (lI rfl (by omega) (by decide)) ?_
    refine x_iload_n hm rfl rfl ?_
    refine x_iadd hm rfl ?_
    refine x_ldcI hm rfl (v := nI 99999) (by decide +kernel) ?_
    refine x_icmp_le hm rfl (t := 37) rfl (fun h2 => ?_) (fun h2 => ?_)
    · refine x_aload_n hm rfl rfl ?_
      refine x_iload_n hm rfl rfl ?_
      refine x_cVv hm rfl rfl (t164 hI.1 (by omega)) (fun M3 r3 => ?_)
      refine x_aload_n hm rfl rfl ?_
      refine x_cVe hm rfl rfl (t167 (r3.1.1 hI.1)) (fun v4 r4 => ?_)
      refine x_cSe hm rfl rfl (t168) (fun v5 r5 => ?_)
      refine x_iret hm rfl rfl (by first | rfl | exact bI_nar | decide) ?_
      first
        | exact ⟨_, _, rfl, rfl, r5.2.inv hI⟩
        | exact ⟨_, _, rfl, rfl, r5.1.inv hI⟩
        | exact ⟨_, _, rfl, rfl, r3.2.inv hI⟩
        | exact ⟨_, _, rfl, rfl, r4.2.inv hI⟩
        | exact ⟨_, _, rfl, rfl, r3.1.inv hI⟩
        | exact ⟨_, _, rfl, rfl, r4.1.inv hI⟩
        | exact ⟨_, _, rfl, rfl, r1.2.inv hI⟩
        | exact ⟨_, _, rfl, rfl, r2.2.inv hI⟩
        | exact ⟨_, _, rfl, rfl, r6.2.inv hI⟩
        | exact ⟨_, _, rfl, rfl, r7.2.inv hI⟩
        | exact ⟨_, _, rfl, rfl, r8.2.inv hI⟩
        | exact ⟨_, _, rfl, rfl, r9.2.inv hI⟩
        | exact ⟨_, _, rfl, rfl, r10.2.inv hI⟩
        | exact ⟨_, _, rfl, rfl, r11.2.inv hI⟩
        | exact ⟨_, _, rfl, rfl, r12.2.inv hI⟩
        | exact ⟨_, _, rfl, rfl, r13.2.inv hI⟩
        | exact ⟨_, _, rfl, rfl, r14.2.inv hI⟩
        | exact ⟨_, _, rfl, rfl, r15.2.inv hI⟩
        | exact ⟨_, _, rfl, rfl, r16.2.inv hI⟩
        | exact ⟨_, _, rfl, rfl, r17.2.inv hI⟩
        | exact ⟨_, _, rfl, rfl, r18.2.inv hI⟩
        | exact ⟨_, _, rfl, rfl, r19.2.inv hI⟩
        | exact ⟨_, _, rfl, rfl, r1.1.inv hI⟩
        | exact ⟨_, _, rfl, rfl, r2.1.inv hI⟩
        | exact ⟨_, _, rfl, rfl, r6.1.inv hI⟩
        | exact ⟨_, _, rfl, rfl, r7.1.inv hI⟩
        | exact ⟨_, _, rfl, rfl, r8.1.inv hI⟩
        | exact ⟨_, _, rfl, rfl, r9.1.inv hI⟩
        | exact ⟨_, _, rfl, rfl, r10.1.inv hI⟩
        | exact ⟨_, _, rfl, rfl, r11.1.inv hI⟩
        | exact ⟨_, _, rfl, rfl, r12.1.inv hI⟩
        | exact ⟨_, _, rfl, rfl, r13.1.inv hI⟩
        | exact ⟨_, _, rfl, rfl, r14.1.inv hI⟩
        | exact ⟨_, _, rfl, rfl, r15.1.inv hI⟩
        | exact ⟨_, _, rfl, rfl, r16.1.inv hI⟩
        | exact ⟨_, _, rfl, rfl, r17.1.inv hI⟩
        | exact ⟨_, _, rfl, rfl, r18.1.inv hI⟩
        | exact ⟨_, _, rfl, rfl, r19.1.inv hI⟩
        | exact ⟨_, _, rfl, rfl, r20.1.inv hI⟩
        | exact ⟨_, _, rfl, rfl, r21.1.inv hI⟩
        | exact ⟨_, _, rfl, rfl, r22.1.inv hI⟩
        | exact ⟨_, _, rfl, rfl, r23.1.inv hI⟩
        | exact ⟨_, _, rfl, rfl, r24.1.inv hI⟩
        | exact ⟨_, _, rfl, rfl, r25.1.inv hI⟩
        | exact ⟨_, _, rfl, rfl, r26.1.inv hI⟩
        | exact ⟨_, _, rfl, rfl, r27.1.inv hI⟩
        | exact ⟨_, _, rfl, rfl, r28.1.inv hI⟩
        | exact ⟨_, _, rfl, rfl, r29.1.inv hI⟩
        | exact ⟨_, _, rfl, rfl, r30.1.inv hI⟩
        | exact ⟨_, _, rfl, rfl, r31.1.inv hI⟩
        | exact ⟨_, _, rfl, rfl, r32.1.inv hI⟩
        | exact ⟨_, _, rfl, rfl, r33.1.inv hI⟩
        | exact ⟨_, _, rfl, rfl, r34.1.inv hI⟩
        | exact ⟨_, _, rfl, rfl, r35.1.inv hI⟩
        | exact ⟨_, _, rfl, rfl, r36.1.inv hI⟩
        | exact ⟨_, _, rfl, rfl, r37.1.inv hI⟩
        | exact ⟨_, _, rfl, rfl, r38.1.inv hI⟩
        | exact ⟨_, _, rfl, rfl, r39.1.inv hI⟩
    · refine x_aload_n hm rfl rfl ?_
      refine x_ldcI hm rfl (v := (-1000005 : Int32)) (by decide +kernel) ?_
      refine x_cVi hm rfl rfl (t135 (by decide +kernel)) (fun v6 M6 r6 => ?_)
      refine x_iret hm rfl rfl (by first | rfl | exact bI_nar | decide) ?_
      first
        | exact ⟨_, _, rfl, rfl, r6.2.inv hI⟩
        | exact ⟨_, _, rfl, rfl, r6.1.inv hI⟩
        | exact ⟨_, _, rfl, rfl, r1.2.inv hI⟩
        | exact ⟨_, _, rfl, rfl, r2.2.inv hI⟩
        | exact ⟨_, _, rfl, rfl, r3.2.inv hI⟩
        | exact ⟨_, _, rfl, rfl, r4.2.inv hI⟩
        | exact ⟨_, _, rfl, rfl, r5.2.inv hI⟩
        | exact ⟨_, _, rfl, rfl, r7.2.inv hI⟩
        | exact ⟨_, _, rfl, rfl, r8.2.inv hI⟩
        | exact ⟨_, _, rfl, rfl, r9.2.inv hI⟩
        | exact ⟨_, _, rfl, rfl, r10.2.inv hI⟩
        | exact ⟨_, _, rfl, rfl, r11.2.inv hI⟩
        | exact ⟨_, _, rfl, rfl, r12.2.inv hI⟩
        | exact ⟨_, _, rfl, rfl, r13.2.inv hI⟩
        | exact ⟨_, _, rfl, rfl, r14.2.inv hI⟩
        | exact ⟨_, _, rfl, rfl, r15.2.inv hI⟩
        | exact ⟨_, _, rfl, rfl, r16.2.inv hI⟩
        | exact ⟨_, _, rfl, rfl, r17.2.inv hI⟩
        | exact ⟨_, _, rfl, rfl, r18.2.inv hI⟩
        | exact ⟨_, _, rfl, rfl, r19.2.inv hI⟩
        | exact ⟨_, _, rfl, rfl, r1.1.inv hI⟩
        | exact ⟨_, _, rfl, rfl, r2.1.inv hI⟩
        | exact ⟨_, _, rfl, rfl, r3.1.inv hI⟩
        | exact ⟨_, _, rfl, rfl, r4.1.inv hI⟩
        | exact ⟨_, _, rfl, rfl, r5.1.inv hI⟩
        | exact ⟨_, _, rfl, rfl, r7.1.inv hI⟩
        | exact ⟨_, _, rfl, rfl, r8.1.inv hI⟩
        | exact ⟨_, _, rfl, rfl, r9.1.inv hI⟩
        | exact ⟨_, _, rfl, rfl, r10.1.inv hI⟩
        | exact ⟨_, _, rfl, rfl, r11.1.inv hI⟩
        | exact ⟨_, _, rfl, rfl, r12.1.inv hI⟩
        | exact ⟨_, _, rfl, rfl, r13.1.inv hI⟩
        | exact ⟨_, _, rfl, rfl, r14.1.inv hI⟩
        | exact ⟨_, _, rfl, rfl, r15.1.inv hI⟩
        | exact ⟨_, _, rfl, rfl, r16.1.inv hI⟩
        | exact ⟨_, _, rfl, rfl, r17.1.inv hI⟩
        | exact ⟨_, _, rfl, rfl, r18.1.inv hI⟩
        | exact ⟨_, _, rfl, rfl, r19.1.inv hI⟩
        | exact ⟨_, _, rfl, rfl, r20.1.inv hI⟩
        | exact ⟨_, _, rfl, rfl, r21.1.inv hI⟩
        | exact ⟨_, _, rfl, rfl, r22.1.inv hI⟩
        | exact ⟨_, _, rfl, rfl, r23.1.inv hI⟩
        | exact ⟨_, _, rfl, rfl, r24.1.inv hI⟩
        | exact ⟨_, _, rfl, rfl, r25.1.inv hI⟩
        | exact ⟨_, _, rfl, rfl, r26.1.inv hI⟩
        | exact ⟨_, _, rfl, rfl, r27.1.inv hI⟩
        | exact ⟨_, _, rfl, rfl, r28.1.inv hI⟩
        | exact ⟨_, _, rfl, rfl, r29.1.inv hI⟩
        | exact ⟨_, _, rfl, rfl, r30.1.inv hI⟩
        | exact ⟨_, _, rfl, rfl, r31.1.inv hI⟩
        | exact ⟨_, _, rfl, rfl, r32.1.inv hI⟩
        | exact ⟨_, _, rfl, rfl, r33.1.inv hI⟩
        | exact ⟨_, _, rfl, rfl, r34.1.inv hI⟩
        | exact ⟨_, _, rfl, rfl, r35.1.inv hI⟩
        | exact ⟨_, _, rfl, rfl, r36.1.inv hI⟩
        | exact ⟨_, _, rfl, rfl, r37.1.inv hI⟩
        | exact ⟨_, _, rfl, rfl, r38.1.inv hI⟩
        | exact ⟨_, _, rfl, rfl, r39.1.inv hI⟩
  · refine x_aload_n hm rfl rfl ?_
    refine x_ldcI hm rfl (v := (-1000001 : Int32)) (by decide +kernel) ?_
    refine x_cVi hm rfl rfl (t135 (by decide +kernel)) (fun v7 M7 r7 => ?_)
    refine x_iret hm rfl rfl (by first | rfl | exact bI_nar | decide) ?_
    first
      | exact ⟨_, _, rfl, rfl, r7.2.inv hI⟩
      | exact ⟨_, _, rfl, rfl, r7.1.inv hI⟩
      | exact ⟨_, _, rfl, rfl, r1.2.inv hI⟩
      | exact ⟨_, _, rfl, rfl, r2.2.inv hI⟩
      | exact ⟨_, _, rfl, rfl, r3.2.inv hI⟩
      | exact ⟨_, _, rfl, rfl, r4.2.inv hI⟩
      | exact ⟨_, _, rfl, rfl, r5.2.inv hI⟩
      | exact ⟨_, _, rfl, rfl, r6.2.inv hI⟩
      | exact ⟨_, _, rfl, rfl, r8.2.inv hI⟩
      | exact ⟨_, _, rfl, rfl, r9.2.inv hI⟩
      | exact ⟨_, _, rfl, rfl, r10.2.inv hI⟩
      | exact ⟨_, _, rfl, rfl, r11.2.inv hI⟩
      | exact ⟨_, _, rfl, rfl, r12.2.inv hI⟩
      | exact ⟨_, _, rfl, rfl, r13.2.inv hI⟩
      | exact ⟨_, _, rfl, rfl, r14.2.inv hI⟩
      | exact ⟨_, _, rfl, rfl, r15.2.inv hI⟩
      | exact ⟨_, _, rfl, rfl, r16.2.inv hI⟩
      | exact ⟨_, _, rfl, rfl, r17.2.inv hI⟩
      | exact ⟨_, _, rfl, rfl, r18.2.inv hI⟩
      | exact ⟨_, _, rfl, rfl, r19.2.inv hI⟩
      | exact ⟨_, _, rfl, rfl, r1.1.inv hI⟩
      | exact ⟨_, _, rfl, rfl, r2.1.inv hI⟩
      | exact ⟨_, _, rfl, rfl, r3.1.inv hI⟩
      | exact ⟨_, _, rfl, rfl, r4.1.inv hI⟩
      | exact ⟨_, _, rfl, rfl, r5.1.inv hI⟩
      | exact ⟨_, _, rfl, rfl, r6.1.inv hI⟩
      | exact ⟨_, _, rfl, rfl, r8.1.inv hI⟩
      | exact ⟨_, _, rfl, rfl, r9.1.inv hI⟩
      | exact ⟨_, _, rfl, rfl, r10.1.inv hI⟩
      | exact ⟨_, _, rfl, rfl, r11.1.inv hI⟩
      | exact ⟨_, _, rfl, rfl, r12.1.inv hI⟩
      | exact ⟨_, _, rfl, rfl, r13.1.inv hI⟩
      | exact ⟨_, _, rfl, rfl, r14.1.inv hI⟩
      | exact ⟨_, _, rfl, rfl, r15.1.inv hI⟩
      | exact ⟨_, _, rfl, rfl, r16.1.inv hI⟩
      | exact ⟨_, _, rfl, rfl, r17.1.inv hI⟩
      | exact ⟨_, _, rfl, rfl, r18.1.inv hI⟩
      | exact ⟨_, _, rfl, rfl, r19.1.inv hI⟩
      | exact ⟨_, _, rfl, rfl, r20.1.inv hI⟩
      | exact ⟨_, _, rfl, rfl, r21.1.inv hI⟩
      | exact ⟨_, _, rfl, rfl, r22.1.inv hI⟩
      | exact ⟨_, _, rfl, rfl, r23.1.inv hI⟩
      | exact ⟨_, _, rfl, rfl, r24.1.inv hI⟩
      | exact ⟨_, _, rfl, rfl, r25.1.inv hI⟩
      | exact ⟨_, _, rfl, rfl, r26.1.inv hI⟩
      | exact ⟨_, _, rfl, rfl, r27.1.inv hI⟩
      | exact ⟨_, _, rfl, rfl, r28.1.inv hI⟩
      | exact ⟨_, _, rfl, rfl, r29.1.inv hI⟩
      | exact ⟨_, _, rfl, rfl, r30.1.inv hI⟩
      | exact ⟨_, _, rfl, rfl, r31.1.inv hI⟩
      | exact ⟨_, _, rfl, rfl, r32.1.inv hI⟩
      | exact ⟨_, _, rfl, rfl, r33.1.inv hI⟩
      | exact ⟨_, _, rfl, rfl, r34.1.inv hI⟩
      | exact ⟨_, _, rfl, rfl, r35.1.inv hI⟩
      | exact ⟨_, _, rfl, rfl, r36.1.inv hI⟩
      | exact ⟨_, _, rfl, rfl, r37.1.inv hI⟩
      | exact ⟨_, _, rfl, rfl, r38.1.inv hI⟩
      | exact ⟨_, _, rfl, rfl, r39.1.inv hI⟩
theorem t161 {a1 a2 a3 : Int32} (hI : Inv M) : ∃ v M', mT X 161 [.ref 66, .int a1, .int a2, .int a3] (con M) (some (.int v)) (con M') ∧ Inv M' := by
  refine ti_of (row := _) rfl (Nat.le_of_ble_eq_true rfl) ?_
  have hm : mMet 161 = some _ := rfl
  obtain ⟨np, hp8, hnp⟩ := hI.1.np
  have J52 : ∀ (v4 : Int32) (hv : v4 = 0 ∨ ∃ f, f < 7 ∧ a2 = nI f), mEv X (QI (fun _ M' => Inv M')) 161 52 [some (.ref 66), some (.int a1), some (.int a2), some (.int a3), some (.int v4)] [] (con M) := by
    intro v4 hv
    refine x_aload_n hm rfl rfl ?_
    refine x_iload_n hm rfl rfl ?_
    refine x_callV hm rfl rfl (t153) ?_
    refine x_if_eq hm rfl (t := 78) rfl (fun h1 => ?_) (fun h1 => ?_)
    · refine x_aload_n hm rfl rfl ?_
      refine x_ldcI hm rfl (v := (-1000001 : Int32)) (by decide +kernel) ?_
      refine x_cVi hm rfl rfl (t135 (by decide +kernel)) (fun v2 M2 r2 => ?_)
      refine x_iret hm rfl rfl (by first | rfl | exact bI_nar | decide) ?_
      first
        | exact ⟨_, _, rfl, rfl, r2.2.inv hI⟩
        | exact ⟨_, _, rfl, rfl, (Sf.person (by omega) (by omega)).inv hI⟩
        | exact ⟨_, _, rfl, rfl, r1.2.inv hI⟩
        | exact ⟨_, _, rfl, rfl, r3.2.inv hI⟩
        | exact ⟨_, _, rfl, rfl, r4.2.inv hI⟩
        | exact ⟨_, _, rfl, rfl, r5.2.inv hI⟩
        | exact ⟨_, _, rfl, rfl, r6.2.inv hI⟩
        | exact ⟨_, _, rfl, rfl, r7.2.inv hI⟩
        | exact ⟨_, _, rfl, rfl, r8.2.inv hI⟩
        | exact ⟨_, _, rfl, rfl, r9.2.inv hI⟩
        | exact ⟨_, _, rfl, rfl, r10.2.inv hI⟩
        | exact ⟨_, _, rfl, rfl, r11.2.inv hI⟩
        | exact ⟨_, _, rfl, rfl, r12.2.inv hI⟩
        | exact ⟨_, _, rfl, rfl, r13.2.inv hI⟩
        | exact ⟨_, _, rfl, rfl, r14.2.inv hI⟩
        | exact ⟨_, _, rfl, rfl, r15.2.inv hI⟩
        | exact ⟨_, _, rfl, rfl, r16.2.inv hI⟩
        | exact ⟨_, _, rfl, rfl, r17.2.inv hI⟩
        | exact ⟨_, _, rfl, rfl, r18.2.inv hI⟩
        | exact ⟨_, _, rfl, rfl, r19.2.inv hI⟩
    · obtain ⟨p, hp, rfl⟩ := in_k hnp (by omega) (bI_ne0 h1)
      refine x_iload hm rfl rfl ?_
      refine x_if_eq hm rfl (t := 78) rfl (fun h3 => ?_) (fun h3 => ?_)
      · refine x_aload_n hm rfl rfl ?_
        refine x_ldcI hm rfl (v := (-1000001 : Int32)) (by decide +kernel) ?_
        refine x_cVi hm rfl rfl (t135 (by decide +kernel)) (fun v4 M4 r4 => ?_)
        refine x_iret hm rfl rfl (by first | rfl | exact bI_nar | decide) ?_
        first
          | exact ⟨_, _, rfl, rfl, r4.2.inv hI⟩
          | exact ⟨_, _, rfl, rfl, (Sf.person (by omega) (by omega)).inv hI⟩
          | exact ⟨_, _, rfl, rfl, r1.2.inv hI⟩
          | exact ⟨_, _, rfl, rfl, r2.2.inv hI⟩
          | exact ⟨_, _, rfl, rfl, r3.2.inv hI⟩
          | exact ⟨_, _, rfl, rfl, r5.2.inv hI⟩
          | exact ⟨_, _, rfl, rfl, r6.2.inv hI⟩
          | exact ⟨_, _, rfl, rfl, r7.2.inv hI⟩
          | exact ⟨_, _, rfl, rfl, r8.2.inv hI⟩
          | exact ⟨_, _, rfl, rfl, r9.2.inv hI⟩
          | exact ⟨_, _, rfl, rfl, r10.2.inv hI⟩
          | exact ⟨_, _, rfl, rfl, r11.2.inv hI⟩
          | exact ⟨_, _, rfl, rfl, r12.2.inv hI⟩
          | exact ⟨_, _, rfl, rfl, r13.2.inv hI⟩
          | exact ⟨_, _, rfl, rfl, r14.2.inv hI⟩
          | exact ⟨_, _, rfl, rfl, r15.2.inv hI⟩
          | exact ⟨_, _, rfl, rfl, r16.2.inv hI⟩
          | exact ⟨_, _, rfl, rfl, r17.2.inv hI⟩
          | exact ⟨_, _, rfl, rfl, r18.2.inv hI⟩
          | exact ⟨_, _, rfl, rfl, r19.2.inv hI⟩
      · obtain ⟨f, hf, rfl⟩ := hv.resolve_left h3
        refine x_aload_n hm rfl rfl ?_
        refine x_iload_n hm rfl rfl ?_
        refine x_iload_n hm rfl rfl ?_
        refine x_callS hm rfl rfl (t142) ?_
        refine x_iload_n hm rfl rfl ?_
        refine x_callV hm rfl rfl (t155 (by omega)) ?_
        refine x_goto hm rfl (t := 84) rfl ?_
        refine x_iret hm rfl rfl (by first | rfl | exact bI_nar | decide) ?_
        first
          | exact ⟨_, _, rfl, rfl, (Sf.person (by omega) (by omega)).inv hI⟩
          | exact ⟨_, _, rfl, rfl, r1.2.inv hI⟩
          | exact ⟨_, _, rfl, rfl, r2.2.inv hI⟩
          | exact ⟨_, _, rfl, rfl, r3.2.inv hI⟩
          | exact ⟨_, _, rfl, rfl, r4.2.inv hI⟩
          | exact ⟨_, _, rfl, rfl, r5.2.inv hI⟩
          | exact ⟨_, _, rfl, rfl, r6.2.inv hI⟩
          | exact ⟨_, _, rfl, rfl, r7.2.inv hI⟩
          | exact ⟨_, _, rfl, rfl, r8.2.inv hI⟩
          | exact ⟨_, _, rfl, rfl, r9.2.inv hI⟩
          | exact ⟨_, _, rfl, rfl, r10.2.inv hI⟩
          | exact ⟨_, _, rfl, rfl, r11.2.inv hI⟩
          | exact ⟨_, _, rfl, rfl, r12.2.inv hI⟩
          | exact ⟨_, _, rfl, rfl, r13.2.inv hI⟩
          | exact ⟨_, _, rfl, rfl, r14.2.inv hI⟩
          | exact ⟨_, _, rfl, rfl, r15.2.inv hI⟩
          | exact ⟨_, _, rfl, rfl, r16.2.inv hI⟩
          | exact ⟨_, _, rfl, rfl, r17.2.inv hI⟩
          | exact ⟨_, _, rfl, rfl, r18.2.inv hI⟩
          | exact ⟨_, _, rfl, rfl, r19.2.inv hI⟩
  refine x_iload_n hm rfl rfl ?_
  refine x_if_ne hm rfl (t := 11) rfl (fun h5 => ?_) (fun h5 => ?_)
  · refine x_iload_n hm rfl rfl ?_
    refine x_iconst hm rfl (v := nI 1) (by decide) ?_
    refine x_icmp_eq hm rfl (t := 21) rfl (fun h6 => ?_) (fun h6 => ?_)
    · refine x_iload_n hm rfl rfl ?_
      refine x_callS hm rfl rfl (t134) ?_
      refine x_goto hm rfl (t := 50) rfl ?_
      refine x_istore hm rfl rfl ?_
      first
        | exact J52 _ (Or.inl rfl)
        | exact J52 _ (Or.inr ⟨0, by decide, (show a2 = 0 by assumption).trans (by decide : (0 : Int32) = nI 0)⟩)
        | exact J52 _ (Or.inr ⟨1, by decide, by assumption⟩)
        | exact J52 _ (Or.inr ⟨2, by decide, by assumption⟩)
        | exact J52 _ (Or.inr ⟨_, by omega, hf⟩)
    · refine x_iload_n hm rfl rfl ?_
      refine x_iconst hm rfl (v := nI 2) (by decide) ?_
      refine x_icmp_ne hm rfl (t := 28) rfl (fun h7 => ?_) (fun h7 => ?_)
      · refine x_iload_n hm rfl rfl ?_
        refine x_iconst hm rfl (v := nI 3) (by decide) ?_
        refine x_bipush hm rfl (v := nI 6) (by decide) ?_
        refine x_callS hm rfl rfl (t133) ?_
        refine x_if_eq hm rfl (t := 49) rfl (fun h8 => ?_) (fun h8 => ?_)
        · refine x_iconst hm rfl (v := nI 0) (by decide) ?_
          refine x_istore hm rfl rfl ?_
          first
            | exact J52 _ (Or.inl rfl)
            | exact J52 _ (Or.inr ⟨0, by decide, (show a2 = 0 by assumption).trans (by decide : (0 : Int32) = nI 0)⟩)
            | exact J52 _ (Or.inr ⟨1, by decide, by assumption⟩)
            | exact J52 _ (Or.inr ⟨2, by decide, by assumption⟩)
            | exact J52 _ (Or.inr ⟨_, by omega, hf⟩)
        · obtain ⟨f, hf6, hf⟩ := bt_k (by decide) (by decide) (bI_ne0 h8)
          refine x_iload_n hm rfl rfl ?_
          refine x_callS hm rfl rfl (t152) ?_
          refine x_if_eq hm rfl (t := 49) rfl (fun h9 => ?_) (fun h9 => ?_)
          · refine x_iconst hm rfl (v := nI 0) (by decide) ?_
            refine x_istore hm rfl rfl ?_
            first
              | exact J52 _ (Or.inl rfl)
              | exact J52 _ (Or.inr ⟨0, by decide, (show a2 = 0 by assumption).trans (by decide : (0 : Int32) = nI 0)⟩)
              | exact J52 _ (Or.inr ⟨1, by decide, by assumption⟩)
              | exact J52 _ (Or.inr ⟨2, by decide, by assumption⟩)
              | exact J52 _ (Or.inr ⟨_, by omega, hf⟩)
          · refine x_iconst hm rfl (v := nI 1) (by decide) ?_
            refine x_goto hm rfl (t := 50) rfl ?_
            refine x_istore hm rfl rfl ?_
            first
              | exact J52 _ (Or.inl rfl)
              | exact J52 _ (Or.inr ⟨0, by decide, (show a2 = 0 by assumption).trans (by decide : (0 : Int32) = nI 0)⟩)
              | exact J52 _ (Or.inr ⟨1, by decide, by assumption⟩)
              | exact J52 _ (Or.inr ⟨2, by decide, by assumption⟩)
              | exact J52 _ (Or.inr ⟨_, by omega, hf⟩)
      · refine x_iload_n hm rfl rfl ?_
        refine x_callS hm rfl rfl (t134) ?_
        refine x_goto hm rfl (t := 50) rfl ?_
        refine x_istore hm rfl rfl ?_
        first
          | exact J52 _ (Or.inl rfl)
          | exact J52 _ (Or.inr ⟨0, by decide, (show a2 = 0 by assumption).trans (by decide : (0 : Int32) = nI 0)⟩)
          | exact J52 _ (Or.inr ⟨1, by decide, by assumption⟩)
          | exact J52 _ (Or.inr ⟨2, by decide, by assumption⟩)
          | exact J52 _ (Or.inr ⟨_, by omega, hf⟩)
  · 
    refine x_iload_n hm rfl rfl ?_
    refine x_callS hm rfl rfl (t157) ?_
    refine x_goto hm rfl (t := 50) rfl ?_
    refine x_istore hm rfl rfl ?_
    first
      | exact J52 _ (Or.inl rfl)
      | exact J52 _ (Or.inr ⟨0, by decide, (show a2 = 0 by assumption).trans (by decide : (0 : Int32) = nI 0)⟩)
      | exact J52 _ (Or.inr ⟨1, by decide, by assumption⟩)
      | exact J52 _ (Or.inr ⟨2, by decide, by assumption⟩)
      | exact J52 _ (Or.inr ⟨_, by omega, hf⟩)
theorem l169a {a1 : Int32} (hI : Inv M) {nb : Nat} (hnb : M 67 1 = nI nb) (h8 : nb ≤ 8) : ∀ (n k : Nat) (s : Int32), nb - k < n → k ≤ nb → mEv X (QI (fun _ M' => Iq M M')) 169 55 [some (.ref 66), some (.int a1), some (.int s), some (.int (nI k))] [] (con M) := by
  have hm : mMet 169 = some _ := rfl
  intro n
  induction n with
  | zero =>
    intro k s hkn hkb
    omega
  | succ n ih =>
    intro k s hkn hkb
    refine x_iload_n hm rfl rfl ?_
    refine x_aload_n hm rfl rfl ?_
    refine x_getf hm rfl (gR rfl rfl) ?_
    refine x_iconst hm rfl (v := nI 1) (by decide) ?_
    refine x_iald hm rfl (lI rfl (by omega) (by decide)) ?_
    rw [hnb]
    refine x_icmp_ge hm rfl (t := 79) rfl (fun h1 => ?_) (fun h1 => ?_)
    · refine x_iload_n hm rfl rfl ?_
      refine x_iret hm rfl rfl (by first | rfl | exact bI_nar | decide) ?_
      exact ⟨_, _, rfl, rfl, Iq.rf hI⟩
    · have hk : k < nb := Nat.lt_of_not_le fun h => h1 (nI_le h (by omega))
      refine x_iload_n hm rfl rfl ?_
      refine x_aload_n hm rfl rfl ?_
      refine x_iload_n hm rfl rfl ?_
      refine x_cVe hm rfl rfl (t140 hI.1 (by omega)) (fun v2 r2 => ?_)
      refine x_iadd hm rfl ?_
      refine x_istore_n hm rfl rfl ?_
      refine x_iinc hm rfl rfl (v := nI 1) (by decide) rfl ?_
      rw [jI_add]
      refine x_goto hm rfl (t := 55) rfl ?_
      exact ih _ _ (by omega) (by omega)
theorem l169b {a1 : Int32} (hI : Inv M) {nb : Nat} (hnb : M 67 1 = nI nb) (h8 : nb ≤ 8) : ∀ (n k : Nat) (s : Int32), nb - k < n → k ≤ nb → mEv X (QI (fun _ M' => Iq M M')) 169 83 [some (.ref 66), some (.int a1), some (.int s), some (.int (nI k))] [] (con M) := by
  have hm : mMet 169 = some _ := rfl
  intro n
  induction n with
  | zero =>
    intro k s hkn hkb
    omega
  | succ n ih =>
    intro k s hkn hkb
    refine x_iload_n hm rfl rfl ?_
    refine x_aload_n hm rfl rfl ?_
    refine x_getf hm rfl (gR rfl rfl) ?_
    refine x_iconst hm rfl (v := nI 1) (by decide) ?_
    refine x_iald hm rfl (lI rfl (by omega) (by decide)) ?_
    rw [hnb]
    refine x_icmp_ge hm rfl (t := 122) rfl (fun h1 => ?_) (fun h1 => ?_)
    · refine x_iload_n hm rfl rfl ?_
      refine x_iret hm rfl rfl (by first | rfl | exact bI_nar | decide) ?_
      exact ⟨_, _, rfl, rfl, Iq.rf hI⟩
    · have hk : k < nb := Nat.lt_of_not_le fun h => h1 (nI_le h (by omega))
      refine x_iload_n hm rfl rfl ?_
      refine x_aload_n hm rfl rfl ?_
      refine x_aload_n hm rfl rfl ?_
      refine x_iload_n hm rfl rfl ?_
      refine x_iconst hm rfl (v := nI 1) (by decide) ?_
      refine x_callV hm rfl rfl (t143 (by omega) (by omega)) ?_
      refine x_cVe hm rfl rfl (t171 hI.1) (fun v2 r2 => ?_)
      refine x_if_eq hm rfl (t := 113) rfl (fun h3 => ?_) (fun h3 => ?_)
      · refine x_iconst hm rfl (v := nI 0) (by decide) ?_
        refine x_ior hm rfl ?_
        refine x_istore_n hm rfl rfl ?_
        refine x_iinc hm rfl rfl (v := nI 1) (by decide) rfl ?_
        rw [jI_add]
        refine x_goto hm rfl (t := 83) rfl ?_
        exact ih _ _ (by omega) (by omega)
      · refine x_iconst hm rfl (v := nI 1) (by decide) ?_
        refine x_iload_n hm rfl rfl ?_
        refine x_ishl hm rfl ?_
        refine x_goto hm rfl (t := 114) rfl ?_
        refine x_ior hm rfl ?_
        refine x_istore_n hm rfl rfl ?_
        refine x_iinc hm rfl rfl (v := nI 1) (by decide) rfl ?_
        rw [jI_add]
        refine x_goto hm rfl (t := 83) rfl ?_
        exact ih _ _ (by omega) (by omega)
theorem t169 {a1 : Int32} (hI : Inv M) : ∃ v M', mT X 169 [.ref 66, .int a1] (con M) (some (.int v)) (con M') ∧ Iq M M' := by
  refine ti_of (row := _) rfl (Nat.le_of_ble_eq_true rfl) ?_
  have hm : mMet 169 = some _ := rfl
  obtain ⟨nt, hn8, hnt⟩ := hI.1.nt
  refine x_iconst hm rfl (v := nI 0) (by decide) ?_
  refine x_istore_n hm rfl rfl ?_
  refine x_iload_n hm rfl rfl ?_
  refine x_ts hm rfl (fun h1 => ⟨124, rfl, ?_⟩) (fun i1 h1 g1 => ?_)
  · refine x_aload_n hm rfl rfl ?_
    refine x_ldcI hm rfl (v := (-1000001 : Int32)) (by decide +kernel) ?_
    refine x_cVi hm rfl rfl (t135 (by decide +kernel)) (fun v2 M2 r2 => ?_)
    refine x_iret hm rfl rfl (by first | rfl | exact bI_nar | decide) ?_
    first
      | exact ⟨_, _, rfl, rfl, r2.2.iq hI⟩
      | exact ⟨_, _, rfl, rfl, Iq.rf hI⟩
      | exact ⟨_, _, rfl, rfl, r1.2.iq hI⟩
      | exact ⟨_, _, rfl, rfl, r3.2.iq hI⟩
      | exact ⟨_, _, rfl, rfl, r4.2.iq hI⟩
      | exact ⟨_, _, rfl, rfl, r5.2.iq hI⟩
      | exact ⟨_, _, rfl, rfl, r6.2.iq hI⟩
      | exact ⟨_, _, rfl, rfl, r7.2.iq hI⟩
      | exact ⟨_, _, rfl, rfl, r8.2.iq hI⟩
      | exact ⟨_, _, rfl, rfl, r9.2.iq hI⟩
      | exact ⟨_, _, rfl, rfl, r10.2.iq hI⟩
      | exact ⟨_, _, rfl, rfl, r11.2.iq hI⟩
      | exact ⟨_, _, rfl, rfl, r12.2.iq hI⟩
      | exact ⟨_, _, rfl, rfl, r13.2.iq hI⟩
      | exact ⟨_, _, rfl, rfl, r14.2.iq hI⟩
      | exact ⟨_, _, rfl, rfl, r15.2.iq hI⟩
      | exact ⟨_, _, rfl, rfl, r16.2.iq hI⟩
      | exact ⟨_, _, rfl, rfl, r17.2.iq hI⟩
      | exact ⟨_, _, rfl, rfl, r18.2.iq hI⟩
      | exact ⟨_, _, rfl, rfl, r19.2.iq hI⟩
  · have k1 : i1 = 0 ∨ i1 = 1 ∨ i1 = 2 ∨ i1 = 3 ∨ i1 = 4 := by omega
    rcases k1 with rfl | rfl | rfl | rfl | rfl
    · refine ⟨_, 36, rfl, rfl, ?_⟩
      refine x_aload_n hm rfl rfl ?_
      refine x_getf hm rfl (gR rfl rfl) ?_
      refine x_iconst hm rfl (v := nI 0) (by decide) ?_
      refine x_iald hm rfl (lI rfl (by omega) (by decide)) ?_
      refine x_iret hm rfl rfl (by first | rfl | exact bI_nar | decide) ?_
      first
        | exact ⟨_, _, rfl, rfl, Iq.rf hI⟩
        | exact ⟨_, _, rfl, rfl, r1.2.iq hI⟩
        | exact ⟨_, _, rfl, rfl, r2.2.iq hI⟩
        | exact ⟨_, _, rfl, rfl, r3.2.iq hI⟩
        | exact ⟨_, _, rfl, rfl, r4.2.iq hI⟩
        | exact ⟨_, _, rfl, rfl, r5.2.iq hI⟩
        | exact ⟨_, _, rfl, rfl, r6.2.iq hI⟩
        | exact ⟨_, _, rfl, rfl, r7.2.iq hI⟩
        | exact ⟨_, _, rfl, rfl, r8.2.iq hI⟩
        | exact ⟨_, _, rfl, rfl, r9.2.iq hI⟩
        | exact ⟨_, _, rfl, rfl, r10.2.iq hI⟩
        | exact ⟨_, _, rfl, rfl, r11.2.iq hI⟩
        | exact ⟨_, _, rfl, rfl, r12.2.iq hI⟩
        | exact ⟨_, _, rfl, rfl, r13.2.iq hI⟩
        | exact ⟨_, _, rfl, rfl, r14.2.iq hI⟩
        | exact ⟨_, _, rfl, rfl, r15.2.iq hI⟩
        | exact ⟨_, _, rfl, rfl, r16.2.iq hI⟩
        | exact ⟨_, _, rfl, rfl, r17.2.iq hI⟩
        | exact ⟨_, _, rfl, rfl, r18.2.iq hI⟩
        | exact ⟨_, _, rfl, rfl, r19.2.iq hI⟩
    · refine ⟨_, 43, rfl, rfl, ?_⟩
      refine x_aload_n hm rfl rfl ?_
      refine x_cVe hm rfl rfl (t167 hI.1) (fun v3 r3 => ?_)
      refine x_iret hm rfl rfl (by first | rfl | exact bI_nar | decide) ?_
      first
        | exact ⟨_, _, rfl, rfl, r3.2.iq hI⟩
        | exact ⟨_, _, rfl, rfl, Iq.rf hI⟩
        | exact ⟨_, _, rfl, rfl, r1.2.iq hI⟩
        | exact ⟨_, _, rfl, rfl, r2.2.iq hI⟩
        | exact ⟨_, _, rfl, rfl, r4.2.iq hI⟩
        | exact ⟨_, _, rfl, rfl, r5.2.iq hI⟩
        | exact ⟨_, _, rfl, rfl, r6.2.iq hI⟩
        | exact ⟨_, _, rfl, rfl, r7.2.iq hI⟩
        | exact ⟨_, _, rfl, rfl, r8.2.iq hI⟩
        | exact ⟨_, _, rfl, rfl, r9.2.iq hI⟩
        | exact ⟨_, _, rfl, rfl, r10.2.iq hI⟩
        | exact ⟨_, _, rfl, rfl, r11.2.iq hI⟩
        | exact ⟨_, _, rfl, rfl, r12.2.iq hI⟩
        | exact ⟨_, _, rfl, rfl, r13.2.iq hI⟩
        | exact ⟨_, _, rfl, rfl, r14.2.iq hI⟩
        | exact ⟨_, _, rfl, rfl, r15.2.iq hI⟩
        | exact ⟨_, _, rfl, rfl, r16.2.iq hI⟩
        | exact ⟨_, _, rfl, rfl, r17.2.iq hI⟩
        | exact ⟨_, _, rfl, rfl, r18.2.iq hI⟩
        | exact ⟨_, _, rfl, rfl, r19.2.iq hI⟩
    · refine ⟨_, 48, rfl, rfl, ?_⟩
      refine x_aload_n hm rfl rfl ?_
      refine x_cVe hm rfl rfl (t170 hI.1) (fun v4 r4 => ?_)
      refine x_iret hm rfl rfl (by first | rfl | exact bI_nar | decide) ?_
      first
        | exact ⟨_, _, rfl, rfl, r4.2.iq hI⟩
        | exact ⟨_, _, rfl, rfl, Iq.rf hI⟩
        | exact ⟨_, _, rfl, rfl, r1.2.iq hI⟩
        | exact ⟨_, _, rfl, rfl, r2.2.iq hI⟩
        | exact ⟨_, _, rfl, rfl, r3.2.iq hI⟩
        | exact ⟨_, _, rfl, rfl, r5.2.iq hI⟩
        | exact ⟨_, _, rfl, rfl, r6.2.iq hI⟩
        | exact ⟨_, _, rfl, rfl, r7.2.iq hI⟩
        | exact ⟨_, _, rfl, rfl, r8.2.iq hI⟩
        | exact ⟨_, _, rfl, rfl, r9.2.iq hI⟩
        | exact ⟨_, _, rfl, rfl, r10.2.iq hI⟩
        | exact ⟨_, _, rfl, rfl, r11.2.iq hI⟩
        | exact ⟨_, _, rfl, rfl, r12.2.iq hI⟩
        | exact ⟨_, _, rfl, rfl, r13.2.iq hI⟩
        | exact ⟨_, _, rfl, rfl, r14.2.iq hI⟩
        | exact ⟨_, _, rfl, rfl, r15.2.iq hI⟩
        | exact ⟨_, _, rfl, rfl, r16.2.iq hI⟩
        | exact ⟨_, _, rfl, rfl, r17.2.iq hI⟩
        | exact ⟨_, _, rfl, rfl, r18.2.iq hI⟩
        | exact ⟨_, _, rfl, rfl, r19.2.iq hI⟩
    · refine ⟨_, 53, rfl, rfl, ?_⟩
      refine x_iconst hm rfl (v := nI 0) (by decide) ?_
      refine x_istore_n hm rfl rfl ?_
      exact l169a hI hnt hn8 _ 0 _ (Nat.lt_succ_self _) (Nat.zero_le _)
    · refine ⟨_, 81, rfl, rfl, ?_⟩
      refine x_iconst hm rfl (v := nI 0) (by decide) ?_
      refine x_istore_n hm rfl rfl ?_
      exact l169b hI hnt hn8 _ 0 _ (Nat.lt_succ_self _) (Nat.zero_le _)
theorem kd_s : ∀ s, s ≤ 9 → kd 67 (4 + s) = 2 := by decide +kernel
theorem Sf.spot {s : Nat} {v : Int32} (hs : s ≤ 9) (hv : okx 2 v) : Sf M (mput M 67 (4 + s) v) := Sf.put (by rw [kd_s s hs]; exact hv) (by decide) (fun _ => ⟨by omega, by omega, fun t ht => by omega⟩)
theorem t231 {a1 a2 : Int32} (hI : Inv M) : ∃ v M', mT X 231 [.ref 66, .int a1, .int a2] (con M) (some (.int v)) (con M') ∧ Inv M' := by
  refine ti_of (row := _) rfl (Nat.le_of_ble_eq_true rfl) ?_
  have hm : mMet 231 = some _ := rfl
  obtain ⟨np, hp8, hnp⟩ := hI.1.np
  refine x_iload_n hm rfl rfl ?_
  refine x_callS hm rfl rfl (t232) ?_
  refine x_if_eq hm rfl (t := 20) rfl (fun h1 => ?_) (fun h1 => ?_)
  · refine x_aload_n hm rfl rfl ?_
    refine x_ldcI hm rfl (v := (-1000001 : Int32)) (by decide +kernel) ?_
    refine x_cVi hm rfl rfl (t135 (by decide +kernel)) (fun v2 M2 r2 => ?_)
    refine x_iret hm rfl rfl (by first | rfl | exact bI_nar | decide) ?_
    first
      | exact ⟨_, _, rfl, rfl, r2.2.inv hI⟩
      | exact ⟨_, _, rfl, rfl, (Sf.spot hs hq).inv hI⟩
      | exact ⟨_, _, rfl, rfl, r1.2.inv hI⟩
      | exact ⟨_, _, rfl, rfl, r3.2.inv hI⟩
      | exact ⟨_, _, rfl, rfl, r4.2.inv hI⟩
      | exact ⟨_, _, rfl, rfl, r5.2.inv hI⟩
      | exact ⟨_, _, rfl, rfl, r6.2.inv hI⟩
      | exact ⟨_, _, rfl, rfl, r7.2.inv hI⟩
      | exact ⟨_, _, rfl, rfl, r8.2.inv hI⟩
      | exact ⟨_, _, rfl, rfl, r9.2.inv hI⟩
      | exact ⟨_, _, rfl, rfl, r10.2.inv hI⟩
      | exact ⟨_, _, rfl, rfl, r11.2.inv hI⟩
      | exact ⟨_, _, rfl, rfl, r12.2.inv hI⟩
      | exact ⟨_, _, rfl, rfl, r13.2.inv hI⟩
      | exact ⟨_, _, rfl, rfl, r14.2.inv hI⟩
      | exact ⟨_, _, rfl, rfl, r15.2.inv hI⟩
      | exact ⟨_, _, rfl, rfl, r16.2.inv hI⟩
      | exact ⟨_, _, rfl, rfl, r17.2.inv hI⟩
      | exact ⟨_, _, rfl, rfl, r18.2.inv hI⟩
      | exact ⟨_, _, rfl, rfl, r19.2.inv hI⟩
  · obtain ⟨s, hs, rfl⟩ := le_k (by omega) (bI_ne0 h1)
    refine x_iload_n hm rfl rfl ?_
    refine x_iconst hm rfl (v := (-1 : Int32)) (by decide) ?_
    refine x_icmp_eq hm rfl (t := 27) rfl (fun h3 => ?_) (fun h3 => ?_)
    · have hq : okx 2 a2 := by rw [h3]; exact okM1
      refine x_aload_n hm rfl rfl ?_
      refine x_getf hm rfl (gR rfl rfl) ?_
      refine x_iconst hm rfl (v := nI 4) (by decide) ?_
      refine x_iload_n hm rfl rfl ?_
      refine x_iadd hm rfl ?_
      rw [jI_add]
      refine x_iload_n hm rfl rfl ?_
      refine x_iast hm rfl (sI rfl (by omega) (by decide)) ?_
      refine x_iconst hm rfl (v := nI 1) (by decide) ?_
      refine x_iret hm rfl rfl (by first | rfl | exact bI_nar | decide) ?_
      first
        | exact ⟨_, _, rfl, rfl, (Sf.spot hs hq).inv hI⟩
        | exact ⟨_, _, rfl, rfl, r1.2.inv hI⟩
        | exact ⟨_, _, rfl, rfl, r2.2.inv hI⟩
        | exact ⟨_, _, rfl, rfl, r3.2.inv hI⟩
        | exact ⟨_, _, rfl, rfl, r4.2.inv hI⟩
        | exact ⟨_, _, rfl, rfl, r5.2.inv hI⟩
        | exact ⟨_, _, rfl, rfl, r6.2.inv hI⟩
        | exact ⟨_, _, rfl, rfl, r7.2.inv hI⟩
        | exact ⟨_, _, rfl, rfl, r8.2.inv hI⟩
        | exact ⟨_, _, rfl, rfl, r9.2.inv hI⟩
        | exact ⟨_, _, rfl, rfl, r10.2.inv hI⟩
        | exact ⟨_, _, rfl, rfl, r11.2.inv hI⟩
        | exact ⟨_, _, rfl, rfl, r12.2.inv hI⟩
        | exact ⟨_, _, rfl, rfl, r13.2.inv hI⟩
        | exact ⟨_, _, rfl, rfl, r14.2.inv hI⟩
        | exact ⟨_, _, rfl, rfl, r15.2.inv hI⟩
        | exact ⟨_, _, rfl, rfl, r16.2.inv hI⟩
        | exact ⟨_, _, rfl, rfl, r17.2.inv hI⟩
        | exact ⟨_, _, rfl, rfl, r18.2.inv hI⟩
        | exact ⟨_, _, rfl, rfl, r19.2.inv hI⟩
    · refine x_aload_n hm rfl rfl ?_
      refine x_iload_n hm rfl rfl ?_
      refine x_callV hm rfl rfl (t153) ?_
      refine x_if_ne hm rfl (t := 27) rfl (fun h4 => ?_) (fun h4 => ?_)
      · have hq : okx 2 a2 := by
          obtain ⟨k, hk, e⟩ := in_k hnp (by omega) (bI_ne0 h4)
          rw [e]; exact okI2 (by omega)
        refine x_aload_n hm rfl rfl ?_
        refine x_getf hm rfl (gR rfl rfl) ?_
        refine x_iconst hm rfl (v := nI 4) (by decide) ?_
        refine x_iload_n hm rfl rfl ?_
        refine x_iadd hm rfl ?_
        rw [jI_add]
        refine x_iload_n hm rfl rfl ?_
        refine x_iast hm rfl (sI rfl (by omega) (by decide)) ?_
        refine x_iconst hm rfl (v := nI 1) (by decide) ?_
        refine x_iret hm rfl rfl (by first | rfl | exact bI_nar | decide) ?_
        first
          | exact ⟨_, _, rfl, rfl, (Sf.spot hs hq).inv hI⟩
          | exact ⟨_, _, rfl, rfl, r1.2.inv hI⟩
          | exact ⟨_, _, rfl, rfl, r2.2.inv hI⟩
          | exact ⟨_, _, rfl, rfl, r3.2.inv hI⟩
          | exact ⟨_, _, rfl, rfl, r4.2.inv hI⟩
          | exact ⟨_, _, rfl, rfl, r5.2.inv hI⟩
          | exact ⟨_, _, rfl, rfl, r6.2.inv hI⟩
          | exact ⟨_, _, rfl, rfl, r7.2.inv hI⟩
          | exact ⟨_, _, rfl, rfl, r8.2.inv hI⟩
          | exact ⟨_, _, rfl, rfl, r9.2.inv hI⟩
          | exact ⟨_, _, rfl, rfl, r10.2.inv hI⟩
          | exact ⟨_, _, rfl, rfl, r11.2.inv hI⟩
          | exact ⟨_, _, rfl, rfl, r12.2.inv hI⟩
          | exact ⟨_, _, rfl, rfl, r13.2.inv hI⟩
          | exact ⟨_, _, rfl, rfl, r14.2.inv hI⟩
          | exact ⟨_, _, rfl, rfl, r15.2.inv hI⟩
          | exact ⟨_, _, rfl, rfl, r16.2.inv hI⟩
          | exact ⟨_, _, rfl, rfl, r17.2.inv hI⟩
          | exact ⟨_, _, rfl, rfl, r18.2.inv hI⟩
          | exact ⟨_, _, rfl, rfl, r19.2.inv hI⟩
      · refine x_aload_n hm rfl rfl ?_
        refine x_ldcI hm rfl (v := (-1000001 : Int32)) (by decide +kernel) ?_
        refine x_cVi hm rfl rfl (t135 (by decide +kernel)) (fun v5 M5 r5 => ?_)
        refine x_iret hm rfl rfl (by first | rfl | exact bI_nar | decide) ?_
        first
          | exact ⟨_, _, rfl, rfl, r5.2.inv hI⟩
          | exact ⟨_, _, rfl, rfl, (Sf.spot hs hq).inv hI⟩
          | exact ⟨_, _, rfl, rfl, r1.2.inv hI⟩
          | exact ⟨_, _, rfl, rfl, r2.2.inv hI⟩
          | exact ⟨_, _, rfl, rfl, r3.2.inv hI⟩
          | exact ⟨_, _, rfl, rfl, r4.2.inv hI⟩
          | exact ⟨_, _, rfl, rfl, r6.2.inv hI⟩
          | exact ⟨_, _, rfl, rfl, r7.2.inv hI⟩
          | exact ⟨_, _, rfl, rfl, r8.2.inv hI⟩
          | exact ⟨_, _, rfl, rfl, r9.2.inv hI⟩
          | exact ⟨_, _, rfl, rfl, r10.2.inv hI⟩
          | exact ⟨_, _, rfl, rfl, r11.2.inv hI⟩
          | exact ⟨_, _, rfl, rfl, r12.2.inv hI⟩
          | exact ⟨_, _, rfl, rfl, r13.2.inv hI⟩
          | exact ⟨_, _, rfl, rfl, r14.2.inv hI⟩
          | exact ⟨_, _, rfl, rfl, r15.2.inv hI⟩
          | exact ⟨_, _, rfl, rfl, r16.2.inv hI⟩
          | exact ⟨_, _, rfl, rfl, r17.2.inv hI⟩
          | exact ⟨_, _, rfl, rfl, r18.2.inv hI⟩
          | exact ⟨_, _, rfl, rfl, r19.2.inv hI⟩
theorem t233 {a1 a2 : Int32} (hI : Inv M) : ∃ v M', mT X 233 [.ref 66, .int a1, .int a2] (con M) (some (.int v)) (con M') ∧ Iq M M' := by
  refine ti_of (row := _) rfl (Nat.le_of_ble_eq_true rfl) ?_
  have hm : mMet 233 = some _ := rfl
  refine x_iload_n hm rfl rfl ?_
  refine x_callS hm rfl rfl (t232) ?_
  refine x_if_eq hm rfl (t := 14) rfl (fun h1 => ?_) (fun h1 => ?_)
  · refine x_aload_n hm rfl rfl ?_
    refine x_ldcI hm rfl (v := (-1000001 : Int32)) (by decide +kernel) ?_
    refine x_cVi hm rfl rfl (t135 (by decide +kernel)) (fun v2 M2 r2 => ?_)
    refine x_iret hm rfl rfl (by first | rfl | exact bI_nar | decide) ?_
    first
      | exact ⟨_, _, rfl, rfl, r2.2.iq hI⟩
      | exact ⟨_, _, rfl, rfl, Iq.rf hI⟩
      | exact ⟨_, _, rfl, rfl, r1.2.iq hI⟩
      | exact ⟨_, _, rfl, rfl, r3.2.iq hI⟩
      | exact ⟨_, _, rfl, rfl, r4.2.iq hI⟩
      | exact ⟨_, _, rfl, rfl, r5.2.iq hI⟩
      | exact ⟨_, _, rfl, rfl, r6.2.iq hI⟩
      | exact ⟨_, _, rfl, rfl, r7.2.iq hI⟩
      | exact ⟨_, _, rfl, rfl, r8.2.iq hI⟩
      | exact ⟨_, _, rfl, rfl, r9.2.iq hI⟩
      | exact ⟨_, _, rfl, rfl, r10.2.iq hI⟩
      | exact ⟨_, _, rfl, rfl, r11.2.iq hI⟩
      | exact ⟨_, _, rfl, rfl, r12.2.iq hI⟩
      | exact ⟨_, _, rfl, rfl, r13.2.iq hI⟩
      | exact ⟨_, _, rfl, rfl, r14.2.iq hI⟩
      | exact ⟨_, _, rfl, rfl, r15.2.iq hI⟩
      | exact ⟨_, _, rfl, rfl, r16.2.iq hI⟩
      | exact ⟨_, _, rfl, rfl, r17.2.iq hI⟩
      | exact ⟨_, _, rfl, rfl, r18.2.iq hI⟩
      | exact ⟨_, _, rfl, rfl, r19.2.iq hI⟩
  · obtain ⟨s, hs, rfl⟩ := le_k (by omega) (bI_ne0 h1)
    refine x_iload_n hm rfl rfl ?_
    refine x_callS hm rfl rfl (t157) ?_
    refine x_if_ne hm rfl (t := 21) rfl (fun h3 => ?_) (fun h3 => ?_)
    · refine x_aload_n hm rfl rfl ?_
      refine x_getf hm rfl (gR rfl rfl) ?_
      refine x_iconst hm rfl (v := nI 4) (by decide) ?_
      refine x_iload_n hm rfl rfl ?_
      refine x_iadd hm rfl ?_
      rw [jI_add]
      refine x_iald hm rfl (lI rfl (by omega) (by decide)) ?_
      have hc2 : okx 2 (M 67 (4 + s)) := by
        have := hI.1 67 (4 + s)
        rwa [kd_s s hs] at this
      generalize M 67 (4 + s) = c at hc2 ⊢
      refine x_istore_n hm rfl rfl ?_
      refine x_iload_n hm rfl rfl ?_
      refine x_if_ge hm rfl (t := 41) rfl (fun h4 => ?_) (fun h4 => ?_)
      · obtain ⟨k, hk, rfl⟩ := (ok2 hc2).resolve_left (fun e => by subst e; exact absurd h4 (by decide))
        refine x_aload_n hm rfl rfl ?_
        refine x_iload_n hm rfl rfl ?_
        refine x_iconst hm rfl (v := nI 0) (by decide) ?_
        refine x_callV hm rfl rfl (t141 (by omega) (by omega)) ?_
        refine x_iload_n hm rfl rfl ?_
        refine x_cSe hm rfl rfl (t147) (fun v5 r5 => ?_)
        refine x_if_eq hm rfl (t := 58) rfl (fun h6 => ?_) (fun h6 => ?_)
        · refine x_aload_n hm rfl rfl ?_
          refine x_ldc_wI hm rfl (v := (-1000003 : Int32)) (by decide) ?_
          refine x_cVi hm rfl rfl (t135 (by decide +kernel)) (fun v7 M7 r7 => ?_)
          refine x_iret hm rfl rfl (by first | rfl | exact bI_nar | decide) ?_
          first
            | exact ⟨_, _, rfl, rfl, r7.2.iq hI⟩
            | exact ⟨_, _, rfl, rfl, Iq.rf hI⟩
            | exact ⟨_, _, rfl, rfl, r5.2.iq hI⟩
            | exact ⟨_, _, rfl, rfl, r1.2.iq hI⟩
            | exact ⟨_, _, rfl, rfl, r2.2.iq hI⟩
            | exact ⟨_, _, rfl, rfl, r3.2.iq hI⟩
            | exact ⟨_, _, rfl, rfl, r4.2.iq hI⟩
            | exact ⟨_, _, rfl, rfl, r6.2.iq hI⟩
            | exact ⟨_, _, rfl, rfl, r8.2.iq hI⟩
            | exact ⟨_, _, rfl, rfl, r9.2.iq hI⟩
            | exact ⟨_, _, rfl, rfl, r10.2.iq hI⟩
            | exact ⟨_, _, rfl, rfl, r11.2.iq hI⟩
            | exact ⟨_, _, rfl, rfl, r12.2.iq hI⟩
            | exact ⟨_, _, rfl, rfl, r13.2.iq hI⟩
            | exact ⟨_, _, rfl, rfl, r14.2.iq hI⟩
            | exact ⟨_, _, rfl, rfl, r15.2.iq hI⟩
            | exact ⟨_, _, rfl, rfl, r16.2.iq hI⟩
            | exact ⟨_, _, rfl, rfl, r17.2.iq hI⟩
            | exact ⟨_, _, rfl, rfl, r18.2.iq hI⟩
            | exact ⟨_, _, rfl, rfl, r19.2.iq hI⟩
        · refine x_iload_n hm rfl rfl ?_
          refine x_goto hm rfl (t := 65) rfl ?_
          refine x_iret hm rfl rfl (by first | rfl | exact bI_nar | decide) ?_
          first
            | exact ⟨_, _, rfl, rfl, r5.2.iq hI⟩
            | exact ⟨_, _, rfl, rfl, Iq.rf hI⟩
            | exact ⟨_, _, rfl, rfl, r1.2.iq hI⟩
            | exact ⟨_, _, rfl, rfl, r2.2.iq hI⟩
            | exact ⟨_, _, rfl, rfl, r3.2.iq hI⟩
            | exact ⟨_, _, rfl, rfl, r4.2.iq hI⟩
            | exact ⟨_, _, rfl, rfl, r6.2.iq hI⟩
            | exact ⟨_, _, rfl, rfl, r7.2.iq hI⟩
            | exact ⟨_, _, rfl, rfl, r8.2.iq hI⟩
            | exact ⟨_, _, rfl, rfl, r9.2.iq hI⟩
            | exact ⟨_, _, rfl, rfl, r10.2.iq hI⟩
            | exact ⟨_, _, rfl, rfl, r11.2.iq hI⟩
            | exact ⟨_, _, rfl, rfl, r12.2.iq hI⟩
            | exact ⟨_, _, rfl, rfl, r13.2.iq hI⟩
            | exact ⟨_, _, rfl, rfl, r14.2.iq hI⟩
            | exact ⟨_, _, rfl, rfl, r15.2.iq hI⟩
            | exact ⟨_, _, rfl, rfl, r16.2.iq hI⟩
            | exact ⟨_, _, rfl, rfl, r17.2.iq hI⟩
            | exact ⟨_, _, rfl, rfl, r18.2.iq hI⟩
            | exact ⟨_, _, rfl, rfl, r19.2.iq hI⟩
      · refine x_aload_n hm rfl rfl ?_
        refine x_ldcI hm rfl (v := (-1000006 : Int32)) (by decide +kernel) ?_
        refine x_cVi hm rfl rfl (t135 (by decide +kernel)) (fun v8 M8 r8 => ?_)
        refine x_iret hm rfl rfl (by first | rfl | exact bI_nar | decide) ?_
        first
          | exact ⟨_, _, rfl, rfl, r8.2.iq hI⟩
          | exact ⟨_, _, rfl, rfl, Iq.rf hI⟩
          | exact ⟨_, _, rfl, rfl, r1.2.iq hI⟩
          | exact ⟨_, _, rfl, rfl, r2.2.iq hI⟩
          | exact ⟨_, _, rfl, rfl, r3.2.iq hI⟩
          | exact ⟨_, _, rfl, rfl, r4.2.iq hI⟩
          | exact ⟨_, _, rfl, rfl, r5.2.iq hI⟩
          | exact ⟨_, _, rfl, rfl, r6.2.iq hI⟩
          | exact ⟨_, _, rfl, rfl, r7.2.iq hI⟩
          | exact ⟨_, _, rfl, rfl, r9.2.iq hI⟩
          | exact ⟨_, _, rfl, rfl, r10.2.iq hI⟩
          | exact ⟨_, _, rfl, rfl, r11.2.iq hI⟩
          | exact ⟨_, _, rfl, rfl, r12.2.iq hI⟩
          | exact ⟨_, _, rfl, rfl, r13.2.iq hI⟩
          | exact ⟨_, _, rfl, rfl, r14.2.iq hI⟩
          | exact ⟨_, _, rfl, rfl, r15.2.iq hI⟩
          | exact ⟨_, _, rfl, rfl, r16.2.iq hI⟩
          | exact ⟨_, _, rfl, rfl, r17.2.iq hI⟩
          | exact ⟨_, _, rfl, rfl, r18.2.iq hI⟩
          | exact ⟨_, _, rfl, rfl, r19.2.iq hI⟩
    · refine x_aload_n hm rfl rfl ?_
      refine x_ldcI hm rfl (v := (-1000001 : Int32)) (by decide +kernel) ?_
      refine x_cVi hm rfl rfl (t135 (by decide +kernel)) (fun v9 M9 r9 => ?_)
      refine x_iret hm rfl rfl (by first | rfl | exact bI_nar | decide) ?_
      first
        | exact ⟨_, _, rfl, rfl, r9.2.iq hI⟩
        | exact ⟨_, _, rfl, rfl, Iq.rf hI⟩
        | exact ⟨_, _, rfl, rfl, r1.2.iq hI⟩
        | exact ⟨_, _, rfl, rfl, r2.2.iq hI⟩
        | exact ⟨_, _, rfl, rfl, r3.2.iq hI⟩
        | exact ⟨_, _, rfl, rfl, r4.2.iq hI⟩
        | exact ⟨_, _, rfl, rfl, r5.2.iq hI⟩
        | exact ⟨_, _, rfl, rfl, r6.2.iq hI⟩
        | exact ⟨_, _, rfl, rfl, r7.2.iq hI⟩
        | exact ⟨_, _, rfl, rfl, r8.2.iq hI⟩
        | exact ⟨_, _, rfl, rfl, r10.2.iq hI⟩
        | exact ⟨_, _, rfl, rfl, r11.2.iq hI⟩
        | exact ⟨_, _, rfl, rfl, r12.2.iq hI⟩
        | exact ⟨_, _, rfl, rfl, r13.2.iq hI⟩
        | exact ⟨_, _, rfl, rfl, r14.2.iq hI⟩
        | exact ⟨_, _, rfl, rfl, r15.2.iq hI⟩
        | exact ⟨_, _, rfl, rfl, r16.2.iq hI⟩
        | exact ⟨_, _, rfl, rfl, r17.2.iq hI⟩
        | exact ⟨_, _, rfl, rfl, r18.2.iq hI⟩
        | exact ⟨_, _, rfl, rfl, r19.2.iq hI⟩
theorem t236 {a1 a2 : Int32} : ∃ v, mT X 236 [.int a1, .int a2] (con M) (some (.int v)) (con M) ∧ True := by
  refine te_of (row := _) rfl (Nat.le_of_ble_eq_true rfl) ?_
  have hm : mMet 236 = some _ := rfl
  refine x_iload_n hm rfl rfl ?_
  refine x_bipush hm rfl (v := nI 8) (by decide) ?_
  refine x_icmp_ne hm rfl (t := 11) rfl (fun h1 => ?_) (fun h1 => ?_)
  · refine x_iload_n hm rfl rfl ?_
    refine x_bipush hm rfl (v := nI 16) (by decide) ?_
    refine x_icmp_ne hm rfl (t := 22) rfl (fun h2 => ?_) (fun h2 => ?_)
    · refine x_iload_n hm rfl rfl ?_
      refine x_iret hm rfl rfl (by first | rfl | exact bI_nar | decide) ?_
      exact ⟨_, rfl, rfl, trivial⟩
    · refine x_iload_n hm rfl rfl ?_
      refine x_i2s hm rfl ?_
      refine x_goto hm rfl (t := 23) rfl ?_
      refine x_iret hm rfl rfl (by first | rfl | exact bI_nar | decide) ?_
      exact ⟨_, rfl, rfl, trivial⟩
  · refine x_iload_n hm rfl rfl ?_
    refine x_i2b hm rfl ?_
    refine x_goto hm rfl (t := 23) rfl ?_
    refine x_iret hm rfl rfl (by first | rfl | exact bI_nar | decide) ?_
    exact ⟨_, rfl, rfl, trivial⟩
theorem Sf.w76 {s : Nat} {v : Int32} : Sf M (mput M 76 s v) := Sf.put0 (kd76 _) (by decide) (by decide)
theorem Sf.w78 {s : Nat} {v : Int32} : Sf M (mput M 78 s v) := Sf.put0 (kd78 _) (by decide) (by decide)
theorem Sf.w79 {s : Nat} {v : Int32} : Sf M (mput M 79 s v) := Sf.put0 (kd79 _) (by decide) (by decide)
theorem Sf.w77 {s : Nat} {v : Int32} (hv : okx 5 v) : Sf M (mput M 77 s v) := Sf.put (show okx (kd 77 s) v from hv) (by decide) (fun e => absurd e (by decide))
theorem Wf.size (hW : Wf M) (s : Nat) : ∃ z, z ≤ 40 ∧ M 77 s = nI z := ok5 (show okx 5 (M 77 s) from hW 77 s)
theorem l234 {s : Nat} {a2 a3 : Int32} (hs : s ≤ 3) : ∀ (n k : Nat) (M1 : mM), 40 - k < n → k ≤ 40 → Sf M M1 → mEv X (QI (fun _ M' => Sf M M')) 234 86 [some (.ref 66), some (.int (nI s)), some (.int a2), some (.int a3), some (.int (nI k))] [] (con M1) := by
  have hm : mMet 234 = some _ := rfl
  intro n
  induction n with
  | zero =>
    intro k M1 hkn hkb hS
    omega
  | succ n ih =>
    intro k M1 hkn hkb hS
    refine x_iload hm rfl rfl ?_
    refine x_bipush hm rfl (v := nI 40) (by decide) ?_
    refine x_icmp_ge hm rfl (t := 112) rfl (fun h1 => ?_) (fun h1 => ?_)
    · refine x_aload_n hm rfl rfl ?_
      refine x_getf hm rfl (gR rfl rfl) ?_
      refine x_iload_n hm rfl rfl ?_
      refine x_iald hm rfl (lI rfl (by omega) (by decide)) ?_
      refine x_iret hm rfl rfl (by first | rfl | exact bI_nar | decide) ?_
      exact ⟨_, _, rfl, rfl, hS⟩
    · have hk : k < 40 := Nat.lt_of_not_le fun h => h1 (nI_le h (by omega))
      refine x_aload_n hm rfl rfl ?_
      refine x_getf hm rfl (gR rfl rfl) ?_
      refine x_bipush hm rfl (v := nI 40) (by decide) ?_
      refine x_iload_n hm rfl rfl ?_
      refine x_imul hm rfl ?_
      rw [jI_mul]
      refine x_iload hm rfl rfl ?_
      refine x_iadd hm rfl ?_
      rw [jI_add]
      refine x_iconst hm rfl (v := nI 0) (by decide) ?_
      refine x_iast hm rfl (sI rfl (by omega) (by decide)) ?_
      refine x_iinc hm rfl rfl (v := nI 1) (by decide) rfl ?_
      rw [jI_add]
      refine x_goto hm rfl (t := 86) rfl ?_
      exact ih _ _ (by omega) (by omega) (hS.trans Sf.w78)
theorem t234 {a1 a2 a3 : Int32} (hI : Inv M) : ∃ v M', mT X 234 [.ref 66, .int a1, .int a2, .int a3] (con M) (some (.int v)) (con M') ∧ Inv M' := by
  refine ti_of (row := _) rfl (Nat.le_of_ble_eq_true rfl) ?_
  have hm : mMet 234 = some _ := rfl
  refine x_iload_n hm rfl rfl ?_
  refine x_callS hm rfl rfl (t210) ?_
  refine x_if_eq hm rfl (t := 29) rfl (fun h1 => ?_) (fun h1 => ?_)
  · refine x_aload_n hm rfl rfl ?_
    refine x_ldcI hm rfl (v := (-1000001 : Int32)) (by decide +kernel) ?_
    refine x_cVi hm rfl rfl (t135 (by decide +kernel)) (fun v2 M2 r2 => ?_)
    refine x_iret hm rfl rfl (by first | rfl | exact bI_nar | decide) ?_
    first
      | exact ⟨_, _, rfl, rfl, r2.2.inv hI⟩
      | exact ⟨_, _, rfl, rfl, r1.2.inv hI⟩
      | exact ⟨_, _, rfl, rfl, r3.2.inv hI⟩
      | exact ⟨_, _, rfl, rfl, r4.2.inv hI⟩
      | exact ⟨_, _, rfl, rfl, r5.2.inv hI⟩
      | exact ⟨_, _, rfl, rfl, r6.2.inv hI⟩
      | exact ⟨_, _, rfl, rfl, r7.2.inv hI⟩
      | exact ⟨_, _, rfl, rfl, r8.2.inv hI⟩
      | exact ⟨_, _, rfl, rfl, r9.2.inv hI⟩
      | exact ⟨_, _, rfl, rfl, r10.2.inv hI⟩
      | exact ⟨_, _, rfl, rfl, r11.2.inv hI⟩
      | exact ⟨_, _, rfl, rfl, r12.2.inv hI⟩
      | exact ⟨_, _, rfl, rfl, r13.2.inv hI⟩
      | exact ⟨_, _, rfl, rfl, r14.2.inv hI⟩
      | exact ⟨_, _, rfl, rfl, r15.2.inv hI⟩
      | exact ⟨_, _, rfl, rfl, r16.2.inv hI⟩
      | exact ⟨_, _, rfl, rfl, r17.2.inv hI⟩
      | exact ⟨_, _, rfl, rfl, r18.2.inv hI⟩
      | exact ⟨_, _, rfl, rfl, r19.2.inv hI⟩
      | exact ⟨_, _, rfl, rfl, r20.2.inv hI⟩
      | exact ⟨_, _, rfl, rfl, r21.2.inv hI⟩
      | exact ⟨_, _, rfl, rfl, r22.2.inv hI⟩
      | exact ⟨_, _, rfl, rfl, r23.2.inv hI⟩
      | exact ⟨_, _, rfl, rfl, r24.2.inv hI⟩
      | exact ⟨_, _, rfl, rfl, r25.2.inv hI⟩
      | exact ⟨_, _, rfl, rfl, r26.2.inv hI⟩
      | exact ⟨_, _, rfl, rfl, r27.2.inv hI⟩
      | exact ⟨_, _, rfl, rfl, r28.2.inv hI⟩
      | exact ⟨_, _, rfl, rfl, r29.2.inv hI⟩
      | exact ⟨_, _, rfl, rfl, r30.2.inv hI⟩
      | exact ⟨_, _, rfl, rfl, r31.2.inv hI⟩
      | exact ⟨_, _, rfl, rfl, r32.2.inv hI⟩
      | exact ⟨_, _, rfl, rfl, r33.2.inv hI⟩
      | exact ⟨_, _, rfl, rfl, r34.2.inv hI⟩
      | exact ⟨_, _, rfl, rfl, r35.2.inv hI⟩
      | exact ⟨_, _, rfl, rfl, r36.2.inv hI⟩
      | exact ⟨_, _, rfl, rfl, r37.2.inv hI⟩
      | exact ⟨_, _, rfl, rfl, r38.2.inv hI⟩
      | exact ⟨_, _, rfl, rfl, r39.2.inv hI⟩
  · obtain ⟨s, hs, rfl⟩ := le_k (by omega) (bI_ne0 h1)
    refine x_iload_n hm rfl rfl ?_
    refine x_if_eq hm rfl (t := 36) rfl (fun h3 => ?_) (fun h3 => ?_)
    · refine x_iload_n hm rfl rfl ?_
      refine x_if_ge hm rfl (t := 48) rfl (fun h4 => ?_) (fun h4 => ?_)
      · have hn0 : ¬ a3 < 0 := fun q => Int32.not_lt.mpr h4 q
        refine x_iload_n hm rfl rfl ?_
        refine x_bipush hm rfl (v := nI 40) (by decide) ?_
        refine x_icmp_le hm rfl (t := 61) rfl (fun h5 => ?_) (fun h5 => ?_)
        · obtain ⟨z, hz, rfl⟩ : ∃ z, z ≤ 40 ∧ a3 = nI z := by
            obtain ⟨z, hz, rfl⟩ := jI_of (v := a3) hn0
            exact ⟨z, (jI_le hz (by decide)).mp h5, rfl⟩
          refine x_aload_n hm rfl rfl ?_
          refine x_getf hm rfl (gR rfl rfl) ?_
          refine x_iload_n hm rfl rfl ?_
          refine x_iload_n hm rfl rfl ?_
          refine x_iast hm rfl (sI rfl (by omega) (by decide)) ?_
          refine x_aload_n hm rfl rfl ?_
          refine x_getf hm rfl (gR rfl rfl) ?_
          refine x_iload_n hm rfl rfl ?_
          refine x_iload_n hm rfl rfl ?_
          refine x_if_ne hm rfl (t := 81) rfl (fun h6 => ?_) (fun h6 => ?_)
          · refine x_iload_n hm rfl rfl ?_
            refine x_iast hm rfl (sI rfl (by omega) (by decide)) ?_
            refine x_iconst hm rfl (v := nI 0) (by decide) ?_
            refine x_istore hm rfl rfl ?_
            first
              | exact ev_inv hI (l234 hs _ 0 _ (Nat.lt_succ_self _) (Nat.zero_le _) (Sf.w76.trans (Sf.w77 (okI5 (by omega)))))
          · refine x_iconst hm rfl (v := nI 0) (by decide) ?_
            refine x_goto hm rfl (t := 82) rfl ?_
            refine x_iast hm rfl (sI rfl (by omega) (by decide)) ?_
            refine x_iconst hm rfl (v := nI 0) (by decide) ?_
            refine x_istore hm rfl rfl ?_
            first
              | exact ev_inv hI (l234 hs _ 0 _ (Nat.lt_succ_self _) (Nat.zero_le _) (Sf.w76.trans (Sf.w77 (okI5 (by omega)))))
        · refine x_aload_n hm rfl rfl ?_
          refine x_ldcI hm rfl (v := (-1000001 : Int32)) (by decide +kernel) ?_
          refine x_cVi hm rfl rfl (t135 (by decide +kernel)) (fun v7 M7 r7 => ?_)
          refine x_iret hm rfl rfl (by first | rfl | exact bI_nar | decide) ?_
          first
            | exact ⟨_, _, rfl, rfl, r7.2.inv hI⟩
            | exact ⟨_, _, rfl, rfl, r1.2.inv hI⟩
            | exact ⟨_, _, rfl, rfl, r2.2.inv hI⟩
            | exact ⟨_, _, rfl, rfl, r3.2.inv hI⟩
            | exact ⟨_, _, rfl, rfl, r4.2.inv hI⟩
            | exact ⟨_, _, rfl, rfl, r5.2.inv hI⟩
            | exact ⟨_, _, rfl, rfl, r6.2.inv hI⟩
            | exact ⟨_, _, rfl, rfl, r8.2.inv hI⟩
            | exact ⟨_, _, rfl, rfl, r9.2.inv hI⟩
            | exact ⟨_, _, rfl, rfl, r10.2.inv hI⟩
            | exact ⟨_, _, rfl, rfl, r11.2.inv hI⟩
            | exact ⟨_, _, rfl, rfl, r12.2.inv hI⟩
            | exact ⟨_, _, rfl, rfl, r13.2.inv hI⟩
            | exact ⟨_, _, rfl, rfl, r14.2.inv hI⟩
            | exact ⟨_, _, rfl, rfl, r15.2.inv hI⟩
            | exact ⟨_, _, rfl, rfl, r16.2.inv hI⟩
            | exact ⟨_, _, rfl, rfl, r17.2.inv hI⟩
            | exact ⟨_, _, rfl, rfl, r18.2.inv hI⟩
            | exact ⟨_, _, rfl, rfl, r19.2.inv hI⟩
            | exact ⟨_, _, rfl, rfl, r20.2.inv hI⟩
            | exact ⟨_, _, rfl, rfl, r21.2.inv hI⟩
            | exact ⟨_, _, rfl, rfl, r22.2.inv hI⟩
            | exact ⟨_, _, rfl, rfl, r23.2.inv hI⟩
            | exact ⟨_, _, rfl, rfl, r24.2.inv hI⟩
            | exact ⟨_, _, rfl, rfl, r25.2.inv hI⟩
            | exact ⟨_, _, rfl, rfl, r26.2.inv hI⟩
            | exact ⟨_, _, rfl, rfl, r27.2.inv hI⟩
            | exact ⟨_, _, rfl, rfl, r28.2.inv hI⟩
            | exact ⟨_, _, rfl, rfl, r29.2.inv hI⟩
            | exact ⟨_, _, rfl, rfl, r30.2.inv hI⟩
            | exact ⟨_, _, rfl, rfl, r31.2.inv hI⟩
            | exact ⟨_, _, rfl, rfl, r32.2.inv hI⟩
            | exact ⟨_, _, rfl, rfl, r33.2.inv hI⟩
            | exact ⟨_, _, rfl, rfl, r34.2.inv hI⟩
            | exact ⟨_, _, rfl, rfl, r35.2.inv hI⟩
            | exact ⟨_, _, rfl, rfl, r36.2.inv hI⟩
            | exact ⟨_, _, rfl, rfl, r37.2.inv hI⟩
            | exact ⟨_, _, rfl, rfl, r38.2.inv hI⟩
            | exact ⟨_, _, rfl, rfl, r39.2.inv hI⟩
      · refine x_aload_n hm rfl rfl ?_
        refine x_ldc_wI hm rfl (v := (-1000007 : Int32)) (by decide) ?_
        refine x_cVi hm rfl rfl (t135 (by decide +kernel)) (fun v8 M8 r8 => ?_)
        refine x_iret hm rfl rfl (by first | rfl | exact bI_nar | decide) ?_
        first
          | exact ⟨_, _, rfl, rfl, r8.2.inv hI⟩
          | exact ⟨_, _, rfl, rfl, r1.2.inv hI⟩
          | exact ⟨_, _, rfl, rfl, r2.2.inv hI⟩
          | exact ⟨_, _, rfl, rfl, r3.2.inv hI⟩
          | exact ⟨_, _, rfl, rfl, r4.2.inv hI⟩
          | exact ⟨_, _, rfl, rfl, r5.2.inv hI⟩
          | exact ⟨_, _, rfl, rfl, r6.2.inv hI⟩
          | exact ⟨_, _, rfl, rfl, r7.2.inv hI⟩
          | exact ⟨_, _, rfl, rfl, r9.2.inv hI⟩
          | exact ⟨_, _, rfl, rfl, r10.2.inv hI⟩
          | exact ⟨_, _, rfl, rfl, r11.2.inv hI⟩
          | exact ⟨_, _, rfl, rfl, r12.2.inv hI⟩
          | exact ⟨_, _, rfl, rfl, r13.2.inv hI⟩
          | exact ⟨_, _, rfl, rfl, r14.2.inv hI⟩
          | exact ⟨_, _, rfl, rfl, r15.2.inv hI⟩
          | exact ⟨_, _, rfl, rfl, r16.2.inv hI⟩
          | exact ⟨_, _, rfl, rfl, r17.2.inv hI⟩
          | exact ⟨_, _, rfl, rfl, r18.2.inv hI⟩
          | exact ⟨_, _, rfl, rfl, r19.2.inv hI⟩
          | exact ⟨_, _, rfl, rfl, r20.2.inv hI⟩
          | exact ⟨_, _, rfl, rfl, r21.2.inv hI⟩
          | exact ⟨_, _, rfl, rfl, r22.2.inv hI⟩
          | exact ⟨_, _, rfl, rfl, r23.2.inv hI⟩
          | exact ⟨_, _, rfl, rfl, r24.2.inv hI⟩
          | exact ⟨_, _, rfl, rfl, r25.2.inv hI⟩
          | exact ⟨_, _, rfl, rfl, r26.2.inv hI⟩
          | exact ⟨_, _, rfl, rfl, r27.2.inv hI⟩
          | exact ⟨_, _, rfl, rfl, r28.2.inv hI⟩
          | exact ⟨_, _, rfl, rfl, r29.2.inv hI⟩
          | exact ⟨_, _, rfl, rfl, r30.2.inv hI⟩
          | exact ⟨_, _, rfl, rfl, r31.2.inv hI⟩
          | exact ⟨_, _, rfl, rfl, r32.2.inv hI⟩
          | exact ⟨_, _, rfl, rfl, r33.2.inv hI⟩
          | exact ⟨_, _, rfl, rfl, r34.2.inv hI⟩
          | exact ⟨_, _, rfl, rfl, r35.2.inv hI⟩
          | exact ⟨_, _, rfl, rfl, r36.2.inv hI⟩
          | exact ⟨_, _, rfl, rfl, r37.2.inv hI⟩
          | exact ⟨_, _, rfl, rfl, r38.2.inv hI⟩
          | exact ⟨_, _, rfl, rfl, r39.2.inv hI⟩
    · refine x_iload_n hm rfl rfl ?_
      refine x_bipush hm rfl (v := nI 8) (by decide) ?_
      refine x_icmp_eq hm rfl (t := 36) rfl (fun h9 => ?_) (fun h9 => ?_)
      · refine x_iload_n hm rfl rfl ?_
        refine x_if_ge hm rfl (t := 48) rfl (fun h10 => ?_) (fun h10 => ?_)
        · have hn0 : ¬ a3 < 0 := fun q => Int32.not_lt.mpr h10 q
          refine x_iload_n hm rfl rfl ?_
          refine x_bipush hm rfl (v := nI 40) (by decide) ?_
          refine x_icmp_le hm rfl (t := 61) rfl (fun h11 => ?_) (fun h11 => ?_)
          · obtain ⟨z, hz, rfl⟩ : ∃ z, z ≤ 40 ∧ a3 = nI z := by
              obtain ⟨z, hz, rfl⟩ := jI_of (v := a3) hn0
              exact ⟨z, (jI_le hz (by decide)).mp h11, rfl⟩
            refine x_aload_n hm rfl rfl ?_
            refine x_getf hm rfl (gR rfl rfl) ?_
            refine x_iload_n hm rfl rfl ?_
            refine x_iload_n hm rfl rfl ?_
            refine x_iast hm rfl (sI rfl (by omega) (by decide)) ?_
            refine x_aload_n hm rfl rfl ?_
            refine x_getf hm rfl (gR rfl rfl) ?_
            refine x_iload_n hm rfl rfl ?_
            refine x_iload_n hm rfl rfl ?_
            refine x_if_ne hm rfl (t := 81) rfl (fun h12 => ?_) (fun h12 => ?_)
            · refine x_iload_n hm rfl rfl ?_
              refine x_iast hm rfl (sI rfl (by omega) (by decide)) ?_
              refine x_iconst hm rfl (v := nI 0) (by decide) ?_
              refine x_istore hm rfl rfl ?_
              first
                | exact ev_inv hI (l234 hs _ 0 _ (Nat.lt_succ_self _) (Nat.zero_le _) (Sf.w76.trans (Sf.w77 (okI5 (by omega)))))
            · refine x_iconst hm rfl (v := nI 0) (by decide) ?_
              refine x_goto hm rfl (t := 82) rfl ?_
              refine x_iast hm rfl (sI rfl (by omega) (by decide)) ?_
              refine x_iconst hm rfl (v := nI 0) (by decide) ?_
              refine x_istore hm rfl rfl ?_
              first
                | exact ev_inv hI (l234 hs _ 0 _ (Nat.lt_succ_self _) (Nat.zero_le _) (Sf.w76.trans (Sf.w77 (okI5 (by omega)))))
          · refine x_aload_n hm rfl rfl ?_
            refine x_ldcI hm rfl (v := (-1000001 : Int32)) (by decide +kernel) ?_
            refine x_cVi hm rfl rfl (t135 (by decide +kernel)) (fun v13 M13 r13 => ?_)
            refine x_iret hm rfl rfl (by first | rfl | exact bI_nar | decide) ?_
            first
              | exact ⟨_, _, rfl, rfl, r13.2.inv hI⟩
              | exact ⟨_, _, rfl, rfl, r1.2.inv hI⟩
              | exact ⟨_, _, rfl, rfl, r2.2.inv hI⟩
              | exact ⟨_, _, rfl, rfl, r3.2.inv hI⟩
              | exact ⟨_, _, rfl, rfl, r4.2.inv hI⟩
              | exact ⟨_, _, rfl, rfl, r5.2.inv hI⟩
              | exact ⟨_, _, rfl, rfl, r6.2.inv hI⟩
              | exact ⟨_, _, rfl, rfl, r7.2.inv hI⟩
              | exact ⟨_, _, rfl, rfl, r8.2.inv hI⟩
              | exact ⟨_, _, rfl, rfl, r9.2.inv hI⟩
              | exact ⟨_, _, rfl, rfl, r10.2.inv hI⟩
              | exact ⟨_, _, rfl, rfl, r11.2.inv hI⟩
              | exact ⟨_, _, rfl, rfl, r12.2.inv hI⟩
              | exact ⟨_, _, rfl, rfl, r14.2.inv hI⟩
              | exact ⟨_, _, rfl, rfl, r15.2.inv hI⟩
              | exact ⟨_, _, rfl, rfl, r16.2.inv hI⟩
              | exact ⟨_, _, rfl, rfl, r17.2.inv hI⟩
              | exact ⟨_, _, rfl, rfl, r18.2.inv hI⟩
              | exact ⟨_, _, rfl, rfl, r19.2.inv hI⟩
              | exact ⟨_, _, rfl, rfl, r20.2.inv hI⟩
              | exact ⟨_, _, rfl, rfl, r21.2.inv hI⟩
              | exact ⟨_, _, rfl, rfl, r22.2.inv hI⟩
              | exact ⟨_, _, rfl, rfl, r23.2.inv hI⟩
              | exact ⟨_, _, rfl, rfl, r24.2.inv hI⟩
              | exact ⟨_, _, rfl, rfl, r25.2.inv hI⟩
              | exact ⟨_, _, rfl, rfl, r26.2.inv hI⟩
              | exact ⟨_, _, rfl, rfl, r27.2.inv hI⟩
              | exact ⟨_, _, rfl, rfl, r28.2.inv hI⟩
              | exact ⟨_, _, rfl, rfl, r29.2.inv hI⟩
              | exact ⟨_, _, rfl, rfl, r30.2.inv hI⟩
              | exact ⟨_, _, rfl, rfl, r31.2.inv hI⟩
              | exact ⟨_, _, rfl, rfl, r32.2.inv hI⟩
              | exact ⟨_, _, rfl, rfl, r33.2.inv hI⟩
              | exact ⟨_, _, rfl, rfl, r34.2.inv hI⟩
              | exact ⟨_, _, rfl, rfl, r35.2.inv hI⟩
              | exact ⟨_, _, rfl, rfl, r36.2.inv hI⟩
              | exact ⟨_, _, rfl, rfl, r37.2.inv hI⟩
              | exact ⟨_, _, rfl, rfl, r38.2.inv hI⟩
              | exact ⟨_, _, rfl, rfl, r39.2.inv hI⟩
        · refine x_aload_n hm rfl rfl ?_
          refine x_ldc_wI hm rfl (v := (-1000007 : Int32)) (by decide) ?_
          refine x_cVi hm rfl rfl (t135 (by decide +kernel)) (fun v14 M14 r14 => ?_)
          refine x_iret hm rfl rfl (by first | rfl | exact bI_nar | decide) ?_
          first
            | exact ⟨_, _, rfl, rfl, r14.2.inv hI⟩
            | exact ⟨_, _, rfl, rfl, r1.2.inv hI⟩
            | exact ⟨_, _, rfl, rfl, r2.2.inv hI⟩
            | exact ⟨_, _, rfl, rfl, r3.2.inv hI⟩
            | exact ⟨_, _, rfl, rfl, r4.2.inv hI⟩
            | exact ⟨_, _, rfl, rfl, r5.2.inv hI⟩
            | exact ⟨_, _, rfl, rfl, r6.2.inv hI⟩
            | exact ⟨_, _, rfl, rfl, r7.2.inv hI⟩
            | exact ⟨_, _, rfl, rfl, r8.2.inv hI⟩
            | exact ⟨_, _, rfl, rfl, r9.2.inv hI⟩
            | exact ⟨_, _, rfl, rfl, r10.2.inv hI⟩
            | exact ⟨_, _, rfl, rfl, r11.2.inv hI⟩
            | exact ⟨_, _, rfl, rfl, r12.2.inv hI⟩
            | exact ⟨_, _, rfl, rfl, r13.2.inv hI⟩
            | exact ⟨_, _, rfl, rfl, r15.2.inv hI⟩
            | exact ⟨_, _, rfl, rfl, r16.2.inv hI⟩
            | exact ⟨_, _, rfl, rfl, r17.2.inv hI⟩
            | exact ⟨_, _, rfl, rfl, r18.2.inv hI⟩
            | exact ⟨_, _, rfl, rfl, r19.2.inv hI⟩
            | exact ⟨_, _, rfl, rfl, r20.2.inv hI⟩
            | exact ⟨_, _, rfl, rfl, r21.2.inv hI⟩
            | exact ⟨_, _, rfl, rfl, r22.2.inv hI⟩
            | exact ⟨_, _, rfl, rfl, r23.2.inv hI⟩
            | exact ⟨_, _, rfl, rfl, r24.2.inv hI⟩
            | exact ⟨_, _, rfl, rfl, r25.2.inv hI⟩
            | exact ⟨_, _, rfl, rfl, r26.2.inv hI⟩
            | exact ⟨_, _, rfl, rfl, r27.2.inv hI⟩
            | exact ⟨_, _, rfl, rfl, r28.2.inv hI⟩
            | exact ⟨_, _, rfl, rfl, r29.2.inv hI⟩
            | exact ⟨_, _, rfl, rfl, r30.2.inv hI⟩
            | exact ⟨_, _, rfl, rfl, r31.2.inv hI⟩
            | exact ⟨_, _, rfl, rfl, r32.2.inv hI⟩
            | exact ⟨_, _, rfl, rfl, r33.2.inv hI⟩
            | exact ⟨_, _, rfl, rfl, r34.2.inv hI⟩
            | exact ⟨_, _, rfl, rfl, r35.2.inv hI⟩
            | exact ⟨_, _, rfl, rfl, r36.2.inv hI⟩
            | exact ⟨_, _, rfl, rfl, r37.2.inv hI⟩
            | exact ⟨_, _, rfl, rfl, r38.2.inv hI⟩
            | exact ⟨_, _, rfl, rfl, r39.2.inv hI⟩
      · refine x_iload_n hm rfl rfl ?_
        refine x_bipush hm rfl (v := nI 16) (by decide) ?_
        refine x_icmp_eq hm rfl (t := 36) rfl (fun h15 => ?_) (fun h15 => ?_)
        · refine x_iload_n hm rfl rfl ?_
          refine x_if_ge hm rfl (t := 48) rfl (fun h16 => ?_) (fun h16 => ?_)
          · have hn0 : ¬ a3 < 0 := fun q => Int32.not_lt.mpr h16 q
            refine x_iload_n hm rfl rfl ?_
            refine x_bipush hm rfl (v := nI 40) (by decide) ?_
            refine x_icmp_le hm rfl (t := 61) rfl (fun h17 => ?_) (fun h17 => ?_)
            · obtain ⟨z, hz, rfl⟩ : ∃ z, z ≤ 40 ∧ a3 = nI z := by
                obtain ⟨z, hz, rfl⟩ := jI_of (v := a3) hn0
                exact ⟨z, (jI_le hz (by decide)).mp h17, rfl⟩
              refine x_aload_n hm rfl rfl ?_
              refine x_getf hm rfl (gR rfl rfl) ?_
              refine x_iload_n hm rfl rfl ?_
              refine x_iload_n hm rfl rfl ?_
              refine x_iast hm rfl (sI rfl (by omega) (by decide)) ?_
              refine x_aload_n hm rfl rfl ?_
              refine x_getf hm rfl (gR rfl rfl) ?_
              refine x_iload_n hm rfl rfl ?_
              refine x_iload_n hm rfl rfl ?_
              refine x_if_ne hm rfl (t := 81) rfl (fun h18 => ?_) (fun h18 => ?_)
              · refine x_iload_n hm rfl rfl ?_
                refine x_iast hm rfl (sI rfl (by omega) (by decide)) ?_
                refine x_iconst hm rfl (v := nI 0) (by decide) ?_
                refine x_istore hm rfl rfl ?_
                first
                  | exact ev_inv hI (l234 hs _ 0 _ (Nat.lt_succ_self _) (Nat.zero_le _) (Sf.w76.trans (Sf.w77 (okI5 (by omega)))))
              · refine x_iconst hm rfl (v := nI 0) (by decide) ?_
                refine x_goto hm rfl (t := 82) rfl ?_
                refine x_iast hm rfl (sI rfl (by omega) (by decide)) ?_
                refine x_iconst hm rfl (v := nI 0) (by decide) ?_
                refine x_istore hm rfl rfl ?_
                first
                  | exact ev_inv hI (l234 hs _ 0 _ (Nat.lt_succ_self _) (Nat.zero_le _) (Sf.w76.trans (Sf.w77 (okI5 (by omega)))))
            · refine x_aload_n hm rfl rfl ?_
              refine x_ldcI hm rfl (v := (-1000001 : Int32)) (by decide +kernel) ?_
              refine x_cVi hm rfl rfl (t135 (by decide +kernel)) (fun v19 M19 r19 => ?_)
              refine x_iret hm rfl rfl (by first | rfl | exact bI_nar | decide) ?_
              first
                | exact ⟨_, _, rfl, rfl, r19.2.inv hI⟩
                | exact ⟨_, _, rfl, rfl, r1.2.inv hI⟩
                | exact ⟨_, _, rfl, rfl, r2.2.inv hI⟩
                | exact ⟨_, _, rfl, rfl, r3.2.inv hI⟩
                | exact ⟨_, _, rfl, rfl, r4.2.inv hI⟩
                | exact ⟨_, _, rfl, rfl, r5.2.inv hI⟩
                | exact ⟨_, _, rfl, rfl, r6.2.inv hI⟩
                | exact ⟨_, _, rfl, rfl, r7.2.inv hI⟩
                | exact ⟨_, _, rfl, rfl, r8.2.inv hI⟩
                | exact ⟨_, _, rfl, rfl, r9.2.inv hI⟩
                | exact ⟨_, _, rfl, rfl, r10.2.inv hI⟩
                | exact ⟨_, _, rfl, rfl, r11.2.inv hI⟩
                | exact ⟨_, _, rfl, rfl, r12.2.inv hI⟩
                | exact ⟨_, _, rfl, rfl, r13.2.inv hI⟩
                | exact ⟨_, _, rfl, rfl, r14.2.inv hI⟩
                | exact ⟨_, _, rfl, rfl, r15.2.inv hI⟩
                | exact ⟨_, _, rfl, rfl, r16.2.inv hI⟩
                | exact ⟨_, _, rfl, rfl, r17.2.inv hI⟩
                | exact ⟨_, _, rfl, rfl, r18.2.inv hI⟩
                | exact ⟨_, _, rfl, rfl, r20.2.inv hI⟩
                | exact ⟨_, _, rfl, rfl, r21.2.inv hI⟩
                | exact ⟨_, _, rfl, rfl, r22.2.inv hI⟩
                | exact ⟨_, _, rfl, rfl, r23.2.inv hI⟩
                | exact ⟨_, _, rfl, rfl, r24.2.inv hI⟩
                | exact ⟨_, _, rfl, rfl, r25.2.inv hI⟩
                | exact ⟨_, _, rfl, rfl, r26.2.inv hI⟩
                | exact ⟨_, _, rfl, rfl, r27.2.inv hI⟩
                | exact ⟨_, _, rfl, rfl, r28.2.inv hI⟩
                | exact ⟨_, _, rfl, rfl, r29.2.inv hI⟩
                | exact ⟨_, _, rfl, rfl, r30.2.inv hI⟩
                | exact ⟨_, _, rfl, rfl, r31.2.inv hI⟩
                | exact ⟨_, _, rfl, rfl, r32.2.inv hI⟩
                | exact ⟨_, _, rfl, rfl, r33.2.inv hI⟩
                | exact ⟨_, _, rfl, rfl, r34.2.inv hI⟩
                | exact ⟨_, _, rfl, rfl, r35.2.inv hI⟩
                | exact ⟨_, _, rfl, rfl, r36.2.inv hI⟩
                | exact ⟨_, _, rfl, rfl, r37.2.inv hI⟩
                | exact ⟨_, _, rfl, rfl, r38.2.inv hI⟩
                | exact ⟨_, _, rfl, rfl, r39.2.inv hI⟩
          · refine x_aload_n hm rfl rfl ?_
            refine x_ldc_wI hm rfl (v := (-1000007 : Int32)) (by decide) ?_
            refine x_cVi hm rfl rfl (t135 (by decide +kernel)) (fun v20 M20 r20 => ?_)
            refine x_iret hm rfl rfl (by first | rfl | exact bI_nar | decide) ?_
            first
              | exact ⟨_, _, rfl, rfl, r20.2.inv hI⟩
              | exact ⟨_, _, rfl, rfl, r1.2.inv hI⟩
              | exact ⟨_, _, rfl, rfl, r2.2.inv hI⟩
              | exact ⟨_, _, rfl, rfl, r3.2.inv hI⟩
              | exact ⟨_, _, rfl, rfl, r4.2.inv hI⟩
              | exact ⟨_, _, rfl, rfl, r5.2.inv hI⟩
              | exact ⟨_, _, rfl, rfl, r6.2.inv hI⟩
              | exact ⟨_, _, rfl, rfl, r7.2.inv hI⟩
              | exact ⟨_, _, rfl, rfl, r8.2.inv hI⟩
              | exact ⟨_, _, rfl, rfl, r9.2.inv hI⟩
              | exact ⟨_, _, rfl, rfl, r10.2.inv hI⟩
              | exact ⟨_, _, rfl, rfl, r11.2.inv hI⟩
              | exact ⟨_, _, rfl, rfl, r12.2.inv hI⟩
              | exact ⟨_, _, rfl, rfl, r13.2.inv hI⟩
              | exact ⟨_, _, rfl, rfl, r14.2.inv hI⟩
              | exact ⟨_, _, rfl, rfl, r15.2.inv hI⟩
              | exact ⟨_, _, rfl, rfl, r16.2.inv hI⟩
              | exact ⟨_, _, rfl, rfl, r17.2.inv hI⟩
              | exact ⟨_, _, rfl, rfl, r18.2.inv hI⟩
              | exact ⟨_, _, rfl, rfl, r19.2.inv hI⟩
              | exact ⟨_, _, rfl, rfl, r21.2.inv hI⟩
              | exact ⟨_, _, rfl, rfl, r22.2.inv hI⟩
              | exact ⟨_, _, rfl, rfl, r23.2.inv hI⟩
              | exact ⟨_, _, rfl, rfl, r24.2.inv hI⟩
              | exact ⟨_, _, rfl, rfl, r25.2.inv hI⟩
              | exact ⟨_, _, rfl, rfl, r26.2.inv hI⟩
              | exact ⟨_, _, rfl, rfl, r27.2.inv hI⟩
              | exact ⟨_, _, rfl, rfl, r28.2.inv hI⟩
              | exact ⟨_, _, rfl, rfl, r29.2.inv hI⟩
              | exact ⟨_, _, rfl, rfl, r30.2.inv hI⟩
              | exact ⟨_, _, rfl, rfl, r31.2.inv hI⟩
              | exact ⟨_, _, rfl, rfl, r32.2.inv hI⟩
              | exact ⟨_, _, rfl, rfl, r33.2.inv hI⟩
              | exact ⟨_, _, rfl, rfl, r34.2.inv hI⟩
              | exact ⟨_, _, rfl, rfl, r35.2.inv hI⟩
              | exact ⟨_, _, rfl, rfl, r36.2.inv hI⟩
              | exact ⟨_, _, rfl, rfl, r37.2.inv hI⟩
              | exact ⟨_, _, rfl, rfl, r38.2.inv hI⟩
              | exact ⟨_, _, rfl, rfl, r39.2.inv hI⟩
        · refine x_iload_n hm rfl rfl ?_
          refine x_bipush hm rfl (v := nI 32) (by decide) ?_
          refine x_icmp_eq hm rfl (t := 36) rfl (fun h21 => ?_) (fun h21 => ?_)
          · refine x_iload_n hm rfl rfl ?_
            refine x_if_ge hm rfl (t := 48) rfl (fun h22 => ?_) (fun h22 => ?_)
            · have hn0 : ¬ a3 < 0 := fun q => Int32.not_lt.mpr h22 q
              refine x_iload_n hm rfl rfl ?_
              refine x_bipush hm rfl (v := nI 40) (by decide) ?_
              refine x_icmp_le hm rfl (t := 61) rfl (fun h23 => ?_) (fun h23 => ?_)
              · obtain ⟨z, hz, rfl⟩ : ∃ z, z ≤ 40 ∧ a3 = nI z := by
                  obtain ⟨z, hz, rfl⟩ := jI_of (v := a3) hn0
                  exact ⟨z, (jI_le hz (by decide)).mp h23, rfl⟩
                refine x_aload_n hm rfl rfl ?_
                refine x_getf hm rfl (gR rfl rfl) ?_
                refine x_iload_n hm rfl rfl ?_
                refine x_iload_n hm rfl rfl ?_
                refine x_iast hm rfl (sI rfl (by omega) (by decide)) ?_
                refine x_aload_n hm rfl rfl ?_
                refine x_getf hm rfl (gR rfl rfl) ?_
                refine x_iload_n hm rfl rfl ?_
                refine x_iload_n hm rfl rfl ?_
                refine x_if_ne hm rfl (t := 81) rfl (fun h24 => ?_) (fun h24 => ?_)
                · refine x_iload_n hm rfl rfl ?_
                  refine x_iast hm rfl (sI rfl (by omega) (by decide)) ?_
                  refine x_iconst hm rfl (v := nI 0) (by decide) ?_
                  refine x_istore hm rfl rfl ?_
                  first
                    | exact ev_inv hI (l234 hs _ 0 _ (Nat.lt_succ_self _) (Nat.zero_le _) (Sf.w76.trans (Sf.w77 (okI5 (by omega)))))
                · refine x_iconst hm rfl (v := nI 0) (by decide) ?_
                  refine x_goto hm rfl (t := 82) rfl ?_
                  refine x_iast hm rfl (sI rfl (by omega) (by decide)) ?_
                  refine x_iconst hm rfl (v := nI 0) (by decide) ?_
                  refine x_istore hm rfl rfl ?_
                  first
                    | exact ev_inv hI (l234 hs _ 0 _ (Nat.lt_succ_self _) (Nat.zero_le _) (Sf.w76.trans (Sf.w77 (okI5 (by omega)))))
              · refine x_aload_n hm rfl rfl ?_
                refine x_ldcI hm rfl (v := (-1000001 : Int32)) (by decide +kernel) ?_
                refine x_cVi hm rfl rfl (t135 (by decide +kernel)) (fun v25 M25 r25 => ?_)
                refine x_iret hm rfl rfl (by first | rfl | exact bI_nar | decide) ?_
                first
                  | exact ⟨_, _, rfl, rfl, r25.2.inv hI⟩
                  | exact ⟨_, _, rfl, rfl, r1.2.inv hI⟩
                  | exact ⟨_, _, rfl, rfl, r2.2.inv hI⟩
                  | exact ⟨_, _, rfl, rfl, r3.2.inv hI⟩
                  | exact ⟨_, _, rfl, rfl, r4.2.inv hI⟩
                  | exact ⟨_, _, rfl, rfl, r5.2.inv hI⟩
                  | exact ⟨_, _, rfl, rfl, r6.2.inv hI⟩
                  | exact ⟨_, _, rfl, rfl, r7.2.inv hI⟩
                  | exact ⟨_, _, rfl, rfl, r8.2.inv hI⟩
                  | exact ⟨_, _, rfl, rfl, r9.2.inv hI⟩
                  | exact ⟨_, _, rfl, rfl, r10.2.inv hI⟩
                  | exact ⟨_, _, rfl, rfl, r11.2.inv hI⟩
                  | exact ⟨_, _, rfl, rfl, r12.2.inv hI⟩
                  | exact ⟨_, _, rfl, rfl, r13.2.inv hI⟩
                  | exact ⟨_, _, rfl, rfl, r14.2.inv hI⟩
                  | exact ⟨_, _, rfl, rfl, r15.2.inv hI⟩
                  | exact ⟨_, _, rfl, rfl, r16.2.inv hI⟩
                  | exact ⟨_, _, rfl, rfl, r17.2.inv hI⟩
                  | exact ⟨_, _, rfl, rfl, r18.2.inv hI⟩
                  | exact ⟨_, _, rfl, rfl, r19.2.inv hI⟩
                  | exact ⟨_, _, rfl, rfl, r20.2.inv hI⟩
                  | exact ⟨_, _, rfl, rfl, r21.2.inv hI⟩
                  | exact ⟨_, _, rfl, rfl, r22.2.inv hI⟩
                  | exact ⟨_, _, rfl, rfl, r23.2.inv hI⟩
                  | exact ⟨_, _, rfl, rfl, r24.2.inv hI⟩
                  | exact ⟨_, _, rfl, rfl, r26.2.inv hI⟩
                  | exact ⟨_, _, rfl, rfl, r27.2.inv hI⟩
                  | exact ⟨_, _, rfl, rfl, r28.2.inv hI⟩
                  | exact ⟨_, _, rfl, rfl, r29.2.inv hI⟩
                  | exact ⟨_, _, rfl, rfl, r30.2.inv hI⟩
                  | exact ⟨_, _, rfl, rfl, r31.2.inv hI⟩
                  | exact ⟨_, _, rfl, rfl, r32.2.inv hI⟩
                  | exact ⟨_, _, rfl, rfl, r33.2.inv hI⟩
                  | exact ⟨_, _, rfl, rfl, r34.2.inv hI⟩
                  | exact ⟨_, _, rfl, rfl, r35.2.inv hI⟩
                  | exact ⟨_, _, rfl, rfl, r36.2.inv hI⟩
                  | exact ⟨_, _, rfl, rfl, r37.2.inv hI⟩
                  | exact ⟨_, _, rfl, rfl, r38.2.inv hI⟩
                  | exact ⟨_, _, rfl, rfl, r39.2.inv hI⟩
            · refine x_aload_n hm rfl rfl ?_
              refine x_ldc_wI hm rfl (v := (-1000007 : Int32)) (by decide) ?_
              refine x_cVi hm rfl rfl (t135 (by decide +kernel)) (fun v26 M26 r26 => ?_)
              refine x_iret hm rfl rfl (by first | rfl | exact bI_nar | decide) ?_
              first
                | exact ⟨_, _, rfl, rfl, r26.2.inv hI⟩
                | exact ⟨_, _, rfl, rfl, r1.2.inv hI⟩
                | exact ⟨_, _, rfl, rfl, r2.2.inv hI⟩
                | exact ⟨_, _, rfl, rfl, r3.2.inv hI⟩
                | exact ⟨_, _, rfl, rfl, r4.2.inv hI⟩
                | exact ⟨_, _, rfl, rfl, r5.2.inv hI⟩
                | exact ⟨_, _, rfl, rfl, r6.2.inv hI⟩
                | exact ⟨_, _, rfl, rfl, r7.2.inv hI⟩
                | exact ⟨_, _, rfl, rfl, r8.2.inv hI⟩
                | exact ⟨_, _, rfl, rfl, r9.2.inv hI⟩
                | exact ⟨_, _, rfl, rfl, r10.2.inv hI⟩
                | exact ⟨_, _, rfl, rfl, r11.2.inv hI⟩
                | exact ⟨_, _, rfl, rfl, r12.2.inv hI⟩
                | exact ⟨_, _, rfl, rfl, r13.2.inv hI⟩
                | exact ⟨_, _, rfl, rfl, r14.2.inv hI⟩
                | exact ⟨_, _, rfl, rfl, r15.2.inv hI⟩
                | exact ⟨_, _, rfl, rfl, r16.2.inv hI⟩
                | exact ⟨_, _, rfl, rfl, r17.2.inv hI⟩
                | exact ⟨_, _, rfl, rfl, r18.2.inv hI⟩
                | exact ⟨_, _, rfl, rfl, r19.2.inv hI⟩
                | exact ⟨_, _, rfl, rfl, r20.2.inv hI⟩
                | exact ⟨_, _, rfl, rfl, r21.2.inv hI⟩
                | exact ⟨_, _, rfl, rfl, r22.2.inv hI⟩
                | exact ⟨_, _, rfl, rfl, r23.2.inv hI⟩
                | exact ⟨_, _, rfl, rfl, r24.2.inv hI⟩
                | exact ⟨_, _, rfl, rfl, r25.2.inv hI⟩
                | exact ⟨_, _, rfl, rfl, r27.2.inv hI⟩
                | exact ⟨_, _, rfl, rfl, r28.2.inv hI⟩
                | exact ⟨_, _, rfl, rfl, r29.2.inv hI⟩
                | exact ⟨_, _, rfl, rfl, r30.2.inv hI⟩
                | exact ⟨_, _, rfl, rfl, r31.2.inv hI⟩
                | exact ⟨_, _, rfl, rfl, r32.2.inv hI⟩
                | exact ⟨_, _, rfl, rfl, r33.2.inv hI⟩
                | exact ⟨_, _, rfl, rfl, r34.2.inv hI⟩
                | exact ⟨_, _, rfl, rfl, r35.2.inv hI⟩
                | exact ⟨_, _, rfl, rfl, r36.2.inv hI⟩
                | exact ⟨_, _, rfl, rfl, r37.2.inv hI⟩
                | exact ⟨_, _, rfl, rfl, r38.2.inv hI⟩
                | exact ⟨_, _, rfl, rfl, r39.2.inv hI⟩
          · refine x_aload_n hm rfl rfl ?_
            refine x_ldcI hm rfl (v := (-1000001 : Int32)) (by decide +kernel) ?_
            refine x_cVi hm rfl rfl (t135 (by decide +kernel)) (fun v27 M27 r27 => ?_)
            refine x_iret hm rfl rfl (by first | rfl | exact bI_nar | decide) ?_
            first
              | exact ⟨_, _, rfl, rfl, r27.2.inv hI⟩
              | exact ⟨_, _, rfl, rfl, r1.2.inv hI⟩
              | exact ⟨_, _, rfl, rfl, r2.2.inv hI⟩
              | exact ⟨_, _, rfl, rfl, r3.2.inv hI⟩
              | exact ⟨_, _, rfl, rfl, r4.2.inv hI⟩
              | exact ⟨_, _, rfl, rfl, r5.2.inv hI⟩
              | exact ⟨_, _, rfl, rfl, r6.2.inv hI⟩
              | exact ⟨_, _, rfl, rfl, r7.2.inv hI⟩
              | exact ⟨_, _, rfl, rfl, r8.2.inv hI⟩
              | exact ⟨_, _, rfl, rfl, r9.2.inv hI⟩
              | exact ⟨_, _, rfl, rfl, r10.2.inv hI⟩
              | exact ⟨_, _, rfl, rfl, r11.2.inv hI⟩
              | exact ⟨_, _, rfl, rfl, r12.2.inv hI⟩
              | exact ⟨_, _, rfl, rfl, r13.2.inv hI⟩
              | exact ⟨_, _, rfl, rfl, r14.2.inv hI⟩
              | exact ⟨_, _, rfl, rfl, r15.2.inv hI⟩
              | exact ⟨_, _, rfl, rfl, r16.2.inv hI⟩
              | exact ⟨_, _, rfl, rfl, r17.2.inv hI⟩
              | exact ⟨_, _, rfl, rfl, r18.2.inv hI⟩
              | exact ⟨_, _, rfl, rfl, r19.2.inv hI⟩
              | exact ⟨_, _, rfl, rfl, r20.2.inv hI⟩
              | exact ⟨_, _, rfl, rfl, r21.2.inv hI⟩
              | exact ⟨_, _, rfl, rfl, r22.2.inv hI⟩
              | exact ⟨_, _, rfl, rfl, r23.2.inv hI⟩
              | exact ⟨_, _, rfl, rfl, r24.2.inv hI⟩
              | exact ⟨_, _, rfl, rfl, r25.2.inv hI⟩
              | exact ⟨_, _, rfl, rfl, r26.2.inv hI⟩
              | exact ⟨_, _, rfl, rfl, r28.2.inv hI⟩
              | exact ⟨_, _, rfl, rfl, r29.2.inv hI⟩
              | exact ⟨_, _, rfl, rfl, r30.2.inv hI⟩
              | exact ⟨_, _, rfl, rfl, r31.2.inv hI⟩
              | exact ⟨_, _, rfl, rfl, r32.2.inv hI⟩
              | exact ⟨_, _, rfl, rfl, r33.2.inv hI⟩
              | exact ⟨_, _, rfl, rfl, r34.2.inv hI⟩
              | exact ⟨_, _, rfl, rfl, r35.2.inv hI⟩
              | exact ⟨_, _, rfl, rfl, r36.2.inv hI⟩
              | exact ⟨_, _, rfl, rfl, r37.2.inv hI⟩
              | exact ⟨_, _, rfl, rfl, r38.2.inv hI⟩
              | exact ⟨_, _, rfl, rfl, r39.2.inv hI⟩
theorem t235 {a1 a2 a3 : Int32} (hI : Inv M) : ∃ v M', mT X 235 [.ref 66, .int a1, .int a2, .int a3] (con M) (some (.int v)) (con M') ∧ Inv M' := by
  refine ti_of (row := _) rfl (Nat.le_of_ble_eq_true rfl) ?_
  have hm : mMet 235 = some _ := rfl
  refine x_iload_n hm rfl rfl ?_
  refine x_callS hm rfl rfl (t210) ?_
  refine x_if_ne hm rfl (t := 14) rfl (fun h1 => ?_) (fun h1 => ?_)
  · obtain ⟨s, hs, rfl⟩ := le_k (by omega) (bI_ne0 h1)
    obtain ⟨z, hz, hsz⟩ := hI.1.size s
    refine x_aload_n hm rfl rfl ?_
    refine x_getf hm rfl (gR rfl rfl) ?_
    refine x_iload_n hm rfl rfl ?_
    refine x_iald hm rfl (lI rfl (by omega) (by decide)) ?_
    refine x_if_ne hm rfl (t := 30) rfl (fun h2 => ?_) (fun h2 => ?_)
    · refine x_iload_n hm rfl rfl ?_
      refine x_iconst hm rfl (v := nI 0) (by decide) ?_
      refine x_aload_n hm rfl rfl ?_
      refine x_getf hm rfl (gR rfl rfl) ?_
      refine x_iload_n hm rfl rfl ?_
      refine x_iald hm rfl (lI rfl (by omega) (by decide)) ?_
      rw [hsz]
      refine x_iconst hm rfl (v := nI 1) (by decide) ?_
      refine x_isub hm rfl ?_
      refine x_callS hm rfl rfl (t133) ?_
      refine x_if_ne hm rfl (t := 53) rfl (fun h3 => ?_) (fun h3 => ?_)
      · obtain ⟨i, hi, rfl⟩ := in_k rfl (by omega) (bI_ne0 h3)
        refine x_aload_n hm rfl rfl ?_
        refine x_getf hm rfl (gR rfl rfl) ?_
        refine x_bipush hm rfl (v := nI 40) (by decide) ?_
        refine x_iload_n hm rfl rfl ?_
        refine x_imul hm rfl ?_
        rw [jI_mul]
        refine x_iload_n hm rfl rfl ?_
        refine x_iadd hm rfl ?_
        rw [jI_add]
        refine x_iload_n hm rfl rfl ?_
        refine x_aload_n hm rfl rfl ?_
        refine x_getf hm rfl (gR rfl rfl) ?_
        refine x_iload_n hm rfl rfl ?_
        refine x_iald hm rfl (lI rfl (by omega) (by decide)) ?_
        refine x_cSe hm rfl rfl (t236) (fun v4 r4 => ?_)
        refine x_iast hm rfl (sI rfl (by omega) (by decide)) ?_
        refine x_iconst hm rfl (v := nI 1) (by decide) ?_
        refine x_iret hm rfl rfl (by first | rfl | exact bI_nar | decide) ?_
        first
          | exact ⟨_, _, rfl, rfl, r4.2.inv hI⟩
          | exact ⟨_, _, rfl, rfl, Sf.w78.inv hI⟩
          | exact ⟨_, _, rfl, rfl, r1.2.inv hI⟩
          | exact ⟨_, _, rfl, rfl, r2.2.inv hI⟩
          | exact ⟨_, _, rfl, rfl, r3.2.inv hI⟩
          | exact ⟨_, _, rfl, rfl, r5.2.inv hI⟩
          | exact ⟨_, _, rfl, rfl, r6.2.inv hI⟩
          | exact ⟨_, _, rfl, rfl, r7.2.inv hI⟩
          | exact ⟨_, _, rfl, rfl, r8.2.inv hI⟩
          | exact ⟨_, _, rfl, rfl, r9.2.inv hI⟩
          | exact ⟨_, _, rfl, rfl, r10.2.inv hI⟩
          | exact ⟨_, _, rfl, rfl, r11.2.inv hI⟩
          | exact ⟨_, _, rfl, rfl, r12.2.inv hI⟩
          | exact ⟨_, _, rfl, rfl, r13.2.inv hI⟩
          | exact ⟨_, _, rfl, rfl, r14.2.inv hI⟩
          | exact ⟨_, _, rfl, rfl, r15.2.inv hI⟩
          | exact ⟨_, _, rfl, rfl, r16.2.inv hI⟩
          | exact ⟨_, _, rfl, rfl, r17.2.inv hI⟩
          | exact ⟨_, _, rfl, rfl, r18.2.inv hI⟩
          | exact ⟨_, _, rfl, rfl, r19.2.inv hI⟩
      · refine x_aload_n hm rfl rfl ?_
        refine x_ldcI hm rfl (v := (-1000001 : Int32)) (by decide +kernel) ?_
        refine x_cVi hm rfl rfl (t135 (by decide +kernel)) (fun v5 M5 r5 => ?_)
        refine x_iret hm rfl rfl (by first | rfl | exact bI_nar | decide) ?_
        first
          | exact ⟨_, _, rfl, rfl, r5.2.inv hI⟩
          | exact ⟨_, _, rfl, rfl, Sf.w78.inv hI⟩
          | exact ⟨_, _, rfl, rfl, r1.2.inv hI⟩
          | exact ⟨_, _, rfl, rfl, r2.2.inv hI⟩
          | exact ⟨_, _, rfl, rfl, r3.2.inv hI⟩
          | exact ⟨_, _, rfl, rfl, r4.2.inv hI⟩
          | exact ⟨_, _, rfl, rfl, r6.2.inv hI⟩
          | exact ⟨_, _, rfl, rfl, r7.2.inv hI⟩
          | exact ⟨_, _, rfl, rfl, r8.2.inv hI⟩
          | exact ⟨_, _, rfl, rfl, r9.2.inv hI⟩
          | exact ⟨_, _, rfl, rfl, r10.2.inv hI⟩
          | exact ⟨_, _, rfl, rfl, r11.2.inv hI⟩
          | exact ⟨_, _, rfl, rfl, r12.2.inv hI⟩
          | exact ⟨_, _, rfl, rfl, r13.2.inv hI⟩
          | exact ⟨_, _, rfl, rfl, r14.2.inv hI⟩
          | exact ⟨_, _, rfl, rfl, r15.2.inv hI⟩
          | exact ⟨_, _, rfl, rfl, r16.2.inv hI⟩
          | exact ⟨_, _, rfl, rfl, r17.2.inv hI⟩
          | exact ⟨_, _, rfl, rfl, r18.2.inv hI⟩
          | exact ⟨_, _, rfl, rfl, r19.2.inv hI⟩
    · refine x_aload_n hm rfl rfl ?_
      refine x_ldcI hm rfl (v := (-1000006 : Int32)) (by decide +kernel) ?_
      refine x_cVi hm rfl rfl (t135 (by decide +kernel)) (fun v6 M6 r6 => ?_)
      refine x_iret hm rfl rfl (by first | rfl | exact bI_nar | decide) ?_
      first
        | exact ⟨_, _, rfl, rfl, r6.2.inv hI⟩
        | exact ⟨_, _, rfl, rfl, Sf.w78.inv hI⟩
        | exact ⟨_, _, rfl, rfl, r1.2.inv hI⟩
        | exact ⟨_, _, rfl, rfl, r2.2.inv hI⟩
        | exact ⟨_, _, rfl, rfl, r3.2.inv hI⟩
        | exact ⟨_, _, rfl, rfl, r4.2.inv hI⟩
        | exact ⟨_, _, rfl, rfl, r5.2.inv hI⟩
        | exact ⟨_, _, rfl, rfl, r7.2.inv hI⟩
        | exact ⟨_, _, rfl, rfl, r8.2.inv hI⟩
        | exact ⟨_, _, rfl, rfl, r9.2.inv hI⟩
        | exact ⟨_, _, rfl, rfl, r10.2.inv hI⟩
        | exact ⟨_, _, rfl, rfl, r11.2.inv hI⟩
        | exact ⟨_, _, rfl, rfl, r12.2.inv hI⟩
        | exact ⟨_, _, rfl, rfl, r13.2.inv hI⟩
        | exact ⟨_, _, rfl, rfl, r14.2.inv hI⟩
        | exact ⟨_, _, rfl, rfl, r15.2.inv hI⟩
        | exact ⟨_, _, rfl, rfl, r16.2.inv hI⟩
        | exact ⟨_, _, rfl, rfl, r17.2.inv hI⟩
        | exact ⟨_, _, rfl, rfl, r18.2.inv hI⟩
        | exact ⟨_, _, rfl, rfl, r19.2.inv hI⟩
  · refine x_aload_n hm rfl rfl ?_
    refine x_ldcI hm rfl (v := (-1000001 : Int32)) (by decide +kernel) ?_
    refine x_cVi hm rfl rfl (t135 (by decide +kernel)) (fun v7 M7 r7 => ?_)
    refine x_iret hm rfl rfl (by first | rfl | exact bI_nar | decide) ?_
    first
      | exact ⟨_, _, rfl, rfl, r7.2.inv hI⟩
      | exact ⟨_, _, rfl, rfl, Sf.w78.inv hI⟩
      | exact ⟨_, _, rfl, rfl, r1.2.inv hI⟩
      | exact ⟨_, _, rfl, rfl, r2.2.inv hI⟩
      | exact ⟨_, _, rfl, rfl, r3.2.inv hI⟩
      | exact ⟨_, _, rfl, rfl, r4.2.inv hI⟩
      | exact ⟨_, _, rfl, rfl, r5.2.inv hI⟩
      | exact ⟨_, _, rfl, rfl, r6.2.inv hI⟩
      | exact ⟨_, _, rfl, rfl, r8.2.inv hI⟩
      | exact ⟨_, _, rfl, rfl, r9.2.inv hI⟩
      | exact ⟨_, _, rfl, rfl, r10.2.inv hI⟩
      | exact ⟨_, _, rfl, rfl, r11.2.inv hI⟩
      | exact ⟨_, _, rfl, rfl, r12.2.inv hI⟩
      | exact ⟨_, _, rfl, rfl, r13.2.inv hI⟩
      | exact ⟨_, _, rfl, rfl, r14.2.inv hI⟩
      | exact ⟨_, _, rfl, rfl, r15.2.inv hI⟩
      | exact ⟨_, _, rfl, rfl, r16.2.inv hI⟩
      | exact ⟨_, _, rfl, rfl, r17.2.inv hI⟩
      | exact ⟨_, _, rfl, rfl, r18.2.inv hI⟩
      | exact ⟨_, _, rfl, rfl, r19.2.inv hI⟩
theorem l238 {s nt : Nat} (hW : Wf M) (hs : s ≤ 3) (hnt : M 67 1 = nI nt) (hn8 : nt ≤ 8) : ∀ (n k : Nat) (M1 : mM), 41 - k < n → k ≤ 41 → Sf M M1 → mEv X (QI (fun _ M' => Sf M M')) 238 20 [some (.ref 66), some (.int (nI s)), some (.int (nI k))] [] (con M1) := by
  have hm : mMet 238 = some _ := rfl
  intro n
  induction n with
  | zero =>
    intro k M1 hkn hkb hS
    omega
  | succ n ih =>
    intro k M1 hkn hkb hS
    have hW1 := hS.1 hW
    have hn1 : M1 67 1 = nI nt := hS.2.1.trans hnt
    obtain ⟨z, hz, hsz⟩ := hW1.size s
    refine x_iload_n hm rfl rfl ?_
    refine x_aload_n hm rfl rfl ?_
    refine x_getf hm rfl (gR rfl rfl) ?_
    refine x_iload_n hm rfl rfl ?_
    refine x_iald hm rfl (lI rfl (by omega) (by decide)) ?_
    rw [hsz]
    refine x_icmp_ge hm rfl (t := 82) rfl (fun h1 => ?_) (fun h1 => ?_)
    · refine x_iload_n hm rfl rfl ?_
      refine x_iret hm rfl rfl (by first | rfl | exact bI_nar | decide) ?_
      exact ⟨_, _, rfl, rfl, hS⟩
    · have hk : k < z := Nat.lt_of_not_le fun h => h1 (nI_le h (by omega))
      refine x_aload_n hm rfl rfl ?_
      refine x_iload_n hm rfl rfl ?_
      refine x_callV hm rfl rfl (t139) ?_
      refine x_if_eq hm rfl (t := 82) rfl (fun h2 => ?_) (fun h2 => ?_)
      · refine x_iload_n hm rfl rfl ?_
        refine x_iret hm rfl rfl (by first | rfl | exact bI_nar | decide) ?_
        exact ⟨_, _, rfl, rfl, hS⟩
      · obtain ⟨k2, hk2, e2⟩ := in_k hn1 (by omega) (bI_ne0 h2)
        obtain rfl := jI_inj (by omega) (by omega) e2
        refine x_aload_n hm rfl rfl ?_
        refine x_getf hm rfl (gR rfl rfl) ?_
        refine x_bipush hm rfl (v := nI 40) (by decide) ?_
        refine x_iload_n hm rfl rfl ?_
        refine x_imul hm rfl ?_
        rw [jI_mul]
        refine x_iload_n hm rfl rfl ?_
        refine x_iadd hm rfl ?_
        rw [jI_add]
        refine x_iald hm rfl (lI rfl (by omega) (by decide)) ?_
        refine x_callS hm rfl rfl (t151) ?_
        refine x_if_eq hm rfl (t := 82) rfl (fun h3 => ?_) (fun h3 => ?_)
        · refine x_iload_n hm rfl rfl ?_
          refine x_iret hm rfl rfl (by first | rfl | exact bI_nar | decide) ?_
          exact ⟨_, _, rfl, rfl, hS⟩
        · refine x_aload_n hm rfl rfl ?_
          refine x_getf hm rfl (gR rfl rfl) ?_
          refine x_iload_n hm rfl rfl ?_
          refine x_iconst hm rfl (v := nI 2) (by decide) ?_
          refine x_callS hm rfl rfl (t137) ?_
          refine x_aload_n hm rfl rfl ?_
          refine x_getf hm rfl (gR rfl rfl) ?_
          refine x_bipush hm rfl (v := nI 40) (by decide) ?_
          refine x_iload_n hm rfl rfl ?_
          refine x_imul hm rfl ?_
          rw [jI_mul]
          refine x_iload_n hm rfl rfl ?_
          refine x_iadd hm rfl ?_
          rw [jI_add]
          refine x_iald hm rfl (lI rfl (by omega) (by decide)) ?_
          refine x_iast hm rfl (sI rfl (by omega) (by decide)) ?_
          refine x_iinc hm rfl rfl (v := nI 1) (by decide) rfl ?_
          rw [jI_add]
          refine x_goto hm rfl (t := 20) rfl ?_
          exact ih _ _ (by omega) (by omega) (hS.trans (Sf.thing (by omega) (by decide) (by decide) (by decide)))
theorem t238 {a1 : Int32} (hI : Inv M) : ∃ v M', mT X 238 [.ref 66, .int a1] (con M) (some (.int v)) (con M') ∧ Inv M' := by
  refine ti_of (row := _) rfl (Nat.le_of_ble_eq_true rfl) ?_
  have hm : mMet 238 = some _ := rfl
  obtain ⟨nt, hn8, hnt⟩ := hI.1.nt
  refine x_aload_n hm rfl rfl ?_
  refine x_iload_n hm rfl rfl ?_
  refine x_callV hm rfl rfl (t209) ?_
  refine x_if_eq hm rfl (t := 18) rfl (fun h1 => ?_) (fun h1 => ?_)
  · obtain ⟨s, hs, rfl⟩ := lk_k h1
    refine x_iconst hm rfl (v := nI 0) (by decide) ?_
    refine x_istore_n hm rfl rfl ?_
    exact ev_inv hI (l238 hI.1 hs hnt hn8 _ 0 _ (Nat.lt_succ_self _) (Nat.zero_le _) Sf.rf)
  · refine x_aload_n hm rfl rfl ?_
    refine x_aload_n hm rfl rfl ?_
    refine x_iload_n hm rfl rfl ?_
    refine x_callV hm rfl rfl (t209) ?_
    refine x_cVi hm rfl rfl (t135 (lk_fd h1)) (fun v2 M2 r2 => ?_)
    refine x_iret hm rfl rfl (by first | rfl | exact bI_nar | decide) ?_
    first
      | exact ⟨_, _, rfl, rfl, r2.2.inv hI⟩
      | exact ⟨_, _, rfl, rfl, hI⟩
      | exact ⟨_, _, rfl, rfl, r1.2.inv hI⟩
      | exact ⟨_, _, rfl, rfl, r3.2.inv hI⟩
      | exact ⟨_, _, rfl, rfl, r4.2.inv hI⟩
      | exact ⟨_, _, rfl, rfl, r5.2.inv hI⟩
      | exact ⟨_, _, rfl, rfl, r6.2.inv hI⟩
      | exact ⟨_, _, rfl, rfl, r7.2.inv hI⟩
      | exact ⟨_, _, rfl, rfl, r8.2.inv hI⟩
      | exact ⟨_, _, rfl, rfl, r9.2.inv hI⟩
      | exact ⟨_, _, rfl, rfl, r10.2.inv hI⟩
      | exact ⟨_, _, rfl, rfl, r11.2.inv hI⟩
      | exact ⟨_, _, rfl, rfl, r12.2.inv hI⟩
      | exact ⟨_, _, rfl, rfl, r13.2.inv hI⟩
      | exact ⟨_, _, rfl, rfl, r14.2.inv hI⟩
      | exact ⟨_, _, rfl, rfl, r15.2.inv hI⟩
      | exact ⟨_, _, rfl, rfl, r16.2.inv hI⟩
      | exact ⟨_, _, rfl, rfl, r17.2.inv hI⟩
      | exact ⟨_, _, rfl, rfl, r18.2.inv hI⟩
      | exact ⟨_, _, rfl, rfl, r19.2.inv hI⟩
theorem Wf.flag (hW : Wf M) {b : Nat} {v : Int32} (hb : b ≠ 9) : Wf (mput M 66 b v) := hW.put0 (kd66 hb)
theorem flag_inv (hI : Inv M) {b : Nat} {v : Int32} (hb : b ≠ 9) : Inv (mput M 66 b v) := ⟨hI.1.flag hb, by rw [mpo (by decide)]; exact hI.2.1, by rw [mpo (by decide)]; exact hI.2.2⟩
theorem cp_b {a b j : Nat} (hj : j < 118) : cp M a b 118 b j = M a j := if_pos ⟨rfl, hj⟩
theorem cp_o {a b i : Nat} (h : i ≠ b) : cp M a b 118 i = M i := by
  funext j
  exact if_neg fun e => h e.1
theorem Ac.cp {a b : Nat} (h : Ac (M a)) : Ac (cp M a b 118 b) := h.of (cp_b (by decide)) (fun t ht => cp_b (by omega))
theorem image_inv (hI : Inv M) : Inv (cp M 67 68 118) := ⟨hI.1.ofcp (Or.inl rfl) (Or.inr (Or.inl rfl)), by rw [cp_o (by decide)]; exact hI.2.1, hI.2.1.cp⟩
theorem undo_inv (hI : Inv M) : Inv (cp M 68 67 118) := ⟨hI.1.ofcp (Or.inr (Or.inl rfl)) (Or.inl rfl), hI.2.2.cp, by rw [cp_o (by decide)]; exact hI.2.2⟩
theorem t240 (hI : Inv M) : ∃ v M', mT X 240 [.ref 66] (con M) (some (.int v)) (con M') ∧ v = nI 1 ∧ Inv M' := by
  refine ti_of (row := _) rfl (Nat.le_of_ble_eq_true rfl) ?_
  have hm : mMet 240 = some _ := rfl
  refine x_aload_n hm rfl rfl ?_
  refine x_getf hm rfl (gR rfl rfl) ?_
  refine x_aload_n hm rfl rfl ?_
  refine x_getf hm rfl (gR rfl rfl) ?_
  refine x_callS hm rfl rfl (t174 rfl rfl (by decide)) ?_
  refine x_aload_n hm rfl rfl ?_
  refine x_iconst hm rfl (v := nI 1) (by decide) ?_
  refine x_putf hm rfl (pI rfl rfl (by decide) (by first | exact mFit_int | rfl | decide) rfl) ?_
  refine x_iconst hm rfl (v := nI 1) (by decide) ?_
  refine x_iret hm rfl rfl (by first | rfl | exact bI_nar | decide) ?_
  exact ⟨_, _, rfl, rfl, rfl, flag_inv (image_inv hI) (by decide)⟩
theorem t241  (hI : Inv M) : ∃ v M', mT X 241 [.ref 66] (con M) (some (.int v)) (con M') ∧ Inv M' := by
  refine ti_of (row := _) rfl (Nat.le_of_ble_eq_true rfl) ?_
  have hm : mMet 241 = some _ := rfl
  refine x_aload_n hm rfl rfl ?_
  refine x_getf hm rfl (gI rfl rfl) ?_
  refine x_if_ne hm rfl (t := 14) rfl (fun h1 => ?_) (fun h1 => ?_)
  · refine x_aload_n hm rfl rfl ?_
    refine x_getf hm rfl (gR rfl rfl) ?_
    refine x_aload_n hm rfl rfl ?_
    refine x_getf hm rfl (gR rfl rfl) ?_
    refine x_callS hm rfl rfl (t174 rfl rfl (by decide)) ?_
    refine x_aload_n hm rfl rfl ?_
    refine x_getf hm rfl (gR rfl rfl) ?_
    refine x_iconst hm rfl (v := nI 0) (by decide) ?_
    refine x_iald hm rfl (lI rfl (by omega) (by decide)) ?_
    refine x_iret hm rfl rfl (by first | rfl | exact bI_nar | decide) ?_
    first
      | exact ⟨_, _, rfl, rfl, undo_inv hI⟩
      | exact ⟨_, _, rfl, rfl, r2.2.inv hI⟩
  · refine x_aload_n hm rfl rfl ?_
    refine x_ldcI hm rfl (v := (-1000004 : Int32)) (by decide +kernel) ?_
    refine x_cVi hm rfl rfl (t135 (by decide +kernel)) (fun v2 M2 r2 => ?_)
    refine x_iret hm rfl rfl (by first | rfl | exact bI_nar | decide) ?_
    first
      | exact ⟨_, _, rfl, rfl, r2.2.inv hI⟩
      | exact ⟨_, _, rfl, rfl, undo_inv hI⟩
theorem t242  (hI : Inv M) : ∃ v M', mT X 242 [.ref 66] (con M) (some (.int v)) (con M') ∧ Inv M' := by
  refine ti_of (row := _) rfl (Nat.le_of_ble_eq_true rfl) ?_
  have hm : mMet 242 = some _ := rfl
  refine x_aload_n hm rfl rfl ?_
  refine x_getf hm rfl (gI rfl rfl) ?_
  refine x_if_eq hm rfl (t := 11) rfl (fun h1 => ?_) (fun h1 => ?_)
  · refine x_iconst hm rfl (v := nI 0) (by decide) ?_
    refine x_istore_n hm rfl rfl ?_
    refine x_aload_n hm rfl rfl ?_
    refine x_iconst hm rfl (v := nI 0) (by decide) ?_
    refine x_putf hm rfl (pI rfl rfl (by decide) (by first | exact mFit_int | rfl | decide) rfl) ?_
    refine x_iload_n hm rfl rfl ?_
    refine x_iret hm rfl rfl (by first | rfl | exact bI_nar | decide) ?_
    exact ⟨_, _, rfl, rfl, flag_inv hI (by decide)⟩
  · refine x_iconst hm rfl (v := nI 1) (by decide) ?_
    refine x_goto hm rfl (t := 12) rfl ?_
    refine x_istore_n hm rfl rfl ?_
    refine x_aload_n hm rfl rfl ?_
    refine x_iconst hm rfl (v := nI 0) (by decide) ?_
    refine x_putf hm rfl (pI rfl rfl (by decide) (by first | exact mFit_int | rfl | decide) rfl) ?_
    refine x_iload_n hm rfl rfl ?_
    refine x_iret hm rfl rfl (by first | rfl | exact bI_nar | decide) ?_
    exact ⟨_, _, rfl, rfl, flag_inv hI (by decide)⟩
theorem l243 {a1 : Int32} (hI : Inv M) : ∀ (n k : Nat) (s : Int32), 10 - k < n → k ≤ 10 → mEv X (QI (fun _ M' => Iq M M')) 243 96 [some (.ref 66), some (.int a1), some (.int s), some (.int (nI k))] [] (con M) := by
  have hm : mMet 243 = some _ := rfl
  intro n
  induction n with
  | zero =>
    intro k s hkn hkb
    omega
  | succ n ih =>
    intro k s hkn hkb
    refine x_iload_n hm rfl rfl ?_
    refine x_bipush hm rfl (v := nI 10) (by decide) ?_
    refine x_icmp_ge hm rfl (t := 127) rfl (fun h1 => ?_) (fun h1 => ?_)
    · refine x_iload_n hm rfl rfl ?_
      refine x_iret hm rfl rfl (by first | rfl | exact bI_nar | decide) ?_
      exact ⟨_, _, rfl, rfl, Iq.rf hI⟩
    · have hk : k < 10 := Nat.lt_of_not_le fun h => h1 (nI_le h (by omega))
      refine x_iload_n hm rfl rfl ?_
      refine x_aload_n hm rfl rfl ?_
      refine x_getf hm rfl (gR rfl rfl) ?_
      refine x_iconst hm rfl (v := nI 4) (by decide) ?_
      refine x_iload_n hm rfl rfl ?_
      refine x_iadd hm rfl ?_
      rw [jI_add]
      refine x_iald hm rfl (lI rfl (by omega) (by decide)) ?_
      refine x_if_ge hm rfl (t := 118) rfl (fun h2 => ?_) (fun h2 => ?_)
      · refine x_iconst hm rfl (v := nI 1) (by decide) ?_
        refine x_iadd hm rfl ?_
        refine x_istore_n hm rfl rfl ?_
        refine x_iinc hm rfl rfl (v := nI 1) (by decide) rfl ?_
        rw [jI_add]
        refine x_goto hm rfl (t := 96) rfl ?_
        exact ih _ _ (by omega) (by omega)
      · refine x_iconst hm rfl (v := nI 0) (by decide) ?_
        refine x_goto hm rfl (t := 119) rfl ?_
        refine x_iadd hm rfl ?_
        refine x_istore_n hm rfl rfl ?_
        refine x_iinc hm rfl rfl (v := nI 1) (by decide) rfl ?_
        rw [jI_add]
        refine x_goto hm rfl (t := 96) rfl ?_
        exact ih _ _ (by omega) (by omega)
theorem t243 {a1 : Int32} (hI : Inv M) : ∃ v M', mT X 243 [.ref 66, .int a1] (con M) (some (.int v)) (con M') ∧ Iq M M' := by
  refine ti_of (row := _) rfl (Nat.le_of_ble_eq_true rfl) ?_
  have hm : mMet 243 = some _ := rfl
  refine x_iconst hm rfl (v := nI 0) (by decide) ?_
  refine x_istore_n hm rfl rfl ?_
  refine x_iload_n hm rfl rfl ?_
  refine x_ts hm rfl (fun h1 => ⟨129, rfl, ?_⟩) (fun i1 h1 g1 => ?_)
  · refine x_aload_n hm rfl rfl ?_
    refine x_ldcI hm rfl (v := (-1000001 : Int32)) (by decide +kernel) ?_
    refine x_cVi hm rfl rfl (t135 (by decide +kernel)) (fun v2 M2 r2 => ?_)
    refine x_iret hm rfl rfl (by first | rfl | exact bI_nar | decide) ?_
    first
      | exact ⟨_, _, rfl, rfl, r2.2.iq hI⟩
      | exact ⟨_, _, rfl, rfl, Iq.rf hI⟩
      | exact ⟨_, _, rfl, rfl, r1.2.iq hI⟩
      | exact ⟨_, _, rfl, rfl, r3.2.iq hI⟩
      | exact ⟨_, _, rfl, rfl, r4.2.iq hI⟩
      | exact ⟨_, _, rfl, rfl, r5.2.iq hI⟩
      | exact ⟨_, _, rfl, rfl, r6.2.iq hI⟩
      | exact ⟨_, _, rfl, rfl, r7.2.iq hI⟩
      | exact ⟨_, _, rfl, rfl, r8.2.iq hI⟩
      | exact ⟨_, _, rfl, rfl, r9.2.iq hI⟩
      | exact ⟨_, _, rfl, rfl, r10.2.iq hI⟩
      | exact ⟨_, _, rfl, rfl, r11.2.iq hI⟩
      | exact ⟨_, _, rfl, rfl, r12.2.iq hI⟩
      | exact ⟨_, _, rfl, rfl, r13.2.iq hI⟩
      | exact ⟨_, _, rfl, rfl, r14.2.iq hI⟩
      | exact ⟨_, _, rfl, rfl, r15.2.iq hI⟩
      | exact ⟨_, _, rfl, rfl, r16.2.iq hI⟩
      | exact ⟨_, _, rfl, rfl, r17.2.iq hI⟩
      | exact ⟨_, _, rfl, rfl, r18.2.iq hI⟩
      | exact ⟨_, _, rfl, rfl, r19.2.iq hI⟩
  · have k1 : i1 = 0 ∨ i1 = 1 ∨ i1 = 2 ∨ i1 = 3 ∨ i1 = 4 ∨ i1 = 5 ∨ i1 = 6 ∨ i1 = 7 := by omega
    rcases k1 with rfl | rfl | rfl | rfl | rfl | rfl | rfl | rfl
    · refine ⟨_, 48, rfl, rfl, ?_⟩
      refine x_aload_n hm rfl rfl ?_
      refine x_getf hm rfl (gR rfl rfl) ?_
      refine x_iconst hm rfl (v := nI 0) (by decide) ?_
      refine x_iald hm rfl (lI rfl (by omega) (by decide)) ?_
      refine x_iret hm rfl rfl (by first | rfl | exact bI_nar | decide) ?_
      first
        | exact ⟨_, _, rfl, rfl, Iq.rf hI⟩
        | exact ⟨_, _, rfl, rfl, r1.2.iq hI⟩
        | exact ⟨_, _, rfl, rfl, r2.2.iq hI⟩
        | exact ⟨_, _, rfl, rfl, r3.2.iq hI⟩
        | exact ⟨_, _, rfl, rfl, r4.2.iq hI⟩
        | exact ⟨_, _, rfl, rfl, r5.2.iq hI⟩
        | exact ⟨_, _, rfl, rfl, r6.2.iq hI⟩
        | exact ⟨_, _, rfl, rfl, r7.2.iq hI⟩
        | exact ⟨_, _, rfl, rfl, r8.2.iq hI⟩
        | exact ⟨_, _, rfl, rfl, r9.2.iq hI⟩
        | exact ⟨_, _, rfl, rfl, r10.2.iq hI⟩
        | exact ⟨_, _, rfl, rfl, r11.2.iq hI⟩
        | exact ⟨_, _, rfl, rfl, r12.2.iq hI⟩
        | exact ⟨_, _, rfl, rfl, r13.2.iq hI⟩
        | exact ⟨_, _, rfl, rfl, r14.2.iq hI⟩
        | exact ⟨_, _, rfl, rfl, r15.2.iq hI⟩
        | exact ⟨_, _, rfl, rfl, r16.2.iq hI⟩
        | exact ⟨_, _, rfl, rfl, r17.2.iq hI⟩
        | exact ⟨_, _, rfl, rfl, r18.2.iq hI⟩
        | exact ⟨_, _, rfl, rfl, r19.2.iq hI⟩
    · refine ⟨_, 55, rfl, rfl, ?_⟩
      refine x_aload_n hm rfl rfl ?_
      refine x_getf hm rfl (gR rfl rfl) ?_
      refine x_iconst hm rfl (v := nI 1) (by decide) ?_
      refine x_iald hm rfl (lI rfl (by omega) (by decide)) ?_
      refine x_iret hm rfl rfl (by first | rfl | exact bI_nar | decide) ?_
      first
        | exact ⟨_, _, rfl, rfl, Iq.rf hI⟩
        | exact ⟨_, _, rfl, rfl, r1.2.iq hI⟩
        | exact ⟨_, _, rfl, rfl, r2.2.iq hI⟩
        | exact ⟨_, _, rfl, rfl, r3.2.iq hI⟩
        | exact ⟨_, _, rfl, rfl, r4.2.iq hI⟩
        | exact ⟨_, _, rfl, rfl, r5.2.iq hI⟩
        | exact ⟨_, _, rfl, rfl, r6.2.iq hI⟩
        | exact ⟨_, _, rfl, rfl, r7.2.iq hI⟩
        | exact ⟨_, _, rfl, rfl, r8.2.iq hI⟩
        | exact ⟨_, _, rfl, rfl, r9.2.iq hI⟩
        | exact ⟨_, _, rfl, rfl, r10.2.iq hI⟩
        | exact ⟨_, _, rfl, rfl, r11.2.iq hI⟩
        | exact ⟨_, _, rfl, rfl, r12.2.iq hI⟩
        | exact ⟨_, _, rfl, rfl, r13.2.iq hI⟩
        | exact ⟨_, _, rfl, rfl, r14.2.iq hI⟩
        | exact ⟨_, _, rfl, rfl, r15.2.iq hI⟩
        | exact ⟨_, _, rfl, rfl, r16.2.iq hI⟩
        | exact ⟨_, _, rfl, rfl, r17.2.iq hI⟩
        | exact ⟨_, _, rfl, rfl, r18.2.iq hI⟩
        | exact ⟨_, _, rfl, rfl, r19.2.iq hI⟩
    · refine ⟨_, 62, rfl, rfl, ?_⟩
      refine x_aload_n hm rfl rfl ?_
      refine x_getf hm rfl (gR rfl rfl) ?_
      refine x_iconst hm rfl (v := nI 2) (by decide) ?_
      refine x_iald hm rfl (lI rfl (by omega) (by decide)) ?_
      refine x_iret hm rfl rfl (by first | rfl | exact bI_nar | decide) ?_
      first
        | exact ⟨_, _, rfl, rfl, Iq.rf hI⟩
        | exact ⟨_, _, rfl, rfl, r1.2.iq hI⟩
        | exact ⟨_, _, rfl, rfl, r2.2.iq hI⟩
        | exact ⟨_, _, rfl, rfl, r3.2.iq hI⟩
        | exact ⟨_, _, rfl, rfl, r4.2.iq hI⟩
        | exact ⟨_, _, rfl, rfl, r5.2.iq hI⟩
        | exact ⟨_, _, rfl, rfl, r6.2.iq hI⟩
        | exact ⟨_, _, rfl, rfl, r7.2.iq hI⟩
        | exact ⟨_, _, rfl, rfl, r8.2.iq hI⟩
        | exact ⟨_, _, rfl, rfl, r9.2.iq hI⟩
        | exact ⟨_, _, rfl, rfl, r10.2.iq hI⟩
        | exact ⟨_, _, rfl, rfl, r11.2.iq hI⟩
        | exact ⟨_, _, rfl, rfl, r12.2.iq hI⟩
        | exact ⟨_, _, rfl, rfl, r13.2.iq hI⟩
        | exact ⟨_, _, rfl, rfl, r14.2.iq hI⟩
        | exact ⟨_, _, rfl, rfl, r15.2.iq hI⟩
        | exact ⟨_, _, rfl, rfl, r16.2.iq hI⟩
        | exact ⟨_, _, rfl, rfl, r17.2.iq hI⟩
        | exact ⟨_, _, rfl, rfl, r18.2.iq hI⟩
        | exact ⟨_, _, rfl, rfl, r19.2.iq hI⟩
    · refine ⟨_, 69, rfl, rfl, ?_⟩
      refine x_aload_n hm rfl rfl ?_
      refine x_cVe hm rfl rfl (t167 hI.1) (fun v3 r3 => ?_)
      refine x_cSe hm rfl rfl (t168) (fun v4 r4 => ?_)
      refine x_iret hm rfl rfl (by first | rfl | exact bI_nar | decide) ?_
      first
        | exact ⟨_, _, rfl, rfl, r4.2.iq hI⟩
        | exact ⟨_, _, rfl, rfl, Iq.rf hI⟩
        | exact ⟨_, _, rfl, rfl, r3.2.iq hI⟩
        | exact ⟨_, _, rfl, rfl, r1.2.iq hI⟩
        | exact ⟨_, _, rfl, rfl, r2.2.iq hI⟩
        | exact ⟨_, _, rfl, rfl, r5.2.iq hI⟩
        | exact ⟨_, _, rfl, rfl, r6.2.iq hI⟩
        | exact ⟨_, _, rfl, rfl, r7.2.iq hI⟩
        | exact ⟨_, _, rfl, rfl, r8.2.iq hI⟩
        | exact ⟨_, _, rfl, rfl, r9.2.iq hI⟩
        | exact ⟨_, _, rfl, rfl, r10.2.iq hI⟩
        | exact ⟨_, _, rfl, rfl, r11.2.iq hI⟩
        | exact ⟨_, _, rfl, rfl, r12.2.iq hI⟩
        | exact ⟨_, _, rfl, rfl, r13.2.iq hI⟩
        | exact ⟨_, _, rfl, rfl, r14.2.iq hI⟩
        | exact ⟨_, _, rfl, rfl, r15.2.iq hI⟩
        | exact ⟨_, _, rfl, rfl, r16.2.iq hI⟩
        | exact ⟨_, _, rfl, rfl, r17.2.iq hI⟩
        | exact ⟨_, _, rfl, rfl, r18.2.iq hI⟩
        | exact ⟨_, _, rfl, rfl, r19.2.iq hI⟩
    · refine ⟨_, 77, rfl, rfl, ?_⟩
      refine x_aload_n hm rfl rfl ?_
      refine x_cVe hm rfl rfl (t170 hI.1) (fun v5 r5 => ?_)
      refine x_iret hm rfl rfl (by first | rfl | exact bI_nar | decide) ?_
      first
        | exact ⟨_, _, rfl, rfl, r5.2.iq hI⟩
        | exact ⟨_, _, rfl, rfl, Iq.rf hI⟩
        | exact ⟨_, _, rfl, rfl, r1.2.iq hI⟩
        | exact ⟨_, _, rfl, rfl, r2.2.iq hI⟩
        | exact ⟨_, _, rfl, rfl, r3.2.iq hI⟩
        | exact ⟨_, _, rfl, rfl, r4.2.iq hI⟩
        | exact ⟨_, _, rfl, rfl, r6.2.iq hI⟩
        | exact ⟨_, _, rfl, rfl, r7.2.iq hI⟩
        | exact ⟨_, _, rfl, rfl, r8.2.iq hI⟩
        | exact ⟨_, _, rfl, rfl, r9.2.iq hI⟩
        | exact ⟨_, _, rfl, rfl, r10.2.iq hI⟩
        | exact ⟨_, _, rfl, rfl, r11.2.iq hI⟩
        | exact ⟨_, _, rfl, rfl, r12.2.iq hI⟩
        | exact ⟨_, _, rfl, rfl, r13.2.iq hI⟩
        | exact ⟨_, _, rfl, rfl, r14.2.iq hI⟩
        | exact ⟨_, _, rfl, rfl, r15.2.iq hI⟩
        | exact ⟨_, _, rfl, rfl, r16.2.iq hI⟩
        | exact ⟨_, _, rfl, rfl, r17.2.iq hI⟩
        | exact ⟨_, _, rfl, rfl, r18.2.iq hI⟩
        | exact ⟨_, _, rfl, rfl, r19.2.iq hI⟩
    · refine ⟨_, 82, rfl, rfl, ?_⟩
      refine x_aload_n hm rfl rfl ?_
      refine x_getf hm rfl (gI rfl rfl) ?_
      refine x_iret hm rfl rfl (by first | rfl | exact bI_nar | decide) ?_
      first
        | exact ⟨_, _, rfl, rfl, Iq.rf hI⟩
        | exact ⟨_, _, rfl, rfl, r1.2.iq hI⟩
        | exact ⟨_, _, rfl, rfl, r2.2.iq hI⟩
        | exact ⟨_, _, rfl, rfl, r3.2.iq hI⟩
        | exact ⟨_, _, rfl, rfl, r4.2.iq hI⟩
        | exact ⟨_, _, rfl, rfl, r5.2.iq hI⟩
        | exact ⟨_, _, rfl, rfl, r6.2.iq hI⟩
        | exact ⟨_, _, rfl, rfl, r7.2.iq hI⟩
        | exact ⟨_, _, rfl, rfl, r8.2.iq hI⟩
        | exact ⟨_, _, rfl, rfl, r9.2.iq hI⟩
        | exact ⟨_, _, rfl, rfl, r10.2.iq hI⟩
        | exact ⟨_, _, rfl, rfl, r11.2.iq hI⟩
        | exact ⟨_, _, rfl, rfl, r12.2.iq hI⟩
        | exact ⟨_, _, rfl, rfl, r13.2.iq hI⟩
        | exact ⟨_, _, rfl, rfl, r14.2.iq hI⟩
        | exact ⟨_, _, rfl, rfl, r15.2.iq hI⟩
        | exact ⟨_, _, rfl, rfl, r16.2.iq hI⟩
        | exact ⟨_, _, rfl, rfl, r17.2.iq hI⟩
        | exact ⟨_, _, rfl, rfl, r18.2.iq hI⟩
        | exact ⟨_, _, rfl, rfl, r19.2.iq hI⟩
    · refine ⟨_, 87, rfl, rfl, ?_⟩
      refine x_aload_n hm rfl rfl ?_
      refine x_getf hm rfl (gR rfl rfl) ?_
      refine x_iconst hm rfl (v := nI 3) (by decide) ?_
      refine x_iald hm rfl (lI rfl (by omega) (by decide)) ?_
      refine x_iret hm rfl rfl (by first | rfl | exact bI_nar | decide) ?_
      first
        | exact ⟨_, _, rfl, rfl, Iq.rf hI⟩
        | exact ⟨_, _, rfl, rfl, r1.2.iq hI⟩
        | exact ⟨_, _, rfl, rfl, r2.2.iq hI⟩
        | exact ⟨_, _, rfl, rfl, r3.2.iq hI⟩
        | exact ⟨_, _, rfl, rfl, r4.2.iq hI⟩
        | exact ⟨_, _, rfl, rfl, r5.2.iq hI⟩
        | exact ⟨_, _, rfl, rfl, r6.2.iq hI⟩
        | exact ⟨_, _, rfl, rfl, r7.2.iq hI⟩
        | exact ⟨_, _, rfl, rfl, r8.2.iq hI⟩
        | exact ⟨_, _, rfl, rfl, r9.2.iq hI⟩
        | exact ⟨_, _, rfl, rfl, r10.2.iq hI⟩
        | exact ⟨_, _, rfl, rfl, r11.2.iq hI⟩
        | exact ⟨_, _, rfl, rfl, r12.2.iq hI⟩
        | exact ⟨_, _, rfl, rfl, r13.2.iq hI⟩
        | exact ⟨_, _, rfl, rfl, r14.2.iq hI⟩
        | exact ⟨_, _, rfl, rfl, r15.2.iq hI⟩
        | exact ⟨_, _, rfl, rfl, r16.2.iq hI⟩
        | exact ⟨_, _, rfl, rfl, r17.2.iq hI⟩
        | exact ⟨_, _, rfl, rfl, r18.2.iq hI⟩
        | exact ⟨_, _, rfl, rfl, r19.2.iq hI⟩
    · refine ⟨_, 94, rfl, rfl, ?_⟩
      refine x_iconst hm rfl (v := nI 0) (by decide) ?_
      refine x_istore_n hm rfl rfl ?_
      exact l243 hI _ 0 _ (Nat.lt_succ_self _) (Nat.zero_le _)
theorem st_k {v : Int32} (h : (-1 : Int32) ≤ v ∧ v ≤ nI 6) : ∃ k, k ≤ 7 ∧ v + nI 1 = nI k := by
  have h1 := Int32.le_iff_toInt_le.mp h.1
  have h2 := Int32.le_iff_toInt_le.mp h.2
  rw [jI_int (by decide)] at h2
  have e : (-1 : Int32).toInt = -1 := by decide +kernel
  rw [e] at h1
  have e1 : nI 1 = 1 := rfl
  refine jI_of2 (n := 7) ?_
  rw [Int32.toInt_add, jI_int (by decide), Int.bmod_def]
  omega
theorem t244 {a1 : Int32} (hI : Inv M) : ∃ v M', mT X 244 [.ref 66, .int a1] (con M) (some (.int v)) (con M') ∧ Iq M M' := by
  refine ti_of (row := _) rfl (Nat.le_of_ble_eq_true rfl) ?_
  have hm : mMet 244 = some _ := rfl
  refine x_iload_n hm rfl rfl ?_
  refine x_iconst hm rfl (v := (-1 : Int32)) (by decide) ?_
  refine x_bipush hm rfl (v := nI 6) (by decide) ?_
  refine x_callS hm rfl rfl (t133) ?_
  refine x_if_eq hm rfl (t := 21) rfl (fun h1 => ?_) (fun h1 => ?_)
  · refine x_aload_n hm rfl rfl ?_
    refine x_ldcI hm rfl (v := (-1000001 : Int32)) (by decide +kernel) ?_
    refine x_cVi hm rfl rfl (t135 (by decide +kernel)) (fun v2 M2 r2 => ?_)
    refine x_iret hm rfl rfl (by first | rfl | exact bI_nar | decide) ?_
    first
      | exact ⟨_, _, rfl, rfl, r2.2.iq hI⟩
      | exact ⟨_, _, rfl, rfl, Iq.rf hI⟩
      | exact ⟨_, _, rfl, rfl, r1.2.iq hI⟩
      | exact ⟨_, _, rfl, rfl, r3.2.iq hI⟩
      | exact ⟨_, _, rfl, rfl, r4.2.iq hI⟩
      | exact ⟨_, _, rfl, rfl, r5.2.iq hI⟩
      | exact ⟨_, _, rfl, rfl, r6.2.iq hI⟩
      | exact ⟨_, _, rfl, rfl, r7.2.iq hI⟩
      | exact ⟨_, _, rfl, rfl, r8.2.iq hI⟩
      | exact ⟨_, _, rfl, rfl, r9.2.iq hI⟩
      | exact ⟨_, _, rfl, rfl, r10.2.iq hI⟩
      | exact ⟨_, _, rfl, rfl, r11.2.iq hI⟩
      | exact ⟨_, _, rfl, rfl, r12.2.iq hI⟩
      | exact ⟨_, _, rfl, rfl, r13.2.iq hI⟩
      | exact ⟨_, _, rfl, rfl, r14.2.iq hI⟩
      | exact ⟨_, _, rfl, rfl, r15.2.iq hI⟩
      | exact ⟨_, _, rfl, rfl, r16.2.iq hI⟩
      | exact ⟨_, _, rfl, rfl, r17.2.iq hI⟩
      | exact ⟨_, _, rfl, rfl, r18.2.iq hI⟩
      | exact ⟨_, _, rfl, rfl, r19.2.iq hI⟩
  · obtain ⟨k, hk, hk2⟩ := st_k (bI_ne0 h1)
    refine x_aload_n hm rfl rfl ?_
    refine x_getf hm rfl (gR rfl rfl) ?_
    refine x_iload_n hm rfl rfl ?_
    refine x_iconst hm rfl (v := nI 1) (by decide) ?_
    refine x_iadd hm rfl ?_
    rw [hk2]
    refine x_iald hm rfl (lI rfl (by omega) (by decide)) ?_
    refine x_goto hm rfl (t := 27) rfl ?_
    refine x_iret hm rfl rfl (by first | rfl | exact bI_nar | decide) ?_
    first
      | exact ⟨_, _, rfl, rfl, Iq.rf hI⟩
      | exact ⟨_, _, rfl, rfl, r1.2.iq hI⟩
      | exact ⟨_, _, rfl, rfl, r2.2.iq hI⟩
      | exact ⟨_, _, rfl, rfl, r3.2.iq hI⟩
      | exact ⟨_, _, rfl, rfl, r4.2.iq hI⟩
      | exact ⟨_, _, rfl, rfl, r5.2.iq hI⟩
      | exact ⟨_, _, rfl, rfl, r6.2.iq hI⟩
      | exact ⟨_, _, rfl, rfl, r7.2.iq hI⟩
      | exact ⟨_, _, rfl, rfl, r8.2.iq hI⟩
      | exact ⟨_, _, rfl, rfl, r9.2.iq hI⟩
      | exact ⟨_, _, rfl, rfl, r10.2.iq hI⟩
      | exact ⟨_, _, rfl, rfl, r11.2.iq hI⟩
      | exact ⟨_, _, rfl, rfl, r12.2.iq hI⟩
      | exact ⟨_, _, rfl, rfl, r13.2.iq hI⟩
      | exact ⟨_, _, rfl, rfl, r14.2.iq hI⟩
      | exact ⟨_, _, rfl, rfl, r15.2.iq hI⟩
      | exact ⟨_, _, rfl, rfl, r16.2.iq hI⟩
      | exact ⟨_, _, rfl, rfl, r17.2.iq hI⟩
      | exact ⟨_, _, rfl, rfl, r18.2.iq hI⟩
      | exact ⟨_, _, rfl, rfl, r19.2.iq hI⟩
end RK
