section CD
variable {X : mSc} {Q : Option Value → mHp → Prop} {M : mM} {b : Nat}
theorem t9 {a1 a2 : Int32} (hW : Wf M) : ∃ v M', mT X 9 [.ref 0, .int a1, .int a2] (con M) (some (.int v)) (con M') ∧ Cq M M' := by
  refine ti_of (row := _) rfl (Nat.le_of_ble_eq_true rfl) ?_
  have hm : mMet 9 = some _ := rfl
  obtain ⟨nt, hn8, hnt⟩ := hW.ct (b := 1) (by decide)
  refine x_aload_n hm rfl rfl ?_
  refine x_getf hm rfl (gR rfl rfl) ?_
  refine x_iload_n hm rfl rfl ?_
  refine x_callV hm rfl rfl (t10 (by decide)) ?_
  refine x_if_eq hm rfl (t := 21) rfl (fun h1 => ?_) (fun h1 => ?_)
  · refine x_aload_n hm rfl rfl ?_
    refine x_ldcI hm rfl (v := (-1000001 : Int32)) (by decide +kernel) ?_
    refine x_cVi hm rfl rfl (t7 (by decide +kernel)) (fun v2 M2 r2 => ?_)
    refine x_iret hm rfl rfl (by first | rfl | exact bI_nar | decide) ?_
    first
      | exact ⟨_, _, rfl, rfl, r2.2.cq hW⟩
      | exact ⟨_, _, rfl, rfl, Cq.rf hW⟩
      | exact ⟨_, _, rfl, rfl, r1.2.cq hW⟩
      | exact ⟨_, _, rfl, rfl, r3.2.cq hW⟩
      | exact ⟨_, _, rfl, rfl, r4.2.cq hW⟩
      | exact ⟨_, _, rfl, rfl, r5.2.cq hW⟩
      | exact ⟨_, _, rfl, rfl, r6.2.cq hW⟩
      | exact ⟨_, _, rfl, rfl, r7.2.cq hW⟩
      | exact ⟨_, _, rfl, rfl, r8.2.cq hW⟩
      | exact ⟨_, _, rfl, rfl, r9.2.cq hW⟩
      | exact ⟨_, _, rfl, rfl, r10.2.cq hW⟩
      | exact ⟨_, _, rfl, rfl, r11.2.cq hW⟩
      | exact ⟨_, _, rfl, rfl, r12.2.cq hW⟩
      | exact ⟨_, _, rfl, rfl, r13.2.cq hW⟩
      | exact ⟨_, _, rfl, rfl, r14.2.cq hW⟩
      | exact ⟨_, _, rfl, rfl, r15.2.cq hW⟩
      | exact ⟨_, _, rfl, rfl, r16.2.cq hW⟩
      | exact ⟨_, _, rfl, rfl, r17.2.cq hW⟩
      | exact ⟨_, _, rfl, rfl, r18.2.cq hW⟩
      | exact ⟨_, _, rfl, rfl, r19.2.cq hW⟩
  · obtain ⟨t, ht, rfl⟩ := in_k hnt (by omega) (bI_ne0 h1)
    refine x_iload_n hm rfl rfl ?_
    refine x_iconst hm rfl (v := nI 0) (by decide) ?_
    refine x_bipush hm rfl (v := nI 6) (by decide) ?_
    refine x_callS hm rfl rfl (t6) ?_
    refine x_if_ne hm rfl (t := 28) rfl (fun h3 => ?_) (fun h3 => ?_)
    · obtain ⟨w, hw, rfl⟩ := le_k (by omega) (bI_ne0 h3)
      refine x_iload_n hm rfl rfl ?_
      refine x_bipush hm rfl (v := nI 6) (by decide) ?_
      refine x_icmp_ne hm rfl (t := 45) rfl (fun h4 => ?_) (fun h4 => ?_)
      · have hw6 : w ≠ 6 := fun e => h4 (by rw [e])
        refine x_aload_n hm rfl rfl ?_
        refine x_getf hm rfl (gR rfl rfl) ?_
        refine x_getf hm rfl (gR rfl rfl) ?_
        refine x_iload_n hm rfl rfl ?_
        refine x_aald hm rfl (lQ 3 (Or.inr (Or.inl rfl)) (tI (b := 1) (by decide)) (tIk (by omega)) (by omega) (by decide)) ?_
        refine x_iload_n hm rfl rfl ?_
        refine x_iald hm rfl (lI (tRowI (b := 1) (by decide) (by omega)) (by omega) (by decide)) ?_
        refine x_iret hm rfl rfl (by first | rfl | exact bI_nar | decide) ?_
        first
          | exact ⟨_, _, rfl, rfl, Cq.rf hW⟩
          | exact ⟨_, _, rfl, rfl, r1.2.cq hW⟩
          | exact ⟨_, _, rfl, rfl, r2.2.cq hW⟩
          | exact ⟨_, _, rfl, rfl, r3.2.cq hW⟩
          | exact ⟨_, _, rfl, rfl, r4.2.cq hW⟩
          | exact ⟨_, _, rfl, rfl, r5.2.cq hW⟩
          | exact ⟨_, _, rfl, rfl, r6.2.cq hW⟩
          | exact ⟨_, _, rfl, rfl, r7.2.cq hW⟩
          | exact ⟨_, _, rfl, rfl, r8.2.cq hW⟩
          | exact ⟨_, _, rfl, rfl, r9.2.cq hW⟩
          | exact ⟨_, _, rfl, rfl, r10.2.cq hW⟩
          | exact ⟨_, _, rfl, rfl, r11.2.cq hW⟩
          | exact ⟨_, _, rfl, rfl, r12.2.cq hW⟩
          | exact ⟨_, _, rfl, rfl, r13.2.cq hW⟩
          | exact ⟨_, _, rfl, rfl, r14.2.cq hW⟩
          | exact ⟨_, _, rfl, rfl, r15.2.cq hW⟩
          | exact ⟨_, _, rfl, rfl, r16.2.cq hW⟩
          | exact ⟨_, _, rfl, rfl, r17.2.cq hW⟩
          | exact ⟨_, _, rfl, rfl, r18.2.cq hW⟩
          | exact ⟨_, _, rfl, rfl, r19.2.cq hW⟩
      · refine x_aload_n hm rfl rfl ?_
        refine x_getf hm rfl (gR rfl rfl) ?_
        refine x_iload_n hm rfl rfl ?_
        refine x_cVe hm rfl rfl (t11 (by decide) (by omega) hW) (fun v5 r5 => ?_)
        refine x_goto hm rfl (t := 56) rfl ?_
        refine x_iret hm rfl rfl (by first | rfl | exact bI_nar | decide) ?_
        first
          | exact ⟨_, _, rfl, rfl, r5.2.cq hW⟩
          | exact ⟨_, _, rfl, rfl, Cq.rf hW⟩
          | exact ⟨_, _, rfl, rfl, r1.2.cq hW⟩
          | exact ⟨_, _, rfl, rfl, r2.2.cq hW⟩
          | exact ⟨_, _, rfl, rfl, r3.2.cq hW⟩
          | exact ⟨_, _, rfl, rfl, r4.2.cq hW⟩
          | exact ⟨_, _, rfl, rfl, r6.2.cq hW⟩
          | exact ⟨_, _, rfl, rfl, r7.2.cq hW⟩
          | exact ⟨_, _, rfl, rfl, r8.2.cq hW⟩
          | exact ⟨_, _, rfl, rfl, r9.2.cq hW⟩
          | exact ⟨_, _, rfl, rfl, r10.2.cq hW⟩
          | exact ⟨_, _, rfl, rfl, r11.2.cq hW⟩
          | exact ⟨_, _, rfl, rfl, r12.2.cq hW⟩
          | exact ⟨_, _, rfl, rfl, r13.2.cq hW⟩
          | exact ⟨_, _, rfl, rfl, r14.2.cq hW⟩
          | exact ⟨_, _, rfl, rfl, r15.2.cq hW⟩
          | exact ⟨_, _, rfl, rfl, r16.2.cq hW⟩
          | exact ⟨_, _, rfl, rfl, r17.2.cq hW⟩
          | exact ⟨_, _, rfl, rfl, r18.2.cq hW⟩
          | exact ⟨_, _, rfl, rfl, r19.2.cq hW⟩
    · refine x_aload_n hm rfl rfl ?_
      refine x_ldcI hm rfl (v := (-1000001 : Int32)) (by decide +kernel) ?_
      refine x_cVi hm rfl rfl (t7 (by decide +kernel)) (fun v6 M6 r6 => ?_)
      refine x_iret hm rfl rfl (by first | rfl | exact bI_nar | decide) ?_
      first
        | exact ⟨_, _, rfl, rfl, r6.2.cq hW⟩
        | exact ⟨_, _, rfl, rfl, Cq.rf hW⟩
        | exact ⟨_, _, rfl, rfl, r1.2.cq hW⟩
        | exact ⟨_, _, rfl, rfl, r2.2.cq hW⟩
        | exact ⟨_, _, rfl, rfl, r3.2.cq hW⟩
        | exact ⟨_, _, rfl, rfl, r4.2.cq hW⟩
        | exact ⟨_, _, rfl, rfl, r5.2.cq hW⟩
        | exact ⟨_, _, rfl, rfl, r7.2.cq hW⟩
        | exact ⟨_, _, rfl, rfl, r8.2.cq hW⟩
        | exact ⟨_, _, rfl, rfl, r9.2.cq hW⟩
        | exact ⟨_, _, rfl, rfl, r10.2.cq hW⟩
        | exact ⟨_, _, rfl, rfl, r11.2.cq hW⟩
        | exact ⟨_, _, rfl, rfl, r12.2.cq hW⟩
        | exact ⟨_, _, rfl, rfl, r13.2.cq hW⟩
        | exact ⟨_, _, rfl, rfl, r14.2.cq hW⟩
        | exact ⟨_, _, rfl, rfl, r15.2.cq hW⟩
        | exact ⟨_, _, rfl, rfl, r16.2.cq hW⟩
        | exact ⟨_, _, rfl, rfl, r17.2.cq hW⟩
        | exact ⟨_, _, rfl, rfl, r18.2.cq hW⟩
        | exact ⟨_, _, rfl, rfl, r19.2.cq hW⟩
end CD
