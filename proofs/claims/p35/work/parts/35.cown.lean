section
/-! ===== the class: its own methods ===== -/
section CD
variable {X : mSc} {Q : Option Value → mHp → Prop} {M : mM} {b : Nat}
theorem Bq.ck {M' : mM} (h : Bq b M M') (hW : Wf M) : Ck M M' := ⟨h.1 hW, fun a ha => h.2.1 a (Or.inl ha)⟩
theorem Bq.cq {M' : mM} (h : Bq 35 M M') (hW : Wf M) : Cq M M' := ⟨h.1 hW, fun a ha => h.2.1 a (by omega)⟩
theorem Bq.cell {a c : Nat} {v : Int32} (hk : okx (kd a c) v) (ha : a < 66) (hx : b = 35 → a = 55 ∨ a = 56 ∨ a = 57) (h1 : a ≠ 1) (h2 : a ≠ 18) (h3 : a ≠ 35) : Bq b M (mput M a c v) := by
  refine ⟨fun h => h.put hk, fun i hi => mpo (by omega), fun d hd _ => ?_⟩
  rw [mpo (by omega)]
  exact ⟨rfl, rfl⟩
theorem kd55 (x : Nat) : kd 55 x = 0 := by simp [kd]
theorem kd56 (x : Nat) : kd 56 x = 0 := by simp [kd]
theorem kd57 (x : Nat) : kd 57 x = 0 := by simp [kd]
theorem FD_k0 {v : Int32} (h : FD v) : ∃ k, k ≤ 6 ∧ (-1000001 : Int32) - v = nI k := by
  rcases h with rfl | rfl | rfl | rfl | rfl | rfl | rfl
  · exact ⟨0, by omega, by decide +kernel⟩
  · exact ⟨1, by omega, by decide +kernel⟩
  · exact ⟨2, by omega, by decide +kernel⟩
  · exact ⟨3, by omega, by decide +kernel⟩
  · exact ⟨4, by omega, by decide +kernel⟩
  · exact ⟨5, by omega, by decide +kernel⟩
  · exact ⟨6, by omega, by decide +kernel⟩
theorem t7 {v : Int32} (hv : FD v) : ∃ v' M', mT X 7 [.ref 0, .int v] (con M) (some (.int v')) (con M') ∧ v' = v ∧ Bq 35 M M' := by
  refine ti_of (row := _) rfl (Nat.le_of_ble_eq_true rfl) ?_
  have hm : mMet 7 = some _ := rfl
  obtain ⟨k, hk, he⟩ := FD_k0 hv
  refine x_ldcI hm rfl (v := (-1000001 : Int32)) (by decide +kernel) ?_
  refine x_iload_n hm rfl rfl ?_
  refine x_isub hm rfl ?_
  rw [he]
  refine x_istore_n hm rfl rfl ?_
  refine x_iload_n hm rfl rfl ?_
  refine x_iconst hm rfl (v := nI 0) (by decide) ?_
  refine x_bipush hm rfl (v := nI 6) (by decide) ?_
  refine x_callS hm rfl rfl (t6) ?_
  refine x_if_eq hm rfl (t := 25) rfl (fun h1 => ?_) (fun h1 => ?_)
  · have hz : Bq 35 M M := Bq.rf
    refine x_iload_n hm rfl rfl ?_
    refine x_iret hm rfl rfl (by first | rfl | exact bI_nar | decide) ?_
    exact ⟨_, _, rfl, rfl, rfl, hz⟩
  · refine x_aload_n hm rfl rfl ?_
    refine x_getf hm rfl (gR rfl rfl) ?_
    refine x_iload_n hm rfl rfl ?_
    refine x_dup2 hm rfl rfl rfl ?_
    refine x_iald hm rfl (lI rfl (by omega) (by decide)) ?_
    refine x_iconst hm rfl (v := nI 1) (by decide) ?_
    refine x_iadd hm rfl ?_
    refine x_iast hm rfl (sI rfl (by omega) (by decide)) ?_
    have hz : Bq 35 M (mput M 55 k (M 55 k + nI 1)) := Bq.cell (by rw [kd55]; trivial) (by decide) (fun _ => Or.inl rfl) (by decide) (by decide) (by decide)
    refine x_iload_n hm rfl rfl ?_
    refine x_iret hm rfl rfl (by first | rfl | exact bI_nar | decide) ?_
    exact ⟨_, _, rfl, rfl, rfl, hz⟩

theorem t5 {a1 a2 : Int32} (hW : Wf M) : ∃ v M', mT X 5 [.ref 0, .int a1, .int a2] (con M) (some (.int v)) (con M') ∧ Ck M M' := by
  refine ti_of (row := _) rfl (Nat.le_of_ble_eq_true rfl) ?_
  have hm : mMet 5 = some _ := rfl
  obtain ⟨nt, hn8, hnt⟩ := hW.ct (b := 1) (by decide)
  refine x_iload_n hm rfl rfl ?_
  refine x_iconst hm rfl (v := nI 0) (by decide) ?_
  refine x_iconst hm rfl (v := nI 3) (by decide) ?_
  refine x_callS hm rfl rfl (t6) ?_
  refine x_if_eq hm rfl (t := 19) rfl (fun h1 => ?_) (fun h1 => ?_)
  · refine x_aload_n hm rfl rfl ?_
    refine x_ldcI hm rfl (v := (-1000001 : Int32)) (by decide +kernel) ?_
    refine x_cVi hm rfl rfl (t7 (by decide +kernel)) (fun v2 M2 r2 => ?_)
    refine x_iret hm rfl rfl (by first | rfl | exact bI_nar | decide) ?_
    first
      | exact ⟨_, _, rfl, rfl, r2.2.ck hW⟩
      | exact ⟨_, _, rfl, rfl, r2.2.1.ck hW⟩
      | exact ⟨_, _, rfl, rfl, Ck.rf hW⟩
      | exact ⟨_, _, rfl, rfl, r1.2.ck hW⟩
      | exact ⟨_, _, rfl, rfl, r3.2.ck hW⟩
      | exact ⟨_, _, rfl, rfl, r4.2.ck hW⟩
      | exact ⟨_, _, rfl, rfl, r5.2.ck hW⟩
      | exact ⟨_, _, rfl, rfl, r6.2.ck hW⟩
      | exact ⟨_, _, rfl, rfl, r7.2.ck hW⟩
      | exact ⟨_, _, rfl, rfl, r8.2.ck hW⟩
      | exact ⟨_, _, rfl, rfl, r9.2.ck hW⟩
      | exact ⟨_, _, rfl, rfl, r10.2.ck hW⟩
      | exact ⟨_, _, rfl, rfl, r11.2.ck hW⟩
      | exact ⟨_, _, rfl, rfl, r12.2.ck hW⟩
      | exact ⟨_, _, rfl, rfl, r13.2.ck hW⟩
      | exact ⟨_, _, rfl, rfl, r14.2.ck hW⟩
      | exact ⟨_, _, rfl, rfl, r15.2.ck hW⟩
      | exact ⟨_, _, rfl, rfl, r16.2.ck hW⟩
      | exact ⟨_, _, rfl, rfl, r17.2.ck hW⟩
      | exact ⟨_, _, rfl, rfl, r18.2.ck hW⟩
      | exact ⟨_, _, rfl, rfl, r19.2.ck hW⟩
      | exact ⟨_, _, rfl, rfl, r1.2.1.ck hW⟩
      | exact ⟨_, _, rfl, rfl, r3.2.1.ck hW⟩
      | exact ⟨_, _, rfl, rfl, r4.2.1.ck hW⟩
      | exact ⟨_, _, rfl, rfl, r5.2.1.ck hW⟩
      | exact ⟨_, _, rfl, rfl, r6.2.1.ck hW⟩
      | exact ⟨_, _, rfl, rfl, r7.2.1.ck hW⟩
      | exact ⟨_, _, rfl, rfl, r8.2.1.ck hW⟩
      | exact ⟨_, _, rfl, rfl, r9.2.1.ck hW⟩
      | exact ⟨_, _, rfl, rfl, r10.2.1.ck hW⟩
      | exact ⟨_, _, rfl, rfl, r11.2.1.ck hW⟩
  · have hs := okx_le3 (bI_ne0 h1)
    refine x_iload_n hm rfl rfl ?_
    refine x_iconst hm rfl (v := nI 0) (by decide) ?_
    refine x_bipush hm rfl (v := nI 15) (by decide) ?_
    refine x_callS hm rfl rfl (t6) ?_
    refine x_if_ne hm rfl (t := 26) rfl (fun h3 => ?_) (fun h3 => ?_)
    · refine x_aload_n hm rfl rfl ?_
      refine x_getf hm rfl (gR rfl rfl) ?_
      refine x_getf hm rfl (gI rfl rfl) ?_
      rw [hnt]
      refine x_bipush hm rfl (v := nI 8) (by decide) ?_
      refine x_icmp_lt hm rfl (t := 45) rfl (fun h4 => ?_) (fun h4 => ?_)
      · have hlt : nt < 8 := Nat.lt_of_not_le fun h => absurd h4 (Int32.not_lt.mpr (nI_le h (by omega)))
        refine x_aload_n hm rfl rfl ?_
        refine x_getf hm rfl (gR rfl rfl) ?_
        refine x_iload_n hm rfl rfl ?_
        refine x_iload_n hm rfl rfl ?_
        refine x_cVi hm rfl rfl (t8 (by decide) hnt hlt hs) (fun v5 M5 r5 => ?_)
        refine x_iret hm rfl rfl (by first | rfl | exact bI_nar | decide) ?_
        first
          | exact ⟨_, _, rfl, rfl, r5.2.ck hW⟩
          | exact ⟨_, _, rfl, rfl, r5.2.1.ck hW⟩
          | exact ⟨_, _, rfl, rfl, Ck.rf hW⟩
          | exact ⟨_, _, rfl, rfl, r1.2.ck hW⟩
          | exact ⟨_, _, rfl, rfl, r2.2.ck hW⟩
          | exact ⟨_, _, rfl, rfl, r3.2.ck hW⟩
          | exact ⟨_, _, rfl, rfl, r4.2.ck hW⟩
          | exact ⟨_, _, rfl, rfl, r6.2.ck hW⟩
          | exact ⟨_, _, rfl, rfl, r7.2.ck hW⟩
          | exact ⟨_, _, rfl, rfl, r8.2.ck hW⟩
          | exact ⟨_, _, rfl, rfl, r9.2.ck hW⟩
          | exact ⟨_, _, rfl, rfl, r10.2.ck hW⟩
          | exact ⟨_, _, rfl, rfl, r11.2.ck hW⟩
          | exact ⟨_, _, rfl, rfl, r12.2.ck hW⟩
          | exact ⟨_, _, rfl, rfl, r13.2.ck hW⟩
          | exact ⟨_, _, rfl, rfl, r14.2.ck hW⟩
          | exact ⟨_, _, rfl, rfl, r15.2.ck hW⟩
          | exact ⟨_, _, rfl, rfl, r16.2.ck hW⟩
          | exact ⟨_, _, rfl, rfl, r17.2.ck hW⟩
          | exact ⟨_, _, rfl, rfl, r18.2.ck hW⟩
          | exact ⟨_, _, rfl, rfl, r19.2.ck hW⟩
          | exact ⟨_, _, rfl, rfl, r1.2.1.ck hW⟩
          | exact ⟨_, _, rfl, rfl, r2.2.1.ck hW⟩
          | exact ⟨_, _, rfl, rfl, r3.2.1.ck hW⟩
          | exact ⟨_, _, rfl, rfl, r4.2.1.ck hW⟩
          | exact ⟨_, _, rfl, rfl, r6.2.1.ck hW⟩
          | exact ⟨_, _, rfl, rfl, r7.2.1.ck hW⟩
          | exact ⟨_, _, rfl, rfl, r8.2.1.ck hW⟩
          | exact ⟨_, _, rfl, rfl, r9.2.1.ck hW⟩
          | exact ⟨_, _, rfl, rfl, r10.2.1.ck hW⟩
          | exact ⟨_, _, rfl, rfl, r11.2.1.ck hW⟩
      · refine x_aload_n hm rfl rfl ?_
        refine x_ldcI hm rfl (v := (-1000002 : Int32)) (by decide +kernel) ?_
        refine x_cVi hm rfl rfl (t7 (by decide +kernel)) (fun v6 M6 r6 => ?_)
        refine x_iret hm rfl rfl (by first | rfl | exact bI_nar | decide) ?_
        first
          | exact ⟨_, _, rfl, rfl, r6.2.ck hW⟩
          | exact ⟨_, _, rfl, rfl, r6.2.1.ck hW⟩
          | exact ⟨_, _, rfl, rfl, Ck.rf hW⟩
          | exact ⟨_, _, rfl, rfl, r1.2.ck hW⟩
          | exact ⟨_, _, rfl, rfl, r2.2.ck hW⟩
          | exact ⟨_, _, rfl, rfl, r3.2.ck hW⟩
          | exact ⟨_, _, rfl, rfl, r4.2.ck hW⟩
          | exact ⟨_, _, rfl, rfl, r5.2.ck hW⟩
          | exact ⟨_, _, rfl, rfl, r7.2.ck hW⟩
          | exact ⟨_, _, rfl, rfl, r8.2.ck hW⟩
          | exact ⟨_, _, rfl, rfl, r9.2.ck hW⟩
          | exact ⟨_, _, rfl, rfl, r10.2.ck hW⟩
          | exact ⟨_, _, rfl, rfl, r11.2.ck hW⟩
          | exact ⟨_, _, rfl, rfl, r12.2.ck hW⟩
          | exact ⟨_, _, rfl, rfl, r13.2.ck hW⟩
          | exact ⟨_, _, rfl, rfl, r14.2.ck hW⟩
          | exact ⟨_, _, rfl, rfl, r15.2.ck hW⟩
          | exact ⟨_, _, rfl, rfl, r16.2.ck hW⟩
          | exact ⟨_, _, rfl, rfl, r17.2.ck hW⟩
          | exact ⟨_, _, rfl, rfl, r18.2.ck hW⟩
          | exact ⟨_, _, rfl, rfl, r19.2.ck hW⟩
          | exact ⟨_, _, rfl, rfl, r1.2.1.ck hW⟩
          | exact ⟨_, _, rfl, rfl, r2.2.1.ck hW⟩
          | exact ⟨_, _, rfl, rfl, r3.2.1.ck hW⟩
          | exact ⟨_, _, rfl, rfl, r4.2.1.ck hW⟩
          | exact ⟨_, _, rfl, rfl, r5.2.1.ck hW⟩
          | exact ⟨_, _, rfl, rfl, r7.2.1.ck hW⟩
          | exact ⟨_, _, rfl, rfl, r8.2.1.ck hW⟩
          | exact ⟨_, _, rfl, rfl, r9.2.1.ck hW⟩
          | exact ⟨_, _, rfl, rfl, r10.2.1.ck hW⟩
          | exact ⟨_, _, rfl, rfl, r11.2.1.ck hW⟩
    · refine x_aload_n hm rfl rfl ?_
      refine x_ldcI hm rfl (v := (-1000001 : Int32)) (by decide +kernel) ?_
      refine x_cVi hm rfl rfl (t7 (by decide +kernel)) (fun v7 M7 r7 => ?_)
      refine x_iret hm rfl rfl (by first | rfl | exact bI_nar | decide) ?_
      first
        | exact ⟨_, _, rfl, rfl, r7.2.ck hW⟩
        | exact ⟨_, _, rfl, rfl, r7.2.1.ck hW⟩
        | exact ⟨_, _, rfl, rfl, Ck.rf hW⟩
        | exact ⟨_, _, rfl, rfl, r1.2.ck hW⟩
        | exact ⟨_, _, rfl, rfl, r2.2.ck hW⟩
        | exact ⟨_, _, rfl, rfl, r3.2.ck hW⟩
        | exact ⟨_, _, rfl, rfl, r4.2.ck hW⟩
        | exact ⟨_, _, rfl, rfl, r5.2.ck hW⟩
        | exact ⟨_, _, rfl, rfl, r6.2.ck hW⟩
        | exact ⟨_, _, rfl, rfl, r8.2.ck hW⟩
        | exact ⟨_, _, rfl, rfl, r9.2.ck hW⟩
        | exact ⟨_, _, rfl, rfl, r10.2.ck hW⟩
        | exact ⟨_, _, rfl, rfl, r11.2.ck hW⟩
        | exact ⟨_, _, rfl, rfl, r12.2.ck hW⟩
        | exact ⟨_, _, rfl, rfl, r13.2.ck hW⟩
        | exact ⟨_, _, rfl, rfl, r14.2.ck hW⟩
        | exact ⟨_, _, rfl, rfl, r15.2.ck hW⟩
        | exact ⟨_, _, rfl, rfl, r16.2.ck hW⟩
        | exact ⟨_, _, rfl, rfl, r17.2.ck hW⟩
        | exact ⟨_, _, rfl, rfl, r18.2.ck hW⟩
        | exact ⟨_, _, rfl, rfl, r19.2.ck hW⟩
        | exact ⟨_, _, rfl, rfl, r1.2.1.ck hW⟩
        | exact ⟨_, _, rfl, rfl, r2.2.1.ck hW⟩
        | exact ⟨_, _, rfl, rfl, r3.2.1.ck hW⟩
        | exact ⟨_, _, rfl, rfl, r4.2.1.ck hW⟩
        | exact ⟨_, _, rfl, rfl, r5.2.1.ck hW⟩
        | exact ⟨_, _, rfl, rfl, r6.2.1.ck hW⟩
        | exact ⟨_, _, rfl, rfl, r8.2.1.ck hW⟩
        | exact ⟨_, _, rfl, rfl, r9.2.1.ck hW⟩
        | exact ⟨_, _, rfl, rfl, r10.2.1.ck hW⟩
        | exact ⟨_, _, rfl, rfl, r11.2.1.ck hW⟩
theorem t9 {a1 a2 : Int32} (hW : Wf M) : ∃ v M', mT X 9 [.ref 0, .int a1, .int a2] (con M) (some (.int v)) (con M') ∧ Cq M M' := by
  refine ti_of (row := _) rfl (Nat.le_of_ble_eq_true rfl) ?_
  have hm : mMet 9 = some _ := rfl
  obtain ⟨nt, hn8, hnt⟩ := hW.ct (b := 1) (by decide)
  refine x_aload_n hm rfl rfl ?_
  refine x_getf hm rfl (gR rfl rfl) ?_
  refine x_iload_n hm rfl rfl ?_
  refine x_callV hm rfl rfl (t10 (by decide)) ?_
  refine x_if_eq hm rfl (t := 21) rfl (fun h1 => ?_) (fun h1 => ?_)
  · refine x_aload_n hm rfl rfl ?_
    refine x_ldcI hm rfl (v := (-1000001 : Int32)) (by decide +kernel) ?_
    refine x_cVi hm rfl rfl (t7 (by decide +kernel)) (fun v2 M2 r2 => ?_)
    refine x_iret hm rfl rfl (by first | rfl | exact bI_nar | decide) ?_
    first
      | exact ⟨_, _, rfl, rfl, r2.2.cq hW⟩
      | exact ⟨_, _, rfl, rfl, Cq.rf hW⟩
      | exact ⟨_, _, rfl, rfl, r1.2.cq hW⟩
      | exact ⟨_, _, rfl, rfl, r3.2.cq hW⟩
      | exact ⟨_, _, rfl, rfl, r4.2.cq hW⟩
      | exact ⟨_, _, rfl, rfl, r5.2.cq hW⟩
      | exact ⟨_, _, rfl, rfl, r6.2.cq hW⟩
      | exact ⟨_, _, rfl, rfl, r7.2.cq hW⟩
      | exact ⟨_, _, rfl, rfl, r8.2.cq hW⟩
      | exact ⟨_, _, rfl, rfl, r9.2.cq hW⟩
      | exact ⟨_, _, rfl, rfl, r10.2.cq hW⟩
      | exact ⟨_, _, rfl, rfl, r11.2.cq hW⟩
      | exact ⟨_, _, rfl, rfl, r12.2.cq hW⟩
      | exact ⟨_, _, rfl, rfl, r13.2.cq hW⟩
      | exact ⟨_, _, rfl, rfl, r14.2.cq hW⟩
      | exact ⟨_, _, rfl, rfl, r15.2.cq hW⟩
      | exact ⟨_, _, rfl, rfl, r16.2.cq hW⟩
      | exact ⟨_, _, rfl, rfl, r17.2.cq hW⟩
      | exact ⟨_, _, rfl, rfl, r18.2.cq hW⟩
      | exact ⟨_, _, rfl, rfl, r19.2.cq hW⟩
  · obtain ⟨t, ht, rfl⟩ := in_k hnt (by omega) (bI_ne0 h1)
    refine x_iload_n hm rfl rfl ?_
    refine x_iconst hm rfl (v := nI 0) (by decide) ?_
    refine x_bipush hm rfl (v := nI 6) (by decide) ?_
    refine x_callS hm rfl rfl (t6) ?_
    refine x_if_ne hm rfl (t := 28) rfl (fun h3 => ?_) (fun h3 => ?_)
    · obtain ⟨w, hw, rfl⟩ := le_k (by omega) (bI_ne0 h3)
      refine x_iload_n hm rfl rfl ?_
      refine x_bipush hm rfl (v := nI 6) (by decide) ?_
      refine x_icmp_ne hm rfl (t := 45) rfl (fun h4 => ?_) (fun h4 => ?_)
      · have hw6 : w ≠ 6 := fun e => h4 (by rw [e])
        refine x_aload_n hm rfl rfl ?_
        refine x_getf hm rfl (gR rfl rfl) ?_
        refine x_getf hm rfl (gR rfl rfl) ?_
        refine x_iload_n hm rfl rfl ?_
        refine x_aald hm rfl (lQ 3 (Or.inr (Or.inl rfl)) (tI (b := 1) (by decide)) (tIk (by omega)) (by omega) (by decide)) ?_
        refine x_iload_n hm rfl rfl ?_
        refine x_iald hm rfl (lI (tRowI (b := 1) (by decide) (by omega)) (by omega) (by decide)) ?_
        refine x_iret hm rfl rfl (by first | rfl | exact bI_nar | decide) ?_
        first
          | exact ⟨_, _, rfl, rfl, Cq.rf hW⟩
          | exact ⟨_, _, rfl, rfl, r1.2.cq hW⟩
          | exact ⟨_, _, rfl, rfl, r2.2.cq hW⟩
          | exact ⟨_, _, rfl, rfl, r3.2.cq hW⟩
          | exact ⟨_, _, rfl, rfl, r4.2.cq hW⟩
          | exact ⟨_, _, rfl, rfl, r5.2.cq hW⟩
          | exact ⟨_, _, rfl, rfl, r6.2.cq hW⟩
          | exact ⟨_, _, rfl, rfl, r7.2.cq hW⟩
          | exact ⟨_, _, rfl, rfl, r8.2.cq hW⟩
          | exact ⟨_, _, rfl, rfl, r9.2.cq hW⟩
          | exact ⟨_, _, rfl, rfl, r10.2.cq hW⟩
          | exact ⟨_, _, rfl, rfl, r11.2.cq hW⟩
          | exact ⟨_, _, rfl, rfl, r12.2.cq hW⟩
          | exact ⟨_, _, rfl, rfl, r13.2.cq hW⟩
          | exact ⟨_, _, rfl, rfl, r14.2.cq hW⟩
          | exact ⟨_, _, rfl, rfl, r15.2.cq hW⟩
          | exact ⟨_, _, rfl, rfl, r16.2.cq hW⟩
          | exact ⟨_, _, rfl, rfl, r17.2.cq hW⟩
          | exact ⟨_, _, rfl, rfl, r18.2.cq hW⟩
          | exact ⟨_, _, rfl, rfl, r19.2.cq hW⟩
      · refine x_aload_n hm rfl rfl ?_
        refine x_getf hm rfl (gR rfl rfl) ?_
        refine x_iload_n hm rfl rfl ?_
        refine x_cVe hm rfl rfl (t11 (by decide) (by omega) hW) (fun v5 r5 => ?_)
        refine x_goto hm rfl (t := 56) rfl ?_
        refine x_iret hm rfl rfl (by first | rfl | exact bI_nar | decide) ?_
        first
          | exact ⟨_, _, rfl, rfl, r5.2.cq hW⟩
          | exact ⟨_, _, rfl, rfl, Cq.rf hW⟩
          | exact ⟨_, _, rfl, rfl, r1.2.cq hW⟩
          | exact ⟨_, _, rfl, rfl, r2.2.cq hW⟩
          | exact ⟨_, _, rfl, rfl, r3.2.cq hW⟩
          | exact ⟨_, _, rfl, rfl, r4.2.cq hW⟩
          | exact ⟨_, _, rfl, rfl, r6.2.cq hW⟩
          | exact ⟨_, _, rfl, rfl, r7.2.cq hW⟩
          | exact ⟨_, _, rfl, rfl, r8.2.cq hW⟩
          | exact ⟨_, _, rfl, rfl, r9.2.cq hW⟩
          | exact ⟨_, _, rfl, rfl, r10.2.cq hW⟩
          | exact ⟨_, _, rfl, rfl, r11.2.cq hW⟩
          | exact ⟨_, _, rfl, rfl, r12.2.cq hW⟩
          | exact ⟨_, _, rfl, rfl, r13.2.cq hW⟩
          | exact ⟨_, _, rfl, rfl, r14.2.cq hW⟩
          | exact ⟨_, _, rfl, rfl, r15.2.cq hW⟩
          | exact ⟨_, _, rfl, rfl, r16.2.cq hW⟩
          | exact ⟨_, _, rfl, rfl, r17.2.cq hW⟩
          | exact ⟨_, _, rfl, rfl, r18.2.cq hW⟩
          | exact ⟨_, _, rfl, rfl, r19.2.cq hW⟩
    · refine x_aload_n hm rfl rfl ?_
      refine x_ldcI hm rfl (v := (-1000001 : Int32)) (by decide +kernel) ?_
      refine x_cVi hm rfl rfl (t7 (by decide +kernel)) (fun v6 M6 r6 => ?_)
      refine x_iret hm rfl rfl (by first | rfl | exact bI_nar | decide) ?_
      first
        | exact ⟨_, _, rfl, rfl, r6.2.cq hW⟩
        | exact ⟨_, _, rfl, rfl, Cq.rf hW⟩
        | exact ⟨_, _, rfl, rfl, r1.2.cq hW⟩
        | exact ⟨_, _, rfl, rfl, r2.2.cq hW⟩
        | exact ⟨_, _, rfl, rfl, r3.2.cq hW⟩
        | exact ⟨_, _, rfl, rfl, r4.2.cq hW⟩
        | exact ⟨_, _, rfl, rfl, r5.2.cq hW⟩
        | exact ⟨_, _, rfl, rfl, r7.2.cq hW⟩
        | exact ⟨_, _, rfl, rfl, r8.2.cq hW⟩
        | exact ⟨_, _, rfl, rfl, r9.2.cq hW⟩
        | exact ⟨_, _, rfl, rfl, r10.2.cq hW⟩
        | exact ⟨_, _, rfl, rfl, r11.2.cq hW⟩
        | exact ⟨_, _, rfl, rfl, r12.2.cq hW⟩
        | exact ⟨_, _, rfl, rfl, r13.2.cq hW⟩
        | exact ⟨_, _, rfl, rfl, r14.2.cq hW⟩
        | exact ⟨_, _, rfl, rfl, r15.2.cq hW⟩
        | exact ⟨_, _, rfl, rfl, r16.2.cq hW⟩
        | exact ⟨_, _, rfl, rfl, r17.2.cq hW⟩
        | exact ⟨_, _, rfl, rfl, r18.2.cq hW⟩
        | exact ⟨_, _, rfl, rfl, r19.2.cq hW⟩
theorem t18 {a1 a2 a3 : Int32} (hW : Wf M) : ∃ v, mT X 18 [.ref 0, .int a1, .int a2, .int a3] (con M) (some (.int v)) (con M) ∧ (v = nI 0 ∨ (v = nI 1 ∧ ∃ f, f < 6 ∧ a2 = nI f ∧ (f = 0 → okx 3 a3) ∧ (f = 4 → okx 2 a3) ∧ (f = 5 → okx 2 a3))) := by
  refine te_of (row := _) rfl (Nat.le_of_ble_eq_true rfl) ?_
  have hm : mMet 18 = some _ := rfl
  obtain ⟨nt, hn8, hnt⟩ := hW.ct (b := 1) (by decide)
  obtain ⟨np, hp8, hnp⟩ := hW.cpn (b := 1) (by decide)
  refine x_iload_n hm rfl rfl ?_
  refine x_ts hm rfl (fun h1 => ⟨121, rfl, ?_⟩) (fun i1 h1 g1 => ?_)
  · refine x_iconst hm rfl (v := nI 0) (by decide) ?_
    refine x_iret hm rfl rfl (by first | rfl | exact bI_nar | decide) ?_
    exact ⟨_, rfl, rfl, Or.inl rfl⟩
  · have k1 : i1 = 0 ∨ i1 = 1 ∨ i1 = 2 ∨ i1 = 3 ∨ i1 = 4 ∨ i1 = 5 := by omega
    rcases k1 with rfl | rfl | rfl | rfl | rfl | rfl
    · refine ⟨_, 40, rfl, rfl, ?_⟩
      refine x_iload_n hm rfl rfl ?_
      refine x_iconst hm rfl (v := nI 0) (by decide) ?_
      refine x_iconst hm rfl (v := nI 3) (by decide) ?_
      refine x_callS hm rfl rfl (t6) ?_
      refine x_iret hm rfl rfl (by first | rfl | exact bI_nar | decide) ?_
      exact ⟨_, rfl, rfl, bI_cs.imp id (fun e => ⟨e.1, 0, by decide, tn h1 (by decide), by first | exact fun _ => okx_le3 e.2 | exact fun q => absurd q (by decide), fun q => absurd q (by decide), fun q => absurd q (by decide)⟩)⟩
    · refine ⟨_, 47, rfl, rfl, ?_⟩
      refine x_iload_n hm rfl rfl ?_
      refine x_iconst hm rfl (v := nI 0) (by decide) ?_
      refine x_bipush hm rfl (v := nI 15) (by decide) ?_
      refine x_callS hm rfl rfl (t6) ?_
      refine x_iret hm rfl rfl (by first | rfl | exact bI_nar | decide) ?_
      exact ⟨_, rfl, rfl, bI_cs.imp id (fun e => ⟨e.1, 1, by decide, tn h1 (by decide), by first | exact fun _ => okx_le3 e.2 | exact fun q => absurd q (by decide), fun q => absurd q (by decide), fun q => absurd q (by decide)⟩)⟩
    · refine ⟨_, 55, rfl, rfl, ?_⟩
      refine x_iload_n hm rfl rfl ?_
      refine x_iconst hm rfl (v := nI 0) (by decide) ?_
      refine x_sipush hm rfl (v := nI 999) (by decide) ?_
      refine x_callS hm rfl rfl (t6) ?_
      refine x_iret hm rfl rfl (by first | rfl | exact bI_nar | decide) ?_
      exact ⟨_, rfl, rfl, bI_cs.imp id (fun e => ⟨e.1, 2, by decide, tn h1 (by decide), by first | exact fun _ => okx_le3 e.2 | exact fun q => absurd q (by decide), fun q => absurd q (by decide), fun q => absurd q (by decide)⟩)⟩
    · refine ⟨_, 64, rfl, rfl, ?_⟩
      refine x_iload_n hm rfl rfl ?_
      refine x_iconst hm rfl (v := nI 0) (by decide) ?_
      refine x_bipush hm rfl (v := nI 9) (by decide) ?_
      refine x_callS hm rfl rfl (t6) ?_
      refine x_iret hm rfl rfl (by first | rfl | exact bI_nar | decide) ?_
      exact ⟨_, rfl, rfl, bI_cs.imp id (fun e => ⟨e.1, 3, by decide, tn h1 (by decide), by first | exact fun _ => okx_le3 e.2 | exact fun q => absurd q (by decide), fun q => absurd q (by decide), fun q => absurd q (by decide)⟩)⟩
    · refine ⟨_, 72, rfl, rfl, ?_⟩
      refine x_iload_n hm rfl rfl ?_
      refine x_iconst hm rfl (v := (-1 : Int32)) (by decide) ?_
      refine x_icmp_eq hm rfl (t := 88) rfl (fun h2 => ?_) (fun h2 => ?_)
      · have hq : okx 2 a3 := by rw [h2]; exact okM1
        refine x_iconst hm rfl (v := nI 1) (by decide) ?_
        refine x_goto hm rfl (t := 93) rfl ?_
        refine x_iret hm rfl rfl (by first | rfl | exact bI_nar | decide) ?_
        exact ⟨_, rfl, rfl, by first | exact Or.inl rfl | exact Or.inr ⟨rfl, 4, by decide, tn h1 (by decide), fun q => absurd q (by decide), fun q => by first | exact hq | exact absurd q (by decide), fun q => by first | exact hq | exact absurd q (by decide)⟩⟩
      · refine x_aload_n hm rfl rfl ?_
        refine x_getf hm rfl (gR rfl rfl) ?_
        refine x_iload_n hm rfl rfl ?_
        refine x_callV hm rfl rfl (t19 (by decide)) ?_
        refine x_if_eq hm rfl (t := 92) rfl (fun h3 => ?_) (fun h3 => ?_)
        · refine x_iconst hm rfl (v := nI 0) (by decide) ?_
          refine x_iret hm rfl rfl (by first | rfl | exact bI_nar | decide) ?_
          exact ⟨_, rfl, rfl, by first | exact Or.inl rfl | exact Or.inr ⟨rfl, 4, by decide, tn h1 (by decide), fun q => absurd q (by decide), fun q => by first | exact hq | exact absurd q (by decide), fun q => by first | exact hq | exact absurd q (by decide)⟩⟩
        · have hq : okx 2 a3 := by
            obtain ⟨k, hk, e⟩ := in_k hnp (by omega) (bI_ne0 h3)
            rw [e]; exact okI2 (by omega)
          refine x_iconst hm rfl (v := nI 1) (by decide) ?_
          refine x_goto hm rfl (t := 93) rfl ?_
          refine x_iret hm rfl rfl (by first | rfl | exact bI_nar | decide) ?_
          exact ⟨_, rfl, rfl, by first | exact Or.inl rfl | exact Or.inr ⟨rfl, 4, by decide, tn h1 (by decide), fun q => absurd q (by decide), fun q => by first | exact hq | exact absurd q (by decide), fun q => by first | exact hq | exact absurd q (by decide)⟩⟩
    · refine ⟨_, 94, rfl, rfl, ?_⟩
      refine x_iload_n hm rfl rfl ?_
      refine x_iconst hm rfl (v := (-1 : Int32)) (by decide) ?_
      refine x_icmp_eq hm rfl (t := 115) rfl (fun h4 => ?_) (fun h4 => ?_)
      · have hq : okx 2 a3 := by rw [h4]; exact okM1
        refine x_iconst hm rfl (v := nI 1) (by decide) ?_
        refine x_goto hm rfl (t := 120) rfl ?_
        refine x_iret hm rfl rfl (by first | rfl | exact bI_nar | decide) ?_
        exact ⟨_, rfl, rfl, by first | exact Or.inl rfl | exact Or.inr ⟨rfl, 5, by decide, tn h1 (by decide), fun q => absurd q (by decide), fun q => by first | exact hq | exact absurd q (by decide), fun q => by first | exact hq | exact absurd q (by decide)⟩⟩
      · refine x_aload_n hm rfl rfl ?_
        refine x_getf hm rfl (gR rfl rfl) ?_
        refine x_iload_n hm rfl rfl ?_
        refine x_callV hm rfl rfl (t10 (by decide)) ?_
        refine x_if_eq hm rfl (t := 119) rfl (fun h5 => ?_) (fun h5 => ?_)
        · refine x_iconst hm rfl (v := nI 0) (by decide) ?_
          refine x_iret hm rfl rfl (by first | rfl | exact bI_nar | decide) ?_
          exact ⟨_, rfl, rfl, by first | exact Or.inl rfl | exact Or.inr ⟨rfl, 5, by decide, tn h1 (by decide), fun q => absurd q (by decide), fun q => by first | exact hq | exact absurd q (by decide), fun q => by first | exact hq | exact absurd q (by decide)⟩⟩
        · have hq : okx 2 a3 := by
            obtain ⟨k, hk, e⟩ := in_k hnt (by omega) (bI_ne0 h5)
            rw [e]; exact okI2 (by omega)
          refine x_iload_n hm rfl rfl ?_
          refine x_iload_n hm rfl rfl ?_
          refine x_icmp_eq hm rfl (t := 119) rfl (fun h6 => ?_) (fun h6 => ?_)
          · refine x_iconst hm rfl (v := nI 0) (by decide) ?_
            refine x_iret hm rfl rfl (by first | rfl | exact bI_nar | decide) ?_
            exact ⟨_, rfl, rfl, by first | exact Or.inl rfl | exact Or.inr ⟨rfl, 5, by decide, tn h1 (by decide), fun q => absurd q (by decide), fun q => by first | exact hq | exact absurd q (by decide), fun q => by first | exact hq | exact absurd q (by decide)⟩⟩
          · refine x_iconst hm rfl (v := nI 1) (by decide) ?_
            refine x_goto hm rfl (t := 120) rfl ?_
            refine x_iret hm rfl rfl (by first | rfl | exact bI_nar | decide) ?_
            exact ⟨_, rfl, rfl, by first | exact Or.inl rfl | exact Or.inr ⟨rfl, 5, by decide, tn h1 (by decide), fun q => absurd q (by decide), fun q => by first | exact hq | exact absurd q (by decide), fun q => by first | exact hq | exact absurd q (by decide)⟩⟩
theorem forge_tw {f t : Nat} {v : Int32} (hf : f < 6) (g0 : f = 0 → okx 3 v) (g4 : f = 4 → okx 2 v) (g5 : f = 5 → okx 2 v) : Tw 1 M (mput M (1 + 2 + f) t v) := by
  rw [Nat.add_assoc]
  refine Tw.row (b := 1) (j := 2 + f) (Or.inl rfl) (by omega) (by omega) ?_
  rcases (by omega : f = 0 ∨ f = 4 ∨ f = 5 ∨ (f ≠ 0 ∧ f ≠ 4 ∧ f ≠ 5)) with rfl | rfl | rfl | ⟨h1, h2, h3⟩
  · exact g0 rfl
  · exact g4 rfl
  · exact g5 rfl
  · rw [if_neg (by omega), if_neg (by omega)]
    trivial
theorem t17 {a1 a2 a3 : Int32} (hW : Wf M) : ∃ v M', mT X 17 [.ref 0, .int a1, .int a2, .int a3] (con M) (some (.int v)) (con M') ∧ Ck M M' := by
  refine ti_of (row := _) rfl (Nat.le_of_ble_eq_true rfl) ?_
  have hm : mMet 17 = some _ := rfl
  obtain ⟨nt, hn8, hnt⟩ := hW.ct (b := 1) (by decide)
  refine x_aload_n hm rfl rfl ?_
  refine x_getf hm rfl (gR rfl rfl) ?_
  refine x_iload_n hm rfl rfl ?_
  refine x_callV hm rfl rfl (t10 (by decide)) ?_
  refine x_if_eq hm rfl (t := 21) rfl (fun h1 => ?_) (fun h1 => ?_)
  · refine x_aload_n hm rfl rfl ?_
    refine x_ldcI hm rfl (v := (-1000001 : Int32)) (by decide +kernel) ?_
    refine x_cVi hm rfl rfl (t7 (by decide +kernel)) (fun v2 M2 r2 => ?_)
    refine x_iret hm rfl rfl (by first | rfl | exact bI_nar | decide) ?_
    first
      | exact ⟨_, _, rfl, rfl, r2.2.ck hW⟩
      | exact ⟨_, _, rfl, rfl, Ck.rf hW⟩
      | exact ⟨_, _, rfl, rfl, (forge_tw hf g0 g4 g5).ck hW⟩
      | exact ⟨_, _, rfl, rfl, r1.2.ck hW⟩
      | exact ⟨_, _, rfl, rfl, r3.2.ck hW⟩
      | exact ⟨_, _, rfl, rfl, r4.2.ck hW⟩
      | exact ⟨_, _, rfl, rfl, r5.2.ck hW⟩
      | exact ⟨_, _, rfl, rfl, r6.2.ck hW⟩
      | exact ⟨_, _, rfl, rfl, r7.2.ck hW⟩
      | exact ⟨_, _, rfl, rfl, r8.2.ck hW⟩
      | exact ⟨_, _, rfl, rfl, r9.2.ck hW⟩
      | exact ⟨_, _, rfl, rfl, r10.2.ck hW⟩
      | exact ⟨_, _, rfl, rfl, r11.2.ck hW⟩
      | exact ⟨_, _, rfl, rfl, r12.2.ck hW⟩
      | exact ⟨_, _, rfl, rfl, r13.2.ck hW⟩
      | exact ⟨_, _, rfl, rfl, r14.2.ck hW⟩
      | exact ⟨_, _, rfl, rfl, r15.2.ck hW⟩
      | exact ⟨_, _, rfl, rfl, r16.2.ck hW⟩
      | exact ⟨_, _, rfl, rfl, r17.2.ck hW⟩
      | exact ⟨_, _, rfl, rfl, r18.2.ck hW⟩
      | exact ⟨_, _, rfl, rfl, r19.2.ck hW⟩
  · obtain ⟨t, ht, rfl⟩ := in_k hnt (by omega) (bI_ne0 h1)
    refine x_aload_n hm rfl rfl ?_
    refine x_iload_n hm rfl rfl ?_
    refine x_iload_n hm rfl rfl ?_
    refine x_iload_n hm rfl rfl ?_
    refine x_cVe hm rfl rfl (t18 hW) (fun v3 r3 => ?_)
    refine x_if_ne hm rfl (t := 28) rfl (fun h4 => ?_) (fun h4 => ?_)
    · first
        | obtain ⟨-, f, hf, rfl, g0, g4, g5⟩ := r3.resolve_left (fun e => by subst e; exact h4 rfl)
        | obtain ⟨-, f, hf, rfl, g0, g4, g5⟩ := r1.resolve_left (fun e => by subst e; exact h4 rfl)
        | obtain ⟨-, f, hf, rfl, g0, g4, g5⟩ := r2.resolve_left (fun e => by subst e; exact h4 rfl)
        | obtain ⟨-, f, hf, rfl, g0, g4, g5⟩ := r4.resolve_left (fun e => by subst e; exact h4 rfl)
        | obtain ⟨-, f, hf, rfl, g0, g4, g5⟩ := r5.resolve_left (fun e => by subst e; exact h4 rfl)
        | obtain ⟨-, f, hf, rfl, g0, g4, g5⟩ := r6.resolve_left (fun e => by subst e; exact h4 rfl)
        | obtain ⟨-, f, hf, rfl, g0, g4, g5⟩ := r7.resolve_left (fun e => by subst e; exact h4 rfl)
      refine x_iload_n hm rfl rfl ?_
      refine x_iconst hm rfl (v := nI 5) (by decide) ?_
      refine x_icmp_ne hm rfl (t := 60) rfl (fun h5 => ?_) (fun h5 => ?_)
      · refine x_aload_n hm rfl rfl ?_
        refine x_getf hm rfl (gR rfl rfl) ?_
        refine x_getf hm rfl (gR rfl rfl) ?_
        refine x_iload_n hm rfl rfl ?_
        refine x_aald hm rfl (lQ 3 (Or.inr (Or.inl rfl)) (tI (b := 1) (by decide)) (tIk (by omega)) (by omega) (by decide)) ?_
        refine x_iload_n hm rfl rfl ?_
        refine x_iald hm rfl (lI (tRowI (b := 1) (by decide) (by omega)) (by omega) (by decide)) ?_
        refine x_istore hm rfl rfl ?_
        refine x_aload_n hm rfl rfl ?_
        refine x_getf hm rfl (gR rfl rfl) ?_
        refine x_getf hm rfl (gR rfl rfl) ?_
        refine x_iload_n hm rfl rfl ?_
        refine x_aald hm rfl (lQ 3 (Or.inr (Or.inl rfl)) (tI (b := 1) (by decide)) (tIk (by omega)) (by omega) (by decide)) ?_
        refine x_iload_n hm rfl rfl ?_
        refine x_iload_n hm rfl rfl ?_
        refine x_iast hm rfl (sI (tRowI (b := 1) (by decide) (by omega)) (by omega) (by decide)) ?_
        refine x_iload hm rfl rfl ?_
        refine x_iret hm rfl rfl (by first | rfl | exact bI_nar | decide) ?_
        first
          | exact ⟨_, _, rfl, rfl, r3.2.ck hW⟩
          | exact ⟨_, _, rfl, rfl, Ck.rf hW⟩
          | exact ⟨_, _, rfl, rfl, (forge_tw hf g0 g4 g5).ck hW⟩
          | exact ⟨_, _, rfl, rfl, r1.2.ck hW⟩
          | exact ⟨_, _, rfl, rfl, r2.2.ck hW⟩
          | exact ⟨_, _, rfl, rfl, r4.2.ck hW⟩
          | exact ⟨_, _, rfl, rfl, r5.2.ck hW⟩
          | exact ⟨_, _, rfl, rfl, r6.2.ck hW⟩
          | exact ⟨_, _, rfl, rfl, r7.2.ck hW⟩
          | exact ⟨_, _, rfl, rfl, r8.2.ck hW⟩
          | exact ⟨_, _, rfl, rfl, r9.2.ck hW⟩
          | exact ⟨_, _, rfl, rfl, r10.2.ck hW⟩
          | exact ⟨_, _, rfl, rfl, r11.2.ck hW⟩
          | exact ⟨_, _, rfl, rfl, r12.2.ck hW⟩
          | exact ⟨_, _, rfl, rfl, r13.2.ck hW⟩
          | exact ⟨_, _, rfl, rfl, r14.2.ck hW⟩
          | exact ⟨_, _, rfl, rfl, r15.2.ck hW⟩
          | exact ⟨_, _, rfl, rfl, r16.2.ck hW⟩
          | exact ⟨_, _, rfl, rfl, r17.2.ck hW⟩
          | exact ⟨_, _, rfl, rfl, r18.2.ck hW⟩
          | exact ⟨_, _, rfl, rfl, r19.2.ck hW⟩
      · refine x_iload_n hm rfl rfl ?_
        refine x_iconst hm rfl (v := (-1 : Int32)) (by decide) ?_
        refine x_icmp_eq hm rfl (t := 60) rfl (fun h6 => ?_) (fun h6 => ?_)
        · refine x_aload_n hm rfl rfl ?_
          refine x_getf hm rfl (gR rfl rfl) ?_
          refine x_getf hm rfl (gR rfl rfl) ?_
          refine x_iload_n hm rfl rfl ?_
          refine x_aald hm rfl (lQ 3 (Or.inr (Or.inl rfl)) (tI (b := 1) (by decide)) (tIk (by omega)) (by omega) (by decide)) ?_
          refine x_iload_n hm rfl rfl ?_
          refine x_iald hm rfl (lI (tRowI (b := 1) (by decide) (by omega)) (by omega) (by decide)) ?_
          refine x_istore hm rfl rfl ?_
          refine x_aload_n hm rfl rfl ?_
          refine x_getf hm rfl (gR rfl rfl) ?_
          refine x_getf hm rfl (gR rfl rfl) ?_
          refine x_iload_n hm rfl rfl ?_
          refine x_aald hm rfl (lQ 3 (Or.inr (Or.inl rfl)) (tI (b := 1) (by decide)) (tIk (by omega)) (by omega) (by decide)) ?_
          refine x_iload_n hm rfl rfl ?_
          refine x_iload_n hm rfl rfl ?_
          refine x_iast hm rfl (sI (tRowI (b := 1) (by decide) (by omega)) (by omega) (by decide)) ?_
          refine x_iload hm rfl rfl ?_
          refine x_iret hm rfl rfl (by first | rfl | exact bI_nar | decide) ?_
          first
            | exact ⟨_, _, rfl, rfl, r3.2.ck hW⟩
            | exact ⟨_, _, rfl, rfl, Ck.rf hW⟩
            | exact ⟨_, _, rfl, rfl, (forge_tw hf g0 g4 g5).ck hW⟩
            | exact ⟨_, _, rfl, rfl, r1.2.ck hW⟩
            | exact ⟨_, _, rfl, rfl, r2.2.ck hW⟩
            | exact ⟨_, _, rfl, rfl, r4.2.ck hW⟩
            | exact ⟨_, _, rfl, rfl, r5.2.ck hW⟩
            | exact ⟨_, _, rfl, rfl, r6.2.ck hW⟩
            | exact ⟨_, _, rfl, rfl, r7.2.ck hW⟩
            | exact ⟨_, _, rfl, rfl, r8.2.ck hW⟩
            | exact ⟨_, _, rfl, rfl, r9.2.ck hW⟩
            | exact ⟨_, _, rfl, rfl, r10.2.ck hW⟩
            | exact ⟨_, _, rfl, rfl, r11.2.ck hW⟩
            | exact ⟨_, _, rfl, rfl, r12.2.ck hW⟩
            | exact ⟨_, _, rfl, rfl, r13.2.ck hW⟩
            | exact ⟨_, _, rfl, rfl, r14.2.ck hW⟩
            | exact ⟨_, _, rfl, rfl, r15.2.ck hW⟩
            | exact ⟨_, _, rfl, rfl, r16.2.ck hW⟩
            | exact ⟨_, _, rfl, rfl, r17.2.ck hW⟩
            | exact ⟨_, _, rfl, rfl, r18.2.ck hW⟩
            | exact ⟨_, _, rfl, rfl, r19.2.ck hW⟩
        · refine x_aload_n hm rfl rfl ?_
          refine x_getf hm rfl (gR rfl rfl) ?_
          refine x_iload_n hm rfl rfl ?_
          refine x_cVe hm rfl rfl (t20 (by decide) hW) (fun v7 r7 => ?_)
          refine x_iload_n hm rfl rfl ?_
          refine x_cSe hm rfl rfl (t21) (fun v8 r8 => ?_)
          refine x_if_eq hm rfl (t := 60) rfl (fun h9 => ?_) (fun h9 => ?_)
          · refine x_aload_n hm rfl rfl ?_
            refine x_getf hm rfl (gR rfl rfl) ?_
            refine x_getf hm rfl (gR rfl rfl) ?_
            refine x_iload_n hm rfl rfl ?_
            refine x_aald hm rfl (lQ 3 (Or.inr (Or.inl rfl)) (tI (b := 1) (by decide)) (tIk (by omega)) (by omega) (by decide)) ?_
            refine x_iload_n hm rfl rfl ?_
            refine x_iald hm rfl (lI (tRowI (b := 1) (by decide) (by omega)) (by omega) (by decide)) ?_
            refine x_istore hm rfl rfl ?_
            refine x_aload_n hm rfl rfl ?_
            refine x_getf hm rfl (gR rfl rfl) ?_
            refine x_getf hm rfl (gR rfl rfl) ?_
            refine x_iload_n hm rfl rfl ?_
            refine x_aald hm rfl (lQ 3 (Or.inr (Or.inl rfl)) (tI (b := 1) (by decide)) (tIk (by omega)) (by omega) (by decide)) ?_
            refine x_iload_n hm rfl rfl ?_
            refine x_iload_n hm rfl rfl ?_
            refine x_iast hm rfl (sI (tRowI (b := 1) (by decide) (by omega)) (by omega) (by decide)) ?_
            refine x_iload hm rfl rfl ?_
            refine x_iret hm rfl rfl (by first | rfl | exact bI_nar | decide) ?_
            first
              | exact ⟨_, _, rfl, rfl, r8.2.ck hW⟩
              | exact ⟨_, _, rfl, rfl, Ck.rf hW⟩
              | exact ⟨_, _, rfl, rfl, (forge_tw hf g0 g4 g5).ck hW⟩
              | exact ⟨_, _, rfl, rfl, r3.2.ck hW⟩
              | exact ⟨_, _, rfl, rfl, r7.2.ck hW⟩
              | exact ⟨_, _, rfl, rfl, r1.2.ck hW⟩
              | exact ⟨_, _, rfl, rfl, r2.2.ck hW⟩
              | exact ⟨_, _, rfl, rfl, r4.2.ck hW⟩
              | exact ⟨_, _, rfl, rfl, r5.2.ck hW⟩
              | exact ⟨_, _, rfl, rfl, r6.2.ck hW⟩
              | exact ⟨_, _, rfl, rfl, r9.2.ck hW⟩
              | exact ⟨_, _, rfl, rfl, r10.2.ck hW⟩
              | exact ⟨_, _, rfl, rfl, r11.2.ck hW⟩
              | exact ⟨_, _, rfl, rfl, r12.2.ck hW⟩
              | exact ⟨_, _, rfl, rfl, r13.2.ck hW⟩
              | exact ⟨_, _, rfl, rfl, r14.2.ck hW⟩
              | exact ⟨_, _, rfl, rfl, r15.2.ck hW⟩
              | exact ⟨_, _, rfl, rfl, r16.2.ck hW⟩
              | exact ⟨_, _, rfl, rfl, r17.2.ck hW⟩
              | exact ⟨_, _, rfl, rfl, r18.2.ck hW⟩
              | exact ⟨_, _, rfl, rfl, r19.2.ck hW⟩
          · refine x_aload_n hm rfl rfl ?_
            refine x_ldcI hm rfl (v := (-1000005 : Int32)) (by decide +kernel) ?_
            refine x_cVi hm rfl rfl (t7 (by decide +kernel)) (fun v10 M10 r10 => ?_)
            refine x_iret hm rfl rfl (by first | rfl | exact bI_nar | decide) ?_
            first
              | exact ⟨_, _, rfl, rfl, r10.2.ck hW⟩
              | exact ⟨_, _, rfl, rfl, Ck.rf hW⟩
              | exact ⟨_, _, rfl, rfl, (forge_tw hf g0 g4 g5).ck hW⟩
              | exact ⟨_, _, rfl, rfl, r3.2.ck hW⟩
              | exact ⟨_, _, rfl, rfl, r7.2.ck hW⟩
              | exact ⟨_, _, rfl, rfl, r8.2.ck hW⟩
              | exact ⟨_, _, rfl, rfl, r1.2.ck hW⟩
              | exact ⟨_, _, rfl, rfl, r2.2.ck hW⟩
              | exact ⟨_, _, rfl, rfl, r4.2.ck hW⟩
              | exact ⟨_, _, rfl, rfl, r5.2.ck hW⟩
              | exact ⟨_, _, rfl, rfl, r6.2.ck hW⟩
              | exact ⟨_, _, rfl, rfl, r9.2.ck hW⟩
              | exact ⟨_, _, rfl, rfl, r11.2.ck hW⟩
              | exact ⟨_, _, rfl, rfl, r12.2.ck hW⟩
              | exact ⟨_, _, rfl, rfl, r13.2.ck hW⟩
              | exact ⟨_, _, rfl, rfl, r14.2.ck hW⟩
              | exact ⟨_, _, rfl, rfl, r15.2.ck hW⟩
              | exact ⟨_, _, rfl, rfl, r16.2.ck hW⟩
              | exact ⟨_, _, rfl, rfl, r17.2.ck hW⟩
              | exact ⟨_, _, rfl, rfl, r18.2.ck hW⟩
              | exact ⟨_, _, rfl, rfl, r19.2.ck hW⟩
    · refine x_aload_n hm rfl rfl ?_
      refine x_ldcI hm rfl (v := (-1000001 : Int32)) (by decide +kernel) ?_
      refine x_cVi hm rfl rfl (t7 (by decide +kernel)) (fun v11 M11 r11 => ?_)
      refine x_iret hm rfl rfl (by first | rfl | exact bI_nar | decide) ?_
      first
        | exact ⟨_, _, rfl, rfl, r11.2.ck hW⟩
        | exact ⟨_, _, rfl, rfl, Ck.rf hW⟩
        | exact ⟨_, _, rfl, rfl, (forge_tw hf g0 g4 g5).ck hW⟩
        | exact ⟨_, _, rfl, rfl, r3.2.ck hW⟩
        | exact ⟨_, _, rfl, rfl, r1.2.ck hW⟩
        | exact ⟨_, _, rfl, rfl, r2.2.ck hW⟩
        | exact ⟨_, _, rfl, rfl, r4.2.ck hW⟩
        | exact ⟨_, _, rfl, rfl, r5.2.ck hW⟩
        | exact ⟨_, _, rfl, rfl, r6.2.ck hW⟩
        | exact ⟨_, _, rfl, rfl, r7.2.ck hW⟩
        | exact ⟨_, _, rfl, rfl, r8.2.ck hW⟩
        | exact ⟨_, _, rfl, rfl, r9.2.ck hW⟩
        | exact ⟨_, _, rfl, rfl, r10.2.ck hW⟩
        | exact ⟨_, _, rfl, rfl, r12.2.ck hW⟩
        | exact ⟨_, _, rfl, rfl, r13.2.ck hW⟩
        | exact ⟨_, _, rfl, rfl, r14.2.ck hW⟩
        | exact ⟨_, _, rfl, rfl, r15.2.ck hW⟩
        | exact ⟨_, _, rfl, rfl, r16.2.ck hW⟩
        | exact ⟨_, _, rfl, rfl, r17.2.ck hW⟩
        | exact ⟨_, _, rfl, rfl, r18.2.ck hW⟩
        | exact ⟨_, _, rfl, rfl, r19.2.ck hW⟩
theorem t22 {a1 a2 : Int32} (hW : Wf M) : ∃ v M', mT X 22 [.ref 0, .int a1, .int a2] (con M) (some (.int v)) (con M') ∧ Ck M M' := by
  refine ti_of (row := _) rfl (Nat.le_of_ble_eq_true rfl) ?_
  have hm : mMet 22 = some _ := rfl
  obtain ⟨np, hp8, hnp⟩ := hW.cpn (b := 1) (by decide)
  refine x_iload_n hm rfl rfl ?_
  refine x_iconst hm rfl (v := nI 0) (by decide) ?_
  refine x_bipush hm rfl (v := nI 6) (by decide) ?_
  refine x_callS hm rfl rfl (t6) ?_
  refine x_if_eq hm rfl (t := 20) rfl (fun h1 => ?_) (fun h1 => ?_)
  · refine x_aload_n hm rfl rfl ?_
    refine x_ldcI hm rfl (v := (-1000001 : Int32)) (by decide +kernel) ?_
    refine x_cVi hm rfl rfl (t7 (by decide +kernel)) (fun v2 M2 r2 => ?_)
    refine x_iret hm rfl rfl (by first | rfl | exact bI_nar | decide) ?_
    first
      | exact ⟨_, _, rfl, rfl, r2.2.ck hW⟩
      | exact ⟨_, _, rfl, rfl, r2.2.1.ck hW⟩
      | exact ⟨_, _, rfl, rfl, Ck.rf hW⟩
      | exact ⟨_, _, rfl, rfl, r1.2.ck hW⟩
      | exact ⟨_, _, rfl, rfl, r3.2.ck hW⟩
      | exact ⟨_, _, rfl, rfl, r4.2.ck hW⟩
      | exact ⟨_, _, rfl, rfl, r5.2.ck hW⟩
      | exact ⟨_, _, rfl, rfl, r6.2.ck hW⟩
      | exact ⟨_, _, rfl, rfl, r7.2.ck hW⟩
      | exact ⟨_, _, rfl, rfl, r8.2.ck hW⟩
      | exact ⟨_, _, rfl, rfl, r9.2.ck hW⟩
      | exact ⟨_, _, rfl, rfl, r10.2.ck hW⟩
      | exact ⟨_, _, rfl, rfl, r11.2.ck hW⟩
      | exact ⟨_, _, rfl, rfl, r12.2.ck hW⟩
      | exact ⟨_, _, rfl, rfl, r13.2.ck hW⟩
      | exact ⟨_, _, rfl, rfl, r14.2.ck hW⟩
      | exact ⟨_, _, rfl, rfl, r15.2.ck hW⟩
      | exact ⟨_, _, rfl, rfl, r16.2.ck hW⟩
      | exact ⟨_, _, rfl, rfl, r17.2.ck hW⟩
      | exact ⟨_, _, rfl, rfl, r18.2.ck hW⟩
      | exact ⟨_, _, rfl, rfl, r19.2.ck hW⟩
      | exact ⟨_, _, rfl, rfl, r1.2.1.ck hW⟩
      | exact ⟨_, _, rfl, rfl, r3.2.1.ck hW⟩
      | exact ⟨_, _, rfl, rfl, r4.2.1.ck hW⟩
      | exact ⟨_, _, rfl, rfl, r5.2.1.ck hW⟩
      | exact ⟨_, _, rfl, rfl, r6.2.1.ck hW⟩
      | exact ⟨_, _, rfl, rfl, r7.2.1.ck hW⟩
      | exact ⟨_, _, rfl, rfl, r8.2.1.ck hW⟩
      | exact ⟨_, _, rfl, rfl, r9.2.1.ck hW⟩
      | exact ⟨_, _, rfl, rfl, r10.2.1.ck hW⟩
      | exact ⟨_, _, rfl, rfl, r11.2.1.ck hW⟩
  · refine x_iload_n hm rfl rfl ?_
    refine x_iconst hm rfl (v := nI 0) (by decide) ?_
    refine x_bipush hm rfl (v := nI 15) (by decide) ?_
    refine x_callS hm rfl rfl (t6) ?_
    refine x_if_ne hm rfl (t := 27) rfl (fun h3 => ?_) (fun h3 => ?_)
    · refine x_aload_n hm rfl rfl ?_
      refine x_getf hm rfl (gR rfl rfl) ?_
      refine x_getf hm rfl (gI rfl rfl) ?_
      rw [hnp]
      refine x_bipush hm rfl (v := nI 8) (by decide) ?_
      refine x_icmp_lt hm rfl (t := 46) rfl (fun h4 => ?_) (fun h4 => ?_)
      · have hlt : np < 8 := Nat.lt_of_not_le fun h => absurd h4 (Int32.not_lt.mpr (nI_le h (by omega)))
        refine x_aload_n hm rfl rfl ?_
        refine x_getf hm rfl (gR rfl rfl) ?_
        refine x_iload_n hm rfl rfl ?_
        refine x_iload_n hm rfl rfl ?_
        refine x_cVi hm rfl rfl (t23 (by decide) hnp hlt) (fun v5 M5 r5 => ?_)
        refine x_iret hm rfl rfl (by first | rfl | exact bI_nar | decide) ?_
        first
          | exact ⟨_, _, rfl, rfl, r5.2.ck hW⟩
          | exact ⟨_, _, rfl, rfl, r5.2.1.ck hW⟩
          | exact ⟨_, _, rfl, rfl, Ck.rf hW⟩
          | exact ⟨_, _, rfl, rfl, r1.2.ck hW⟩
          | exact ⟨_, _, rfl, rfl, r2.2.ck hW⟩
          | exact ⟨_, _, rfl, rfl, r3.2.ck hW⟩
          | exact ⟨_, _, rfl, rfl, r4.2.ck hW⟩
          | exact ⟨_, _, rfl, rfl, r6.2.ck hW⟩
          | exact ⟨_, _, rfl, rfl, r7.2.ck hW⟩
          | exact ⟨_, _, rfl, rfl, r8.2.ck hW⟩
          | exact ⟨_, _, rfl, rfl, r9.2.ck hW⟩
          | exact ⟨_, _, rfl, rfl, r10.2.ck hW⟩
          | exact ⟨_, _, rfl, rfl, r11.2.ck hW⟩
          | exact ⟨_, _, rfl, rfl, r12.2.ck hW⟩
          | exact ⟨_, _, rfl, rfl, r13.2.ck hW⟩
          | exact ⟨_, _, rfl, rfl, r14.2.ck hW⟩
          | exact ⟨_, _, rfl, rfl, r15.2.ck hW⟩
          | exact ⟨_, _, rfl, rfl, r16.2.ck hW⟩
          | exact ⟨_, _, rfl, rfl, r17.2.ck hW⟩
          | exact ⟨_, _, rfl, rfl, r18.2.ck hW⟩
          | exact ⟨_, _, rfl, rfl, r19.2.ck hW⟩
          | exact ⟨_, _, rfl, rfl, r1.2.1.ck hW⟩
          | exact ⟨_, _, rfl, rfl, r2.2.1.ck hW⟩
          | exact ⟨_, _, rfl, rfl, r3.2.1.ck hW⟩
          | exact ⟨_, _, rfl, rfl, r4.2.1.ck hW⟩
          | exact ⟨_, _, rfl, rfl, r6.2.1.ck hW⟩
          | exact ⟨_, _, rfl, rfl, r7.2.1.ck hW⟩
          | exact ⟨_, _, rfl, rfl, r8.2.1.ck hW⟩
          | exact ⟨_, _, rfl, rfl, r9.2.1.ck hW⟩
          | exact ⟨_, _, rfl, rfl, r10.2.1.ck hW⟩
          | exact ⟨_, _, rfl, rfl, r11.2.1.ck hW⟩
      · refine x_aload_n hm rfl rfl ?_
        refine x_ldcI hm rfl (v := (-1000002 : Int32)) (by decide +kernel) ?_
        refine x_cVi hm rfl rfl (t7 (by decide +kernel)) (fun v6 M6 r6 => ?_)
        refine x_iret hm rfl rfl (by first | rfl | exact bI_nar | decide) ?_
        first
          | exact ⟨_, _, rfl, rfl, r6.2.ck hW⟩
          | exact ⟨_, _, rfl, rfl, r6.2.1.ck hW⟩
          | exact ⟨_, _, rfl, rfl, Ck.rf hW⟩
          | exact ⟨_, _, rfl, rfl, r1.2.ck hW⟩
          | exact ⟨_, _, rfl, rfl, r2.2.ck hW⟩
          | exact ⟨_, _, rfl, rfl, r3.2.ck hW⟩
          | exact ⟨_, _, rfl, rfl, r4.2.ck hW⟩
          | exact ⟨_, _, rfl, rfl, r5.2.ck hW⟩
          | exact ⟨_, _, rfl, rfl, r7.2.ck hW⟩
          | exact ⟨_, _, rfl, rfl, r8.2.ck hW⟩
          | exact ⟨_, _, rfl, rfl, r9.2.ck hW⟩
          | exact ⟨_, _, rfl, rfl, r10.2.ck hW⟩
          | exact ⟨_, _, rfl, rfl, r11.2.ck hW⟩
          | exact ⟨_, _, rfl, rfl, r12.2.ck hW⟩
          | exact ⟨_, _, rfl, rfl, r13.2.ck hW⟩
          | exact ⟨_, _, rfl, rfl, r14.2.ck hW⟩
          | exact ⟨_, _, rfl, rfl, r15.2.ck hW⟩
          | exact ⟨_, _, rfl, rfl, r16.2.ck hW⟩
          | exact ⟨_, _, rfl, rfl, r17.2.ck hW⟩
          | exact ⟨_, _, rfl, rfl, r18.2.ck hW⟩
          | exact ⟨_, _, rfl, rfl, r19.2.ck hW⟩
          | exact ⟨_, _, rfl, rfl, r1.2.1.ck hW⟩
          | exact ⟨_, _, rfl, rfl, r2.2.1.ck hW⟩
          | exact ⟨_, _, rfl, rfl, r3.2.1.ck hW⟩
          | exact ⟨_, _, rfl, rfl, r4.2.1.ck hW⟩
          | exact ⟨_, _, rfl, rfl, r5.2.1.ck hW⟩
          | exact ⟨_, _, rfl, rfl, r7.2.1.ck hW⟩
          | exact ⟨_, _, rfl, rfl, r8.2.1.ck hW⟩
          | exact ⟨_, _, rfl, rfl, r9.2.1.ck hW⟩
          | exact ⟨_, _, rfl, rfl, r10.2.1.ck hW⟩
          | exact ⟨_, _, rfl, rfl, r11.2.1.ck hW⟩
    · refine x_aload_n hm rfl rfl ?_
      refine x_ldcI hm rfl (v := (-1000001 : Int32)) (by decide +kernel) ?_
      refine x_cVi hm rfl rfl (t7 (by decide +kernel)) (fun v7 M7 r7 => ?_)
      refine x_iret hm rfl rfl (by first | rfl | exact bI_nar | decide) ?_
      first
        | exact ⟨_, _, rfl, rfl, r7.2.ck hW⟩
        | exact ⟨_, _, rfl, rfl, r7.2.1.ck hW⟩
        | exact ⟨_, _, rfl, rfl, Ck.rf hW⟩
        | exact ⟨_, _, rfl, rfl, r1.2.ck hW⟩
        | exact ⟨_, _, rfl, rfl, r2.2.ck hW⟩
        | exact ⟨_, _, rfl, rfl, r3.2.ck hW⟩
        | exact ⟨_, _, rfl, rfl, r4.2.ck hW⟩
        | exact ⟨_, _, rfl, rfl, r5.2.ck hW⟩
        | exact ⟨_, _, rfl, rfl, r6.2.ck hW⟩
        | exact ⟨_, _, rfl, rfl, r8.2.ck hW⟩
        | exact ⟨_, _, rfl, rfl, r9.2.ck hW⟩
        | exact ⟨_, _, rfl, rfl, r10.2.ck hW⟩
        | exact ⟨_, _, rfl, rfl, r11.2.ck hW⟩
        | exact ⟨_, _, rfl, rfl, r12.2.ck hW⟩
        | exact ⟨_, _, rfl, rfl, r13.2.ck hW⟩
        | exact ⟨_, _, rfl, rfl, r14.2.ck hW⟩
        | exact ⟨_, _, rfl, rfl, r15.2.ck hW⟩
        | exact ⟨_, _, rfl, rfl, r16.2.ck hW⟩
        | exact ⟨_, _, rfl, rfl, r17.2.ck hW⟩
        | exact ⟨_, _, rfl, rfl, r18.2.ck hW⟩
        | exact ⟨_, _, rfl, rfl, r19.2.ck hW⟩
        | exact ⟨_, _, rfl, rfl, r1.2.1.ck hW⟩
        | exact ⟨_, _, rfl, rfl, r2.2.1.ck hW⟩
        | exact ⟨_, _, rfl, rfl, r3.2.1.ck hW⟩
        | exact ⟨_, _, rfl, rfl, r4.2.1.ck hW⟩
        | exact ⟨_, _, rfl, rfl, r5.2.1.ck hW⟩
        | exact ⟨_, _, rfl, rfl, r6.2.1.ck hW⟩
        | exact ⟨_, _, rfl, rfl, r8.2.1.ck hW⟩
        | exact ⟨_, _, rfl, rfl, r9.2.1.ck hW⟩
        | exact ⟨_, _, rfl, rfl, r10.2.1.ck hW⟩
        | exact ⟨_, _, rfl, rfl, r11.2.1.ck hW⟩
theorem t24 {a1 a2 : Int32} (hW : Wf M) : ∃ v M', mT X 24 [.ref 0, .int a1, .int a2] (con M) (some (.int v)) (con M') ∧ Cq M M' := by
  refine ti_of (row := _) rfl (Nat.le_of_ble_eq_true rfl) ?_
  have hm : mMet 24 = some _ := rfl
  obtain ⟨np, hp8, hnp⟩ := hW.cpn (b := 1) (by decide)
  refine x_aload_n hm rfl rfl ?_
  refine x_getf hm rfl (gR rfl rfl) ?_
  refine x_iload_n hm rfl rfl ?_
  refine x_callV hm rfl rfl (t19 (by decide)) ?_
  refine x_if_eq hm rfl (t := 21) rfl (fun h1 => ?_) (fun h1 => ?_)
  · refine x_aload_n hm rfl rfl ?_
    refine x_ldcI hm rfl (v := (-1000001 : Int32)) (by decide +kernel) ?_
    refine x_cVi hm rfl rfl (t7 (by decide +kernel)) (fun v2 M2 r2 => ?_)
    refine x_iret hm rfl rfl (by first | rfl | exact bI_nar | decide) ?_
    first
      | exact ⟨_, _, rfl, rfl, r2.2.cq hW⟩
      | exact ⟨_, _, rfl, rfl, Cq.rf hW⟩
      | exact ⟨_, _, rfl, rfl, r1.2.cq hW⟩
      | exact ⟨_, _, rfl, rfl, r3.2.cq hW⟩
      | exact ⟨_, _, rfl, rfl, r4.2.cq hW⟩
      | exact ⟨_, _, rfl, rfl, r5.2.cq hW⟩
      | exact ⟨_, _, rfl, rfl, r6.2.cq hW⟩
      | exact ⟨_, _, rfl, rfl, r7.2.cq hW⟩
      | exact ⟨_, _, rfl, rfl, r8.2.cq hW⟩
      | exact ⟨_, _, rfl, rfl, r9.2.cq hW⟩
      | exact ⟨_, _, rfl, rfl, r10.2.cq hW⟩
      | exact ⟨_, _, rfl, rfl, r11.2.cq hW⟩
      | exact ⟨_, _, rfl, rfl, r12.2.cq hW⟩
      | exact ⟨_, _, rfl, rfl, r13.2.cq hW⟩
      | exact ⟨_, _, rfl, rfl, r14.2.cq hW⟩
      | exact ⟨_, _, rfl, rfl, r15.2.cq hW⟩
      | exact ⟨_, _, rfl, rfl, r16.2.cq hW⟩
      | exact ⟨_, _, rfl, rfl, r17.2.cq hW⟩
      | exact ⟨_, _, rfl, rfl, r18.2.cq hW⟩
      | exact ⟨_, _, rfl, rfl, r19.2.cq hW⟩
  · obtain ⟨p, hp, rfl⟩ := in_k hnp (by omega) (bI_ne0 h1)
    refine x_iload_n hm rfl rfl ?_
    refine x_iconst hm rfl (v := nI 0) (by decide) ?_
    refine x_bipush hm rfl (v := nI 7) (by decide) ?_
    refine x_callS hm rfl rfl (t6) ?_
    refine x_if_ne hm rfl (t := 28) rfl (fun h3 => ?_) (fun h3 => ?_)
    · obtain ⟨w, hw, rfl⟩ := le_k (by omega) (bI_ne0 h3)
      refine x_iload_n hm rfl rfl ?_
      refine x_bipush hm rfl (v := nI 7) (by decide) ?_
      refine x_icmp_ne hm rfl (t := 45) rfl (fun h4 => ?_) (fun h4 => ?_)
      · have hw6 : w ≠ 7 := fun e => h4 (by rw [e])
        refine x_aload_n hm rfl rfl ?_
        refine x_getf hm rfl (gR rfl rfl) ?_
        refine x_getf hm rfl (gR rfl rfl) ?_
        refine x_iload_n hm rfl rfl ?_
        refine x_aald hm rfl (lQ 3 (Or.inr (Or.inl rfl)) (tF (b := 1) (by decide)) (tFk (by omega)) (by omega) (by decide)) ?_
        refine x_iload_n hm rfl rfl ?_
        refine x_iald hm rfl (lI (tRowF (b := 1) (by decide) (by omega)) (by omega) (by decide)) ?_
        refine x_iret hm rfl rfl (by first | rfl | exact bI_nar | decide) ?_
        first
          | exact ⟨_, _, rfl, rfl, Cq.rf hW⟩
          | exact ⟨_, _, rfl, rfl, r1.2.cq hW⟩
          | exact ⟨_, _, rfl, rfl, r2.2.cq hW⟩
          | exact ⟨_, _, rfl, rfl, r3.2.cq hW⟩
          | exact ⟨_, _, rfl, rfl, r4.2.cq hW⟩
          | exact ⟨_, _, rfl, rfl, r5.2.cq hW⟩
          | exact ⟨_, _, rfl, rfl, r6.2.cq hW⟩
          | exact ⟨_, _, rfl, rfl, r7.2.cq hW⟩
          | exact ⟨_, _, rfl, rfl, r8.2.cq hW⟩
          | exact ⟨_, _, rfl, rfl, r9.2.cq hW⟩
          | exact ⟨_, _, rfl, rfl, r10.2.cq hW⟩
          | exact ⟨_, _, rfl, rfl, r11.2.cq hW⟩
          | exact ⟨_, _, rfl, rfl, r12.2.cq hW⟩
          | exact ⟨_, _, rfl, rfl, r13.2.cq hW⟩
          | exact ⟨_, _, rfl, rfl, r14.2.cq hW⟩
          | exact ⟨_, _, rfl, rfl, r15.2.cq hW⟩
          | exact ⟨_, _, rfl, rfl, r16.2.cq hW⟩
          | exact ⟨_, _, rfl, rfl, r17.2.cq hW⟩
          | exact ⟨_, _, rfl, rfl, r18.2.cq hW⟩
          | exact ⟨_, _, rfl, rfl, r19.2.cq hW⟩
      · refine x_aload_n hm rfl rfl ?_
        refine x_getf hm rfl (gR rfl rfl) ?_
        refine x_iload_n hm rfl rfl ?_
        refine x_cVe hm rfl rfl (t25 (by decide) hW) (fun v5 r5 => ?_)
        refine x_goto hm rfl (t := 56) rfl ?_
        refine x_iret hm rfl rfl (by first | rfl | exact bI_nar | decide) ?_
        first
          | exact ⟨_, _, rfl, rfl, r5.2.cq hW⟩
          | exact ⟨_, _, rfl, rfl, Cq.rf hW⟩
          | exact ⟨_, _, rfl, rfl, r1.2.cq hW⟩
          | exact ⟨_, _, rfl, rfl, r2.2.cq hW⟩
          | exact ⟨_, _, rfl, rfl, r3.2.cq hW⟩
          | exact ⟨_, _, rfl, rfl, r4.2.cq hW⟩
          | exact ⟨_, _, rfl, rfl, r6.2.cq hW⟩
          | exact ⟨_, _, rfl, rfl, r7.2.cq hW⟩
          | exact ⟨_, _, rfl, rfl, r8.2.cq hW⟩
          | exact ⟨_, _, rfl, rfl, r9.2.cq hW⟩
          | exact ⟨_, _, rfl, rfl, r10.2.cq hW⟩
          | exact ⟨_, _, rfl, rfl, r11.2.cq hW⟩
          | exact ⟨_, _, rfl, rfl, r12.2.cq hW⟩
          | exact ⟨_, _, rfl, rfl, r13.2.cq hW⟩
          | exact ⟨_, _, rfl, rfl, r14.2.cq hW⟩
          | exact ⟨_, _, rfl, rfl, r15.2.cq hW⟩
          | exact ⟨_, _, rfl, rfl, r16.2.cq hW⟩
          | exact ⟨_, _, rfl, rfl, r17.2.cq hW⟩
          | exact ⟨_, _, rfl, rfl, r18.2.cq hW⟩
          | exact ⟨_, _, rfl, rfl, r19.2.cq hW⟩
    · refine x_aload_n hm rfl rfl ?_
      refine x_ldcI hm rfl (v := (-1000001 : Int32)) (by decide +kernel) ?_
      refine x_cVi hm rfl rfl (t7 (by decide +kernel)) (fun v6 M6 r6 => ?_)
      refine x_iret hm rfl rfl (by first | rfl | exact bI_nar | decide) ?_
      first
        | exact ⟨_, _, rfl, rfl, r6.2.cq hW⟩
        | exact ⟨_, _, rfl, rfl, Cq.rf hW⟩
        | exact ⟨_, _, rfl, rfl, r1.2.cq hW⟩
        | exact ⟨_, _, rfl, rfl, r2.2.cq hW⟩
        | exact ⟨_, _, rfl, rfl, r3.2.cq hW⟩
        | exact ⟨_, _, rfl, rfl, r4.2.cq hW⟩
        | exact ⟨_, _, rfl, rfl, r5.2.cq hW⟩
        | exact ⟨_, _, rfl, rfl, r7.2.cq hW⟩
        | exact ⟨_, _, rfl, rfl, r8.2.cq hW⟩
        | exact ⟨_, _, rfl, rfl, r9.2.cq hW⟩
        | exact ⟨_, _, rfl, rfl, r10.2.cq hW⟩
        | exact ⟨_, _, rfl, rfl, r11.2.cq hW⟩
        | exact ⟨_, _, rfl, rfl, r12.2.cq hW⟩
        | exact ⟨_, _, rfl, rfl, r13.2.cq hW⟩
        | exact ⟨_, _, rfl, rfl, r14.2.cq hW⟩
        | exact ⟨_, _, rfl, rfl, r15.2.cq hW⟩
        | exact ⟨_, _, rfl, rfl, r16.2.cq hW⟩
        | exact ⟨_, _, rfl, rfl, r17.2.cq hW⟩
        | exact ⟨_, _, rfl, rfl, r18.2.cq hW⟩
        | exact ⟨_, _, rfl, rfl, r19.2.cq hW⟩
theorem t27 {a1 a2 : Int32} : ∃ v, mT X 27 [.int a1, .int a2] (con M) (some (.int v)) (con M) ∧ (v = nI 0 ∨ ∃ f, f < 7 ∧ a1 = nI f) := by
  refine te_of (row := _) rfl (Nat.le_of_ble_eq_true rfl) ?_
  have hm : mMet 27 = some _ := rfl
  refine x_iload_n hm rfl rfl ?_
  refine x_ts hm rfl (fun h1 => ⟨44, rfl, ?_⟩) (fun i1 h1 g1 => ?_)
  · refine x_iload_n hm rfl rfl ?_
    refine x_iconst hm rfl (v := nI 3) (by decide) ?_
    refine x_bipush hm rfl (v := nI 6) (by decide) ?_
    refine x_callS hm rfl rfl (t6) ?_
    refine x_if_eq hm rfl (t := 68) rfl (fun h2 => ?_) (fun h2 => ?_)
    · refine x_iconst hm rfl (v := nI 0) (by decide) ?_
      refine x_iret hm rfl rfl (by first | rfl | exact bI_nar | decide) ?_
      exact ⟨_, rfl, rfl, by first | exact Or.inl rfl | exact Or.inr ⟨f, by omega, hf⟩⟩
    · obtain ⟨f, hf6, hf⟩ := bt_k (by decide) (by decide) (bI_ne0 h2)
      refine x_iload_n hm rfl rfl ?_
      refine x_iconst hm rfl (v := nI 0) (by decide) ?_
      refine x_bipush hm rfl (v := nI 9) (by decide) ?_
      refine x_callS hm rfl rfl (t6) ?_
      refine x_if_eq hm rfl (t := 68) rfl (fun h3 => ?_) (fun h3 => ?_)
      · refine x_iconst hm rfl (v := nI 0) (by decide) ?_
        refine x_iret hm rfl rfl (by first | rfl | exact bI_nar | decide) ?_
        exact ⟨_, rfl, rfl, by first | exact Or.inl rfl | exact Or.inr ⟨f, by omega, hf⟩⟩
      · refine x_iconst hm rfl (v := nI 1) (by decide) ?_
        refine x_goto hm rfl (t := 69) rfl ?_
        refine x_iret hm rfl rfl (by first | rfl | exact bI_nar | decide) ?_
        exact ⟨_, rfl, rfl, by first | exact Or.inl rfl | exact Or.inr ⟨f, by omega, hf⟩⟩
  · have k1 : i1 = 0 ∨ i1 = 1 ∨ i1 = 2 := by omega
    rcases k1 with rfl | rfl | rfl
    · refine ⟨_, 28, rfl, rfl, ?_⟩
      refine x_iload_n hm rfl rfl ?_
      refine x_iconst hm rfl (v := nI 0) (by decide) ?_
      refine x_bipush hm rfl (v := nI 6) (by decide) ?_
      refine x_callS hm rfl rfl (t6) ?_
      refine x_iret hm rfl rfl (by first | rfl | exact bI_nar | decide) ?_
      exact ⟨_, rfl, rfl, Or.inr ⟨0, by decide, tn h1 (by decide)⟩⟩
    · refine ⟨_, 36, rfl, rfl, ?_⟩
      refine x_iload_n hm rfl rfl ?_
      refine x_iconst hm rfl (v := nI 0) (by decide) ?_
      refine x_bipush hm rfl (v := nI 15) (by decide) ?_
      refine x_callS hm rfl rfl (t6) ?_
      refine x_iret hm rfl rfl (by first | rfl | exact bI_nar | decide) ?_
      exact ⟨_, rfl, rfl, Or.inr (by first | exact ⟨1, by decide, tn h1 (by decide)⟩ | exact ⟨2, by decide, tn h1 (by decide)⟩)⟩
    · refine ⟨_, 36, rfl, rfl, ?_⟩
      refine x_iload_n hm rfl rfl ?_
      refine x_iconst hm rfl (v := nI 0) (by decide) ?_
      refine x_bipush hm rfl (v := nI 15) (by decide) ?_
      refine x_callS hm rfl rfl (t6) ?_
      refine x_iret hm rfl rfl (by first | rfl | exact bI_nar | decide) ?_
      exact ⟨_, rfl, rfl, Or.inr (by first | exact ⟨1, by decide, tn h1 (by decide)⟩ | exact ⟨2, by decide, tn h1 (by decide)⟩)⟩
theorem change_tw {f t : Nat} {v : Int32} (hf : f < 7) : Tw 1 M (mput M (1 + 9 + f) t v) := by
  rw [Nat.add_assoc]
  refine Tw.row (b := 1) (j := 9 + f) (Or.inl rfl) (by omega) (by omega) ?_
  rw [if_neg (by omega), if_neg (by omega)]
  trivial
theorem t26 {a1 a2 a3 : Int32} (hW : Wf M) : ∃ v M', mT X 26 [.ref 0, .int a1, .int a2, .int a3] (con M) (some (.int v)) (con M') ∧ Ck M M' := by
  refine ti_of (row := _) rfl (Nat.le_of_ble_eq_true rfl) ?_
  have hm : mMet 26 = some _ := rfl
  obtain ⟨np, hp8, hnp⟩ := hW.cpn (b := 1) (by decide)
  refine x_aload_n hm rfl rfl ?_
  refine x_getf hm rfl (gR rfl rfl) ?_
  refine x_iload_n hm rfl rfl ?_
  refine x_callV hm rfl rfl (t19 (by decide)) ?_
  refine x_if_eq hm rfl (t := 19) rfl (fun h1 => ?_) (fun h1 => ?_)
  · refine x_aload_n hm rfl rfl ?_
    refine x_ldcI hm rfl (v := (-1000001 : Int32)) (by decide +kernel) ?_
    refine x_cVi hm rfl rfl (t7 (by decide +kernel)) (fun v2 M2 r2 => ?_)
    refine x_iret hm rfl rfl (by first | rfl | exact bI_nar | decide) ?_
    first
      | exact ⟨_, _, rfl, rfl, r2.2.ck hW⟩
      | exact ⟨_, _, rfl, rfl, Ck.rf hW⟩
      | exact ⟨_, _, rfl, rfl, (change_tw hf).ck hW⟩
      | exact ⟨_, _, rfl, rfl, r1.2.ck hW⟩
      | exact ⟨_, _, rfl, rfl, r3.2.ck hW⟩
      | exact ⟨_, _, rfl, rfl, r4.2.ck hW⟩
      | exact ⟨_, _, rfl, rfl, r5.2.ck hW⟩
      | exact ⟨_, _, rfl, rfl, r6.2.ck hW⟩
      | exact ⟨_, _, rfl, rfl, r7.2.ck hW⟩
      | exact ⟨_, _, rfl, rfl, r8.2.ck hW⟩
      | exact ⟨_, _, rfl, rfl, r9.2.ck hW⟩
      | exact ⟨_, _, rfl, rfl, r10.2.ck hW⟩
      | exact ⟨_, _, rfl, rfl, r11.2.ck hW⟩
      | exact ⟨_, _, rfl, rfl, r12.2.ck hW⟩
      | exact ⟨_, _, rfl, rfl, r13.2.ck hW⟩
      | exact ⟨_, _, rfl, rfl, r14.2.ck hW⟩
      | exact ⟨_, _, rfl, rfl, r15.2.ck hW⟩
      | exact ⟨_, _, rfl, rfl, r16.2.ck hW⟩
      | exact ⟨_, _, rfl, rfl, r17.2.ck hW⟩
      | exact ⟨_, _, rfl, rfl, r18.2.ck hW⟩
      | exact ⟨_, _, rfl, rfl, r19.2.ck hW⟩
  · obtain ⟨p, hp, rfl⟩ := in_k hnp (by omega) (bI_ne0 h1)
    refine x_iload_n hm rfl rfl ?_
    refine x_iload_n hm rfl rfl ?_
    refine x_cSe hm rfl rfl (t27) (fun v3 r3 => ?_)
    refine x_if_ne hm rfl (t := 26) rfl (fun h4 => ?_) (fun h4 => ?_)
    · first
        | obtain ⟨f, hf, rfl⟩ := r3.resolve_left (fun e => by subst e; exact h4 rfl)
        | obtain ⟨f, hf, rfl⟩ := r1.resolve_left (fun e => by subst e; exact h4 rfl)
        | obtain ⟨f, hf, rfl⟩ := r2.resolve_left (fun e => by subst e; exact h4 rfl)
        | obtain ⟨f, hf, rfl⟩ := r4.resolve_left (fun e => by subst e; exact h4 rfl)
        | obtain ⟨f, hf, rfl⟩ := r5.resolve_left (fun e => by subst e; exact h4 rfl)
        | obtain ⟨f, hf, rfl⟩ := r6.resolve_left (fun e => by subst e; exact h4 rfl)
        | obtain ⟨f, hf, rfl⟩ := r7.resolve_left (fun e => by subst e; exact h4 rfl)
      refine x_aload_n hm rfl rfl ?_
      refine x_getf hm rfl (gR rfl rfl) ?_
      refine x_getf hm rfl (gR rfl rfl) ?_
      refine x_iload_n hm rfl rfl ?_
      refine x_aald hm rfl (lQ 3 (Or.inr (Or.inl rfl)) (tF (b := 1) (by decide)) (tFk (by omega)) (by omega) (by decide)) ?_
      refine x_iload_n hm rfl rfl ?_
      refine x_iald hm rfl (lI (tRowF (b := 1) (by decide) (by omega)) (by omega) (by decide)) ?_
      refine x_istore hm rfl rfl ?_
      refine x_aload_n hm rfl rfl ?_
      refine x_getf hm rfl (gR rfl rfl) ?_
      refine x_getf hm rfl (gR rfl rfl) ?_
      refine x_iload_n hm rfl rfl ?_
      refine x_aald hm rfl (lQ 3 (Or.inr (Or.inl rfl)) (tF (b := 1) (by decide)) (tFk (by omega)) (by omega) (by decide)) ?_
      refine x_iload_n hm rfl rfl ?_
      refine x_iload_n hm rfl rfl ?_
      refine x_iast hm rfl (sI (tRowF (b := 1) (by decide) (by omega)) (by omega) (by decide)) ?_
      refine x_iload hm rfl rfl ?_
      refine x_iret hm rfl rfl (by first | rfl | exact bI_nar | decide) ?_
      first
        | exact ⟨_, _, rfl, rfl, r3.2.ck hW⟩
        | exact ⟨_, _, rfl, rfl, Ck.rf hW⟩
        | exact ⟨_, _, rfl, rfl, (change_tw hf).ck hW⟩
        | exact ⟨_, _, rfl, rfl, r1.2.ck hW⟩
        | exact ⟨_, _, rfl, rfl, r2.2.ck hW⟩
        | exact ⟨_, _, rfl, rfl, r4.2.ck hW⟩
        | exact ⟨_, _, rfl, rfl, r5.2.ck hW⟩
        | exact ⟨_, _, rfl, rfl, r6.2.ck hW⟩
        | exact ⟨_, _, rfl, rfl, r7.2.ck hW⟩
        | exact ⟨_, _, rfl, rfl, r8.2.ck hW⟩
        | exact ⟨_, _, rfl, rfl, r9.2.ck hW⟩
        | exact ⟨_, _, rfl, rfl, r10.2.ck hW⟩
        | exact ⟨_, _, rfl, rfl, r11.2.ck hW⟩
        | exact ⟨_, _, rfl, rfl, r12.2.ck hW⟩
        | exact ⟨_, _, rfl, rfl, r13.2.ck hW⟩
        | exact ⟨_, _, rfl, rfl, r14.2.ck hW⟩
        | exact ⟨_, _, rfl, rfl, r15.2.ck hW⟩
        | exact ⟨_, _, rfl, rfl, r16.2.ck hW⟩
        | exact ⟨_, _, rfl, rfl, r17.2.ck hW⟩
        | exact ⟨_, _, rfl, rfl, r18.2.ck hW⟩
        | exact ⟨_, _, rfl, rfl, r19.2.ck hW⟩
    · refine x_aload_n hm rfl rfl ?_
      refine x_ldcI hm rfl (v := (-1000001 : Int32)) (by decide +kernel) ?_
      refine x_cVi hm rfl rfl (t7 (by decide +kernel)) (fun v5 M5 r5 => ?_)
      refine x_iret hm rfl rfl (by first | rfl | exact bI_nar | decide) ?_
      first
        | exact ⟨_, _, rfl, rfl, r5.2.ck hW⟩
        | exact ⟨_, _, rfl, rfl, Ck.rf hW⟩
        | exact ⟨_, _, rfl, rfl, (change_tw hf).ck hW⟩
        | exact ⟨_, _, rfl, rfl, r3.2.ck hW⟩
        | exact ⟨_, _, rfl, rfl, r1.2.ck hW⟩
        | exact ⟨_, _, rfl, rfl, r2.2.ck hW⟩
        | exact ⟨_, _, rfl, rfl, r4.2.ck hW⟩
        | exact ⟨_, _, rfl, rfl, r6.2.ck hW⟩
        | exact ⟨_, _, rfl, rfl, r7.2.ck hW⟩
        | exact ⟨_, _, rfl, rfl, r8.2.ck hW⟩
        | exact ⟨_, _, rfl, rfl, r9.2.ck hW⟩
        | exact ⟨_, _, rfl, rfl, r10.2.ck hW⟩
        | exact ⟨_, _, rfl, rfl, r11.2.ck hW⟩
        | exact ⟨_, _, rfl, rfl, r12.2.ck hW⟩
        | exact ⟨_, _, rfl, rfl, r13.2.ck hW⟩
        | exact ⟨_, _, rfl, rfl, r14.2.ck hW⟩
        | exact ⟨_, _, rfl, rfl, r15.2.ck hW⟩
        | exact ⟨_, _, rfl, rfl, r16.2.ck hW⟩
        | exact ⟨_, _, rfl, rfl, r17.2.ck hW⟩
        | exact ⟨_, _, rfl, rfl, r18.2.ck hW⟩
        | exact ⟨_, _, rfl, rfl, r19.2.ck hW⟩
theorem t28 {a1 a2 : Int32} (hW : Wf M) : ∃ v M', mT X 28 [.ref 0, .int a1, .int a2] (con M) (some (.int v)) (con M') ∧ Cq M M' := by
  refine ti_of (row := _) rfl (Nat.le_of_ble_eq_true rfl) ?_
  have hm : mMet 28 = some _ := rfl
  obtain ⟨np, hp8, hnp⟩ := hW.cpn (b := 1) (by decide)
  obtain ⟨nt, hn8, hnt⟩ := hW.ct (b := 1) (by decide)
  refine x_aload_n hm rfl rfl ?_
  refine x_getf hm rfl (gR rfl rfl) ?_
  refine x_iload_n hm rfl rfl ?_
  refine x_callV hm rfl rfl (t19 (by decide)) ?_
  refine x_if_eq hm rfl (t := 22) rfl (fun h1 => ?_) (fun h1 => ?_)
  · refine x_aload_n hm rfl rfl ?_
    refine x_ldcI hm rfl (v := (-1000001 : Int32)) (by decide +kernel) ?_
    refine x_cVi hm rfl rfl (t7 (by decide +kernel)) (fun v2 M2 r2 => ?_)
    refine x_iret hm rfl rfl (by first | rfl | exact bI_nar | decide) ?_
    first
      | exact ⟨_, _, rfl, rfl, r2.2.cq hW⟩
      | exact ⟨_, _, rfl, rfl, Cq.rf hW⟩
      | exact ⟨_, _, rfl, rfl, r1.2.cq hW⟩
      | exact ⟨_, _, rfl, rfl, r3.2.cq hW⟩
      | exact ⟨_, _, rfl, rfl, r4.2.cq hW⟩
      | exact ⟨_, _, rfl, rfl, r5.2.cq hW⟩
      | exact ⟨_, _, rfl, rfl, r6.2.cq hW⟩
      | exact ⟨_, _, rfl, rfl, r7.2.cq hW⟩
      | exact ⟨_, _, rfl, rfl, r8.2.cq hW⟩
      | exact ⟨_, _, rfl, rfl, r9.2.cq hW⟩
      | exact ⟨_, _, rfl, rfl, r10.2.cq hW⟩
      | exact ⟨_, _, rfl, rfl, r11.2.cq hW⟩
      | exact ⟨_, _, rfl, rfl, r12.2.cq hW⟩
      | exact ⟨_, _, rfl, rfl, r13.2.cq hW⟩
      | exact ⟨_, _, rfl, rfl, r14.2.cq hW⟩
      | exact ⟨_, _, rfl, rfl, r15.2.cq hW⟩
      | exact ⟨_, _, rfl, rfl, r16.2.cq hW⟩
      | exact ⟨_, _, rfl, rfl, r17.2.cq hW⟩
      | exact ⟨_, _, rfl, rfl, r18.2.cq hW⟩
      | exact ⟨_, _, rfl, rfl, r19.2.cq hW⟩
  · obtain ⟨p, hp, rfl⟩ := in_k hnp (by omega) (bI_ne0 h1)
    refine x_aload_n hm rfl rfl ?_
    refine x_getf hm rfl (gR rfl rfl) ?_
    refine x_iload_n hm rfl rfl ?_
    refine x_callV hm rfl rfl (t10 (by decide)) ?_
    refine x_if_ne hm rfl (t := 29) rfl (fun h3 => ?_) (fun h3 => ?_)
    · obtain ⟨t, ht, rfl⟩ := in_k hnt (by omega) (bI_ne0 h3)
      refine x_aload_n hm rfl rfl ?_
      refine x_getf hm rfl (gR rfl rfl) ?_
      refine x_iload_n hm rfl rfl ?_
      refine x_iload_n hm rfl rfl ?_
      refine x_cVe hm rfl rfl (t12 (by decide) hW (by omega) (by omega)) (fun v4 r4 => ?_)
      refine x_iret hm rfl rfl (by first | rfl | exact bI_nar | decide) ?_
      first
        | exact ⟨_, _, rfl, rfl, r4.2.cq hW⟩
        | exact ⟨_, _, rfl, rfl, Cq.rf hW⟩
        | exact ⟨_, _, rfl, rfl, r1.2.cq hW⟩
        | exact ⟨_, _, rfl, rfl, r2.2.cq hW⟩
        | exact ⟨_, _, rfl, rfl, r3.2.cq hW⟩
        | exact ⟨_, _, rfl, rfl, r5.2.cq hW⟩
        | exact ⟨_, _, rfl, rfl, r6.2.cq hW⟩
        | exact ⟨_, _, rfl, rfl, r7.2.cq hW⟩
        | exact ⟨_, _, rfl, rfl, r8.2.cq hW⟩
        | exact ⟨_, _, rfl, rfl, r9.2.cq hW⟩
        | exact ⟨_, _, rfl, rfl, r10.2.cq hW⟩
        | exact ⟨_, _, rfl, rfl, r11.2.cq hW⟩
        | exact ⟨_, _, rfl, rfl, r12.2.cq hW⟩
        | exact ⟨_, _, rfl, rfl, r13.2.cq hW⟩
        | exact ⟨_, _, rfl, rfl, r14.2.cq hW⟩
        | exact ⟨_, _, rfl, rfl, r15.2.cq hW⟩
        | exact ⟨_, _, rfl, rfl, r16.2.cq hW⟩
        | exact ⟨_, _, rfl, rfl, r17.2.cq hW⟩
        | exact ⟨_, _, rfl, rfl, r18.2.cq hW⟩
        | exact ⟨_, _, rfl, rfl, r19.2.cq hW⟩
    · refine x_aload_n hm rfl rfl ?_
      refine x_ldcI hm rfl (v := (-1000001 : Int32)) (by decide +kernel) ?_
      refine x_cVi hm rfl rfl (t7 (by decide +kernel)) (fun v5 M5 r5 => ?_)
      refine x_iret hm rfl rfl (by first | rfl | exact bI_nar | decide) ?_
      first
        | exact ⟨_, _, rfl, rfl, r5.2.cq hW⟩
        | exact ⟨_, _, rfl, rfl, Cq.rf hW⟩
        | exact ⟨_, _, rfl, rfl, r1.2.cq hW⟩
        | exact ⟨_, _, rfl, rfl, r2.2.cq hW⟩
        | exact ⟨_, _, rfl, rfl, r3.2.cq hW⟩
        | exact ⟨_, _, rfl, rfl, r4.2.cq hW⟩
        | exact ⟨_, _, rfl, rfl, r6.2.cq hW⟩
        | exact ⟨_, _, rfl, rfl, r7.2.cq hW⟩
        | exact ⟨_, _, rfl, rfl, r8.2.cq hW⟩
        | exact ⟨_, _, rfl, rfl, r9.2.cq hW⟩
        | exact ⟨_, _, rfl, rfl, r10.2.cq hW⟩
        | exact ⟨_, _, rfl, rfl, r11.2.cq hW⟩
        | exact ⟨_, _, rfl, rfl, r12.2.cq hW⟩
        | exact ⟨_, _, rfl, rfl, r13.2.cq hW⟩
        | exact ⟨_, _, rfl, rfl, r14.2.cq hW⟩
        | exact ⟨_, _, rfl, rfl, r15.2.cq hW⟩
        | exact ⟨_, _, rfl, rfl, r16.2.cq hW⟩
        | exact ⟨_, _, rfl, rfl, r17.2.cq hW⟩
        | exact ⟨_, _, rfl, rfl, r18.2.cq hW⟩
        | exact ⟨_, _, rfl, rfl, r19.2.cq hW⟩
theorem t29 {a1 : Int32} (hW : Wf M) : ∃ v M', mT X 29 [.ref 0, .int a1] (con M) (some (.int v)) (con M') ∧ Ck M M' := by
  refine ti_of (row := _) rfl (Nat.le_of_ble_eq_true rfl) ?_
  have hm : mMet 29 = some _ := rfl
  refine x_iload_n hm rfl rfl ?_
  refine x_iconst hm rfl (v := nI 1) (by decide) ?_
  refine x_bipush hm rfl (v := nI 60) (by decide) ?_
  refine x_callS hm rfl rfl (t6) ?_
  refine x_if_ne hm rfl (t := 17) rfl (fun h1 => ?_) (fun h1 => ?_)
  · obtain ⟨a, ha, -, rfl⟩ := le1_k (by omega) (bI_ne0 h1)
    refine x_aload_n hm rfl rfl ?_
    refine x_getf hm rfl (gR rfl rfl) ?_
    refine x_getf hm rfl (gI rfl rfl) ?_
    refine x_iload_n hm rfl rfl ?_
    refine x_iadd hm rfl ?_
    refine x_ldcI hm rfl (v := nI 99999) (by decide +kernel) ?_
    refine x_icmp_le hm rfl (t := 38) rfl (fun h2 => ?_) (fun h2 => ?_)
    · refine x_aload_n hm rfl rfl ?_
      refine x_getf hm rfl (gR rfl rfl) ?_
      refine x_iload_n hm rfl rfl ?_
      refine x_cVv hm rfl rfl (t30 (by decide) (by omega) hW) (fun M3 r3 => ?_)
      refine x_aload_n hm rfl rfl ?_
      refine x_getf hm rfl (gR rfl rfl) ?_
      refine x_cVe hm rfl rfl (t35 (by decide) (r3.1 hW)) (fun v4 r4 => ?_)
      refine x_cSe hm rfl rfl (t36) (fun v5 r5 => ?_)
      refine x_iret hm rfl rfl (by first | rfl | exact bI_nar | decide) ?_
      first
        | exact ⟨_, _, rfl, rfl, r5.2.ck hW⟩
        | exact ⟨_, _, rfl, rfl, r5.ck hW⟩
        | exact ⟨_, _, rfl, rfl, Ck.rf hW⟩
        | exact ⟨_, _, rfl, rfl, r3.2.ck hW⟩
        | exact ⟨_, _, rfl, rfl, r4.2.ck hW⟩
        | exact ⟨_, _, rfl, rfl, r3.ck hW⟩
        | exact ⟨_, _, rfl, rfl, r4.ck hW⟩
        | exact ⟨_, _, rfl, rfl, r1.2.ck hW⟩
        | exact ⟨_, _, rfl, rfl, r2.2.ck hW⟩
        | exact ⟨_, _, rfl, rfl, r6.2.ck hW⟩
        | exact ⟨_, _, rfl, rfl, r7.2.ck hW⟩
        | exact ⟨_, _, rfl, rfl, r8.2.ck hW⟩
        | exact ⟨_, _, rfl, rfl, r9.2.ck hW⟩
        | exact ⟨_, _, rfl, rfl, r10.2.ck hW⟩
        | exact ⟨_, _, rfl, rfl, r11.2.ck hW⟩
        | exact ⟨_, _, rfl, rfl, r12.2.ck hW⟩
        | exact ⟨_, _, rfl, rfl, r13.2.ck hW⟩
        | exact ⟨_, _, rfl, rfl, r14.2.ck hW⟩
        | exact ⟨_, _, rfl, rfl, r15.2.ck hW⟩
        | exact ⟨_, _, rfl, rfl, r16.2.ck hW⟩
        | exact ⟨_, _, rfl, rfl, r17.2.ck hW⟩
        | exact ⟨_, _, rfl, rfl, r18.2.ck hW⟩
        | exact ⟨_, _, rfl, rfl, r19.2.ck hW⟩
        | exact ⟨_, _, rfl, rfl, r1.ck hW⟩
        | exact ⟨_, _, rfl, rfl, r2.ck hW⟩
        | exact ⟨_, _, rfl, rfl, r6.ck hW⟩
        | exact ⟨_, _, rfl, rfl, r7.ck hW⟩
        | exact ⟨_, _, rfl, rfl, r8.ck hW⟩
        | exact ⟨_, _, rfl, rfl, r9.ck hW⟩
        | exact ⟨_, _, rfl, rfl, r10.ck hW⟩
        | exact ⟨_, _, rfl, rfl, r11.ck hW⟩
    · refine x_aload_n hm rfl rfl ?_
      refine x_ldcI hm rfl (v := (-1000005 : Int32)) (by decide +kernel) ?_
      refine x_cVi hm rfl rfl (t7 (by decide +kernel)) (fun v6 M6 r6 => ?_)
      refine x_iret hm rfl rfl (by first | rfl | exact bI_nar | decide) ?_
      first
        | exact ⟨_, _, rfl, rfl, r6.2.ck hW⟩
        | exact ⟨_, _, rfl, rfl, r6.ck hW⟩
        | exact ⟨_, _, rfl, rfl, Ck.rf hW⟩
        | exact ⟨_, _, rfl, rfl, r1.2.ck hW⟩
        | exact ⟨_, _, rfl, rfl, r2.2.ck hW⟩
        | exact ⟨_, _, rfl, rfl, r3.2.ck hW⟩
        | exact ⟨_, _, rfl, rfl, r4.2.ck hW⟩
        | exact ⟨_, _, rfl, rfl, r5.2.ck hW⟩
        | exact ⟨_, _, rfl, rfl, r7.2.ck hW⟩
        | exact ⟨_, _, rfl, rfl, r8.2.ck hW⟩
        | exact ⟨_, _, rfl, rfl, r9.2.ck hW⟩
        | exact ⟨_, _, rfl, rfl, r10.2.ck hW⟩
        | exact ⟨_, _, rfl, rfl, r11.2.ck hW⟩
        | exact ⟨_, _, rfl, rfl, r12.2.ck hW⟩
        | exact ⟨_, _, rfl, rfl, r13.2.ck hW⟩
        | exact ⟨_, _, rfl, rfl, r14.2.ck hW⟩
        | exact ⟨_, _, rfl, rfl, r15.2.ck hW⟩
        | exact ⟨_, _, rfl, rfl, r16.2.ck hW⟩
        | exact ⟨_, _, rfl, rfl, r17.2.ck hW⟩
        | exact ⟨_, _, rfl, rfl, r18.2.ck hW⟩
        | exact ⟨_, _, rfl, rfl, r19.2.ck hW⟩
        | exact ⟨_, _, rfl, rfl, r1.ck hW⟩
        | exact ⟨_, _, rfl, rfl, r2.ck hW⟩
        | exact ⟨_, _, rfl, rfl, r3.ck hW⟩
        | exact ⟨_, _, rfl, rfl, r4.ck hW⟩
        | exact ⟨_, _, rfl, rfl, r5.ck hW⟩
        | exact ⟨_, _, rfl, rfl, r7.ck hW⟩
        | exact ⟨_, _, rfl, rfl, r8.ck hW⟩
        | exact ⟨_, _, rfl, rfl, r9.ck hW⟩
        | exact ⟨_, _, rfl, rfl, r10.ck hW⟩
        | exact ⟨_, _, rfl, rfl, r11.ck hW⟩
  · refine x_aload_n hm rfl rfl ?_
    refine x_ldcI hm rfl (v := (-1000001 : Int32)) (by decide +kernel) ?_
    refine x_cVi hm rfl rfl (t7 (by decide +kernel)) (fun v7 M7 r7 => ?_)
    refine x_iret hm rfl rfl (by first | rfl | exact bI_nar | decide) ?_
    first
      | exact ⟨_, _, rfl, rfl, r7.2.ck hW⟩
      | exact ⟨_, _, rfl, rfl, r7.ck hW⟩
      | exact ⟨_, _, rfl, rfl, Ck.rf hW⟩
      | exact ⟨_, _, rfl, rfl, r1.2.ck hW⟩
      | exact ⟨_, _, rfl, rfl, r2.2.ck hW⟩
      | exact ⟨_, _, rfl, rfl, r3.2.ck hW⟩
      | exact ⟨_, _, rfl, rfl, r4.2.ck hW⟩
      | exact ⟨_, _, rfl, rfl, r5.2.ck hW⟩
      | exact ⟨_, _, rfl, rfl, r6.2.ck hW⟩
      | exact ⟨_, _, rfl, rfl, r8.2.ck hW⟩
      | exact ⟨_, _, rfl, rfl, r9.2.ck hW⟩
      | exact ⟨_, _, rfl, rfl, r10.2.ck hW⟩
      | exact ⟨_, _, rfl, rfl, r11.2.ck hW⟩
      | exact ⟨_, _, rfl, rfl, r12.2.ck hW⟩
      | exact ⟨_, _, rfl, rfl, r13.2.ck hW⟩
      | exact ⟨_, _, rfl, rfl, r14.2.ck hW⟩
      | exact ⟨_, _, rfl, rfl, r15.2.ck hW⟩
      | exact ⟨_, _, rfl, rfl, r16.2.ck hW⟩
      | exact ⟨_, _, rfl, rfl, r17.2.ck hW⟩
      | exact ⟨_, _, rfl, rfl, r18.2.ck hW⟩
      | exact ⟨_, _, rfl, rfl, r19.2.ck hW⟩
      | exact ⟨_, _, rfl, rfl, r1.ck hW⟩
      | exact ⟨_, _, rfl, rfl, r2.ck hW⟩
      | exact ⟨_, _, rfl, rfl, r3.ck hW⟩
      | exact ⟨_, _, rfl, rfl, r4.ck hW⟩
      | exact ⟨_, _, rfl, rfl, r5.ck hW⟩
      | exact ⟨_, _, rfl, rfl, r6.ck hW⟩
      | exact ⟨_, _, rfl, rfl, r8.ck hW⟩
      | exact ⟨_, _, rfl, rfl, r9.ck hW⟩
      | exact ⟨_, _, rfl, rfl, r10.ck hW⟩
      | exact ⟨_, _, rfl, rfl, r11.ck hW⟩
theorem t37 {a1 : Int32} (hW : Wf M) : ∃ v M', mT X 37 [.ref 0, .int a1] (con M) (some (.int v)) (con M') ∧ Cq M M' := by
  refine ti_of (row := _) rfl (Nat.le_of_ble_eq_true rfl) ?_
  have hm : mMet 37 = some _ := rfl
  refine x_iload_n hm rfl rfl ?_
  refine x_ts hm rfl (fun h1 => ⟨76, rfl, ?_⟩) (fun i1 h1 g1 => ?_)
  · refine x_aload_n hm rfl rfl ?_
    refine x_ldcI hm rfl (v := (-1000001 : Int32)) (by decide +kernel) ?_
    refine x_cVi hm rfl rfl (t7 (by decide +kernel)) (fun v2 M2 r2 => ?_)
    refine x_iret hm rfl rfl (by first | rfl | exact bI_nar | decide) ?_
    first
      | exact ⟨_, _, rfl, rfl, r2.2.cq hW⟩
      | exact ⟨_, _, rfl, rfl, Cq.rf hW⟩
      | exact ⟨_, _, rfl, rfl, r1.2.cq hW⟩
      | exact ⟨_, _, rfl, rfl, r3.2.cq hW⟩
      | exact ⟨_, _, rfl, rfl, r4.2.cq hW⟩
      | exact ⟨_, _, rfl, rfl, r5.2.cq hW⟩
      | exact ⟨_, _, rfl, rfl, r6.2.cq hW⟩
      | exact ⟨_, _, rfl, rfl, r7.2.cq hW⟩
      | exact ⟨_, _, rfl, rfl, r8.2.cq hW⟩
      | exact ⟨_, _, rfl, rfl, r9.2.cq hW⟩
      | exact ⟨_, _, rfl, rfl, r10.2.cq hW⟩
      | exact ⟨_, _, rfl, rfl, r11.2.cq hW⟩
      | exact ⟨_, _, rfl, rfl, r12.2.cq hW⟩
      | exact ⟨_, _, rfl, rfl, r13.2.cq hW⟩
      | exact ⟨_, _, rfl, rfl, r14.2.cq hW⟩
      | exact ⟨_, _, rfl, rfl, r15.2.cq hW⟩
      | exact ⟨_, _, rfl, rfl, r16.2.cq hW⟩
      | exact ⟨_, _, rfl, rfl, r17.2.cq hW⟩
      | exact ⟨_, _, rfl, rfl, r18.2.cq hW⟩
      | exact ⟨_, _, rfl, rfl, r19.2.cq hW⟩
  · have k1 : i1 = 0 ∨ i1 = 1 ∨ i1 = 2 ∨ i1 = 3 ∨ i1 = 4 := by omega
    rcases k1 with rfl | rfl | rfl | rfl | rfl
    · refine ⟨_, 36, rfl, rfl, ?_⟩
      refine x_aload_n hm rfl rfl ?_
      refine x_getf hm rfl (gR rfl rfl) ?_
      refine x_getf hm rfl (gI rfl rfl) ?_
      refine x_iret hm rfl rfl (by first | rfl | exact bI_nar | decide) ?_
      first
        | exact ⟨_, _, rfl, rfl, Cq.rf hW⟩
        | exact ⟨_, _, rfl, rfl, r1.2.cq hW⟩
        | exact ⟨_, _, rfl, rfl, r2.2.cq hW⟩
        | exact ⟨_, _, rfl, rfl, r3.2.cq hW⟩
        | exact ⟨_, _, rfl, rfl, r4.2.cq hW⟩
        | exact ⟨_, _, rfl, rfl, r5.2.cq hW⟩
        | exact ⟨_, _, rfl, rfl, r6.2.cq hW⟩
        | exact ⟨_, _, rfl, rfl, r7.2.cq hW⟩
        | exact ⟨_, _, rfl, rfl, r8.2.cq hW⟩
        | exact ⟨_, _, rfl, rfl, r9.2.cq hW⟩
        | exact ⟨_, _, rfl, rfl, r10.2.cq hW⟩
        | exact ⟨_, _, rfl, rfl, r11.2.cq hW⟩
        | exact ⟨_, _, rfl, rfl, r12.2.cq hW⟩
        | exact ⟨_, _, rfl, rfl, r13.2.cq hW⟩
        | exact ⟨_, _, rfl, rfl, r14.2.cq hW⟩
        | exact ⟨_, _, rfl, rfl, r15.2.cq hW⟩
        | exact ⟨_, _, rfl, rfl, r16.2.cq hW⟩
        | exact ⟨_, _, rfl, rfl, r17.2.cq hW⟩
        | exact ⟨_, _, rfl, rfl, r18.2.cq hW⟩
        | exact ⟨_, _, rfl, rfl, r19.2.cq hW⟩
    · refine ⟨_, 44, rfl, rfl, ?_⟩
      refine x_aload_n hm rfl rfl ?_
      refine x_getf hm rfl (gR rfl rfl) ?_
      refine x_cVe hm rfl rfl (t35 (by decide) hW) (fun v3 r3 => ?_)
      refine x_iret hm rfl rfl (by first | rfl | exact bI_nar | decide) ?_
      first
        | exact ⟨_, _, rfl, rfl, r3.2.cq hW⟩
        | exact ⟨_, _, rfl, rfl, Cq.rf hW⟩
        | exact ⟨_, _, rfl, rfl, r1.2.cq hW⟩
        | exact ⟨_, _, rfl, rfl, r2.2.cq hW⟩
        | exact ⟨_, _, rfl, rfl, r4.2.cq hW⟩
        | exact ⟨_, _, rfl, rfl, r5.2.cq hW⟩
        | exact ⟨_, _, rfl, rfl, r6.2.cq hW⟩
        | exact ⟨_, _, rfl, rfl, r7.2.cq hW⟩
        | exact ⟨_, _, rfl, rfl, r8.2.cq hW⟩
        | exact ⟨_, _, rfl, rfl, r9.2.cq hW⟩
        | exact ⟨_, _, rfl, rfl, r10.2.cq hW⟩
        | exact ⟨_, _, rfl, rfl, r11.2.cq hW⟩
        | exact ⟨_, _, rfl, rfl, r12.2.cq hW⟩
        | exact ⟨_, _, rfl, rfl, r13.2.cq hW⟩
        | exact ⟨_, _, rfl, rfl, r14.2.cq hW⟩
        | exact ⟨_, _, rfl, rfl, r15.2.cq hW⟩
        | exact ⟨_, _, rfl, rfl, r16.2.cq hW⟩
        | exact ⟨_, _, rfl, rfl, r17.2.cq hW⟩
        | exact ⟨_, _, rfl, rfl, r18.2.cq hW⟩
        | exact ⟨_, _, rfl, rfl, r19.2.cq hW⟩
    · refine ⟨_, 52, rfl, rfl, ?_⟩
      refine x_aload_n hm rfl rfl ?_
      refine x_getf hm rfl (gR rfl rfl) ?_
      refine x_cVe hm rfl rfl (t38 (by decide) hW) (fun v4 r4 => ?_)
      refine x_iret hm rfl rfl (by first | rfl | exact bI_nar | decide) ?_
      first
        | exact ⟨_, _, rfl, rfl, r4.2.cq hW⟩
        | exact ⟨_, _, rfl, rfl, Cq.rf hW⟩
        | exact ⟨_, _, rfl, rfl, r1.2.cq hW⟩
        | exact ⟨_, _, rfl, rfl, r2.2.cq hW⟩
        | exact ⟨_, _, rfl, rfl, r3.2.cq hW⟩
        | exact ⟨_, _, rfl, rfl, r5.2.cq hW⟩
        | exact ⟨_, _, rfl, rfl, r6.2.cq hW⟩
        | exact ⟨_, _, rfl, rfl, r7.2.cq hW⟩
        | exact ⟨_, _, rfl, rfl, r8.2.cq hW⟩
        | exact ⟨_, _, rfl, rfl, r9.2.cq hW⟩
        | exact ⟨_, _, rfl, rfl, r10.2.cq hW⟩
        | exact ⟨_, _, rfl, rfl, r11.2.cq hW⟩
        | exact ⟨_, _, rfl, rfl, r12.2.cq hW⟩
        | exact ⟨_, _, rfl, rfl, r13.2.cq hW⟩
        | exact ⟨_, _, rfl, rfl, r14.2.cq hW⟩
        | exact ⟨_, _, rfl, rfl, r15.2.cq hW⟩
        | exact ⟨_, _, rfl, rfl, r16.2.cq hW⟩
        | exact ⟨_, _, rfl, rfl, r17.2.cq hW⟩
        | exact ⟨_, _, rfl, rfl, r18.2.cq hW⟩
        | exact ⟨_, _, rfl, rfl, r19.2.cq hW⟩
    · refine ⟨_, 60, rfl, rfl, ?_⟩
      refine x_aload_n hm rfl rfl ?_
      refine x_getf hm rfl (gR rfl rfl) ?_
      refine x_cVe hm rfl rfl (t39 (by decide) hW) (fun v5 r5 => ?_)
      refine x_iret hm rfl rfl (by first | rfl | exact bI_nar | decide) ?_
      first
        | exact ⟨_, _, rfl, rfl, r5.2.cq hW⟩
        | exact ⟨_, _, rfl, rfl, Cq.rf hW⟩
        | exact ⟨_, _, rfl, rfl, r1.2.cq hW⟩
        | exact ⟨_, _, rfl, rfl, r2.2.cq hW⟩
        | exact ⟨_, _, rfl, rfl, r3.2.cq hW⟩
        | exact ⟨_, _, rfl, rfl, r4.2.cq hW⟩
        | exact ⟨_, _, rfl, rfl, r6.2.cq hW⟩
        | exact ⟨_, _, rfl, rfl, r7.2.cq hW⟩
        | exact ⟨_, _, rfl, rfl, r8.2.cq hW⟩
        | exact ⟨_, _, rfl, rfl, r9.2.cq hW⟩
        | exact ⟨_, _, rfl, rfl, r10.2.cq hW⟩
        | exact ⟨_, _, rfl, rfl, r11.2.cq hW⟩
        | exact ⟨_, _, rfl, rfl, r12.2.cq hW⟩
        | exact ⟨_, _, rfl, rfl, r13.2.cq hW⟩
        | exact ⟨_, _, rfl, rfl, r14.2.cq hW⟩
        | exact ⟨_, _, rfl, rfl, r15.2.cq hW⟩
        | exact ⟨_, _, rfl, rfl, r16.2.cq hW⟩
        | exact ⟨_, _, rfl, rfl, r17.2.cq hW⟩
        | exact ⟨_, _, rfl, rfl, r18.2.cq hW⟩
        | exact ⟨_, _, rfl, rfl, r19.2.cq hW⟩
    · refine ⟨_, 68, rfl, rfl, ?_⟩
      refine x_aload_n hm rfl rfl ?_
      refine x_getf hm rfl (gR rfl rfl) ?_
      refine x_cVe hm rfl rfl (t40 (by decide) hW) (fun v6 r6 => ?_)
      refine x_iret hm rfl rfl (by first | rfl | exact bI_nar | decide) ?_
      first
        | exact ⟨_, _, rfl, rfl, r6.2.cq hW⟩
        | exact ⟨_, _, rfl, rfl, Cq.rf hW⟩
        | exact ⟨_, _, rfl, rfl, r1.2.cq hW⟩
        | exact ⟨_, _, rfl, rfl, r2.2.cq hW⟩
        | exact ⟨_, _, rfl, rfl, r3.2.cq hW⟩
        | exact ⟨_, _, rfl, rfl, r4.2.cq hW⟩
        | exact ⟨_, _, rfl, rfl, r5.2.cq hW⟩
        | exact ⟨_, _, rfl, rfl, r7.2.cq hW⟩
        | exact ⟨_, _, rfl, rfl, r8.2.cq hW⟩
        | exact ⟨_, _, rfl, rfl, r9.2.cq hW⟩
        | exact ⟨_, _, rfl, rfl, r10.2.cq hW⟩
        | exact ⟨_, _, rfl, rfl, r11.2.cq hW⟩
        | exact ⟨_, _, rfl, rfl, r12.2.cq hW⟩
        | exact ⟨_, _, rfl, rfl, r13.2.cq hW⟩
        | exact ⟨_, _, rfl, rfl, r14.2.cq hW⟩
        | exact ⟨_, _, rfl, rfl, r15.2.cq hW⟩
        | exact ⟨_, _, rfl, rfl, r16.2.cq hW⟩
        | exact ⟨_, _, rfl, rfl, r17.2.cq hW⟩
        | exact ⟨_, _, rfl, rfl, r18.2.cq hW⟩
        | exact ⟨_, _, rfl, rfl, r19.2.cq hW⟩
theorem t42 (hW : Wf M) : ∃ M', mT X 42 [.ref 0] (con M) none (con M') ∧ Bq 35 M M' := by
  refine tv_of (row := _) rfl (Nat.le_of_ble_eq_true rfl) ?_
  have hm : mMet 42 = some _ := rfl
  refine x_aload_n hm rfl rfl ?_
  refine x_getf hm rfl (gR rfl rfl) ?_
  refine x_aload_n hm rfl rfl ?_
  refine x_getf hm rfl (gR rfl rfl) ?_
  refine x_cVv hm rfl rfl (t43 (by decide) (by decide) (by decide) hW) (fun M1 r1 => ?_)
  refine x_ret hm rfl rfl ?_
  exact ⟨_, rfl, rfl, r1⟩
theorem t41 {a1 a2 : Int32} (hW : Wf M) : ∃ v M', mT X 41 [.ref 0, .int a1, .int a2] (con M) (some (.int v)) (con M') ∧ Cq M M' := by
  refine ti_of (row := _) rfl (Nat.le_of_ble_eq_true rfl) ?_
  have hm : mMet 41 = some _ := rfl
  obtain ⟨nt, hn8, hnt⟩ := hW.ct (b := 1) (by decide)
  refine x_aload_n hm rfl rfl ?_
  refine x_getf hm rfl (gR rfl rfl) ?_
  refine x_iload_n hm rfl rfl ?_
  refine x_callV hm rfl rfl (t10 (by decide)) ?_
  refine x_if_eq hm rfl (t := 21) rfl (fun h1 => ?_) (fun h1 => ?_)
  · refine x_aload_n hm rfl rfl ?_
    refine x_ldcI hm rfl (v := (-1000001 : Int32)) (by decide +kernel) ?_
    refine x_cVi hm rfl rfl (t7 (by decide +kernel)) (fun v2 M2 r2 => ?_)
    refine x_iret hm rfl rfl (by first | rfl | exact bI_nar | decide) ?_
    first
      | exact ⟨_, _, rfl, rfl, r2.2.cq hW⟩
      | exact ⟨_, _, rfl, rfl, Cq.rf hW⟩
      | exact ⟨_, _, rfl, rfl, (r1.trans r2.bq).cq hW⟩
      | exact ⟨_, _, rfl, rfl, (r2.trans r3.bq).cq hW⟩
      | exact ⟨_, _, rfl, rfl, (r3.trans r4.bq).cq hW⟩
      | exact ⟨_, _, rfl, rfl, (r4.trans r5.bq).cq hW⟩
      | exact ⟨_, _, rfl, rfl, (r5.trans r6.bq).cq hW⟩
      | exact ⟨_, _, rfl, rfl, (r6.trans r7.bq).cq hW⟩
      | exact ⟨_, _, rfl, rfl, (r7.trans r8.bq).cq hW⟩
      | exact ⟨_, _, rfl, rfl, r1.2.cq hW⟩
      | exact ⟨_, _, rfl, rfl, r3.2.cq hW⟩
      | exact ⟨_, _, rfl, rfl, r4.2.cq hW⟩
      | exact ⟨_, _, rfl, rfl, r5.2.cq hW⟩
      | exact ⟨_, _, rfl, rfl, r6.2.cq hW⟩
      | exact ⟨_, _, rfl, rfl, r7.2.cq hW⟩
      | exact ⟨_, _, rfl, rfl, r8.2.cq hW⟩
      | exact ⟨_, _, rfl, rfl, r9.2.cq hW⟩
      | exact ⟨_, _, rfl, rfl, r10.2.cq hW⟩
      | exact ⟨_, _, rfl, rfl, r11.2.cq hW⟩
      | exact ⟨_, _, rfl, rfl, r12.2.cq hW⟩
      | exact ⟨_, _, rfl, rfl, r13.2.cq hW⟩
      | exact ⟨_, _, rfl, rfl, r14.2.cq hW⟩
      | exact ⟨_, _, rfl, rfl, r15.2.cq hW⟩
      | exact ⟨_, _, rfl, rfl, r16.2.cq hW⟩
      | exact ⟨_, _, rfl, rfl, r17.2.cq hW⟩
      | exact ⟨_, _, rfl, rfl, r18.2.cq hW⟩
      | exact ⟨_, _, rfl, rfl, r19.2.cq hW⟩
  · obtain ⟨t, ht, rfl⟩ := in_k hnt (by omega) (bI_ne0 h1)
    refine x_iload_n hm rfl rfl ?_
    refine x_iconst hm rfl (v := nI 0) (by decide) ?_
    refine x_bipush hm rfl (v := nI 100) (by decide) ?_
    refine x_callS hm rfl rfl (t6) ?_
    refine x_if_ne hm rfl (t := 28) rfl (fun h3 => ?_) (fun h3 => ?_)
    · obtain ⟨a, ha, rfl⟩ := le_k (by omega) (bI_ne0 h3)
      refine x_aload_n hm rfl rfl ?_
      refine x_cVv hm rfl rfl (t42 hW) (fun M4 r4 => ?_)
      refine x_aload_n hm rfl rfl ?_
      refine x_getf hm rfl (gR rfl rfl) ?_
      refine x_iload_n hm rfl rfl ?_
      refine x_cVv hm rfl rfl (t30 (by decide) (by omega) (r4.1 hW)) (fun M5 r5 => ?_)
      refine x_aload_n hm rfl rfl ?_
      refine x_getf hm rfl (gR rfl rfl) ?_
      refine x_getf hm rfl (gR rfl rfl) ?_
      refine x_iconst hm rfl (v := nI 2) (by decide) ?_
      refine x_aald hm rfl (lQ _ (by decide) rfl rfl (by omega) (by decide)) ?_
      refine x_iload_n hm rfl rfl ?_
      refine x_iald hm rfl (lI rfl (by omega) (by decide)) ?_
      refine x_iret hm rfl rfl (by first | rfl | exact bI_nar | decide) ?_
      first
        | exact ⟨_, _, rfl, rfl, (r4.trans r5.bq).cq hW⟩
        | exact ⟨_, _, rfl, rfl, r5.2.cq hW⟩
        | exact ⟨_, _, rfl, rfl, Cq.rf hW⟩
        | exact ⟨_, _, rfl, rfl, r4.2.cq hW⟩
        | exact ⟨_, _, rfl, rfl, (r1.trans r2.bq).cq hW⟩
        | exact ⟨_, _, rfl, rfl, (r2.trans r3.bq).cq hW⟩
        | exact ⟨_, _, rfl, rfl, (r3.trans r4.bq).cq hW⟩
        | exact ⟨_, _, rfl, rfl, (r5.trans r6.bq).cq hW⟩
        | exact ⟨_, _, rfl, rfl, (r6.trans r7.bq).cq hW⟩
        | exact ⟨_, _, rfl, rfl, (r7.trans r8.bq).cq hW⟩
        | exact ⟨_, _, rfl, rfl, r1.2.cq hW⟩
        | exact ⟨_, _, rfl, rfl, r2.2.cq hW⟩
        | exact ⟨_, _, rfl, rfl, r3.2.cq hW⟩
        | exact ⟨_, _, rfl, rfl, r6.2.cq hW⟩
        | exact ⟨_, _, rfl, rfl, r7.2.cq hW⟩
        | exact ⟨_, _, rfl, rfl, r8.2.cq hW⟩
        | exact ⟨_, _, rfl, rfl, r9.2.cq hW⟩
        | exact ⟨_, _, rfl, rfl, r10.2.cq hW⟩
        | exact ⟨_, _, rfl, rfl, r11.2.cq hW⟩
        | exact ⟨_, _, rfl, rfl, r12.2.cq hW⟩
        | exact ⟨_, _, rfl, rfl, r13.2.cq hW⟩
        | exact ⟨_, _, rfl, rfl, r14.2.cq hW⟩
        | exact ⟨_, _, rfl, rfl, r15.2.cq hW⟩
        | exact ⟨_, _, rfl, rfl, r16.2.cq hW⟩
        | exact ⟨_, _, rfl, rfl, r17.2.cq hW⟩
        | exact ⟨_, _, rfl, rfl, r18.2.cq hW⟩
        | exact ⟨_, _, rfl, rfl, r19.2.cq hW⟩
    · refine x_aload_n hm rfl rfl ?_
      refine x_ldcI hm rfl (v := (-1000001 : Int32)) (by decide +kernel) ?_
      refine x_cVi hm rfl rfl (t7 (by decide +kernel)) (fun v6 M6 r6 => ?_)
      refine x_iret hm rfl rfl (by first | rfl | exact bI_nar | decide) ?_
      first
        | exact ⟨_, _, rfl, rfl, r6.2.cq hW⟩
        | exact ⟨_, _, rfl, rfl, Cq.rf hW⟩
        | exact ⟨_, _, rfl, rfl, (r1.trans r2.bq).cq hW⟩
        | exact ⟨_, _, rfl, rfl, (r2.trans r3.bq).cq hW⟩
        | exact ⟨_, _, rfl, rfl, (r3.trans r4.bq).cq hW⟩
        | exact ⟨_, _, rfl, rfl, (r4.trans r5.bq).cq hW⟩
        | exact ⟨_, _, rfl, rfl, (r5.trans r6.bq).cq hW⟩
        | exact ⟨_, _, rfl, rfl, (r6.trans r7.bq).cq hW⟩
        | exact ⟨_, _, rfl, rfl, (r7.trans r8.bq).cq hW⟩
        | exact ⟨_, _, rfl, rfl, r1.2.cq hW⟩
        | exact ⟨_, _, rfl, rfl, r2.2.cq hW⟩
        | exact ⟨_, _, rfl, rfl, r3.2.cq hW⟩
        | exact ⟨_, _, rfl, rfl, r4.2.cq hW⟩
        | exact ⟨_, _, rfl, rfl, r5.2.cq hW⟩
        | exact ⟨_, _, rfl, rfl, r7.2.cq hW⟩
        | exact ⟨_, _, rfl, rfl, r8.2.cq hW⟩
        | exact ⟨_, _, rfl, rfl, r9.2.cq hW⟩
        | exact ⟨_, _, rfl, rfl, r10.2.cq hW⟩
        | exact ⟨_, _, rfl, rfl, r11.2.cq hW⟩
        | exact ⟨_, _, rfl, rfl, r12.2.cq hW⟩
        | exact ⟨_, _, rfl, rfl, r13.2.cq hW⟩
        | exact ⟨_, _, rfl, rfl, r14.2.cq hW⟩
        | exact ⟨_, _, rfl, rfl, r15.2.cq hW⟩
        | exact ⟨_, _, rfl, rfl, r16.2.cq hW⟩
        | exact ⟨_, _, rfl, rfl, r17.2.cq hW⟩
        | exact ⟨_, _, rfl, rfl, r18.2.cq hW⟩
        | exact ⟨_, _, rfl, rfl, r19.2.cq hW⟩
end CD
end
section
/-! ===== the class: trials, deals ===== -/
section CE
variable {X : mSc} {Q : Option Value → mHp → Prop} {M : mM} {b : Nat}
theorem iron_tw {f t : Nat} {v : Int32} (hb : b = 1 ∨ b = 18 ∨ b = 35) (hf : f < 6) (hv : okx (if f = 0 then 3 else if f = 4 ∨ f = 5 then 2 else 0) v) : Tw b M (mput M (b + 2 + f) t v) := by
  rw [Nat.add_assoc]
  refine Tw.row hb (j := 2 + f) (by omega) (by omega) ?_
  rcases (by omega : f = 0 ∨ f = 4 ∨ f = 5 ∨ (f ≠ 0 ∧ f ≠ 4 ∧ f ≠ 5)) with rfl | rfl | rfl | ⟨h1, h2, h3⟩
  · exact hv
  · exact hv
  · exact hv
  · rw [if_neg (by omega), if_neg (by omega)]
    trivial
theorem folk_tw {f t : Nat} {v : Int32} (hb : b = 1 ∨ b = 18 ∨ b = 35) (hf : f < 7) : Tw b M (mput M (b + 9 + f) t v) := by
  rw [Nat.add_assoc]
  refine Tw.row hb (j := 9 + f) (by omega) (by omega) ?_
  rw [if_neg (by omega), if_neg (by omega)]
  trivial
theorem l49 {p f c a : Nat} (hW : Wf M) (hp : p < 8) (hf : f < 7) (hc : c ≤ 1000) (ha : a ≤ 1000) : ∀ (n k : Nat) (s g : Int32) (x8 : Option Value) (M1 : mM), c - k < n → k ≤ c → Bq 35 M M1 → mEv X (QI (fun _ M' => Bq 35 M M')) 49 9 [some (.ref 0), some (.int (nI p)), some (.int (nI f)), some (.int (nI c)), some (.int (nI a)), some (.int s), some (.int g), some (.int (nI k)), x8] [] (con M1) := by
  have hm : mMet 49 = some _ := rfl
  intro n
  induction n with
  | zero =>
    intro k s g x8 M1 hkn hkb hT
    omega
  | succ n ih =>
    intro k s g x8 M1 hkn hkb hT
    refine x_iload hm rfl rfl ?_
    refine x_iload_n hm rfl rfl ?_
    refine x_icmp_ge hm rfl (t := 71) rfl (fun h1 => ?_) (fun h1 => ?_)
    · refine x_iload hm rfl rfl ?_
      refine x_iret hm rfl rfl (by first | rfl | exact bI_nar | decide) ?_
      exact ⟨_, _, rfl, rfl, hT⟩
    · have hk : k < c := Nat.lt_of_not_le fun h => h1 (nI_le h (by omega))
      refine x_aload_n hm rfl rfl ?_
      refine x_cVv hm rfl rfl (t42 (hT.1 hW)) (fun M2 r2 => ?_)
      refine x_aload_n hm rfl rfl ?_
      refine x_getf hm rfl (gR rfl rfl) ?_
      refine x_getf hm rfl (gR rfl rfl) ?_
      refine x_iload_n hm rfl rfl ?_
      refine x_aald (v := .ref (35 + 9 + f)) hm rfl ?_ ?_
      · exact lQ 3 (Or.inr (Or.inl rfl)) (tF (b := 35) (by decide)) (tFk (by omega)) (by omega) (by decide)
      refine x_iload_n hm rfl rfl ?_
      refine x_iload hm rfl rfl ?_
      refine x_iast hm rfl (sI (tRowF (b := 35) (by decide) (by omega)) (by omega) (by decide)) ?_
      have hT2 := (hT.trans r2).trans (folk_tw (M := M2) (t := p) (v := nI k) (Or.inr (Or.inr rfl)) hf).bq
      refine x_aload_n hm rfl rfl ?_
      refine x_getf hm rfl (gR rfl rfl) ?_
      refine x_iload hm rfl rfl ?_
      refine x_cVv hm rfl rfl (t30 (by decide) ha (hT2.1 hW)) (fun M3 r3 => ?_)
      refine x_aload_n hm rfl rfl ?_
      refine x_getf hm rfl (gR rfl rfl) ?_
      refine x_cVe hm rfl rfl (t38 (by decide) (r3.1 (hT2.1 hW))) (fun v4 r4 => ?_)
      refine x_istore hm rfl rfl ?_
      refine x_iload hm rfl rfl ?_
      refine x_iload hm rfl rfl ?_
      refine x_icmp_le hm rfl (t := 65) rfl (fun h5 => ?_) (fun h5 => ?_)
      · refine x_iinc hm rfl rfl (v := nI 1) (by decide) rfl ?_
        rw [jI_add]
        refine x_goto hm rfl (t := 9) rfl ?_
        first
          | exact ih _ _ _ _ _ (by omega) (by omega) (hT2.trans r4.bq)
          | exact ih _ _ _ _ _ (by omega) (by omega) (hT2.trans r3.bq)
      · refine x_iload hm rfl rfl ?_
        refine x_istore hm rfl rfl ?_
        refine x_iload hm rfl rfl ?_
        refine x_istore hm rfl rfl ?_
        refine x_iinc hm rfl rfl (v := nI 1) (by decide) rfl ?_
        rw [jI_add]
        refine x_goto hm rfl (t := 9) rfl ?_
        first
          | exact ih _ _ _ _ _ (by omega) (by omega) (hT2.trans r4.bq)
          | exact ih _ _ _ _ _ (by omega) (by omega) (hT2.trans r3.bq)
theorem t49 {p f c a : Nat} (hW : Wf M) (hp : p < 8) (hf : f < 7) (hc : c ≤ 1000) (ha : a ≤ 1000) : ∃ v M', mT X 49 [.ref 0, .int (nI p), .int (nI f), .int (nI c), .int (nI a)] (con M) (some (.int v)) (con M') ∧ Bq 35 M M' := by
  refine ti_of (row := _) rfl (Nat.le_of_ble_eq_true rfl) ?_
  have hm : mMet 49 = some _ := rfl
  refine x_iconst hm rfl (v := nI 0) (by decide) ?_
  refine x_istore hm rfl rfl ?_
  refine x_iconst hm rfl (v := (-1 : Int32)) (by decide) ?_
  refine x_istore hm rfl rfl ?_
  refine x_iconst hm rfl (v := nI 0) (by decide) ?_
  refine x_istore hm rfl rfl ?_
  exact l49 hW hp hf hc ha _ 0 _ _ _ _ (Nat.lt_succ_self _) (Nat.zero_le _) Bq.rf
theorem l52 {p f c a : Nat} (hW : Wf M) (hp : p < 8) (hf : f < 6) (hc : c ≤ 1000) (ha : a ≤ 1000) (hok : ∀ k, k < c → okx (if f = 0 then 3 else if f = 4 ∨ f = 5 then 2 else 0) (nI k)) : ∀ (n k : Nat) (s g : Int32) (x8 : Option Value) (M1 : mM), c - k < n → k ≤ c → Bq 35 M M1 → mEv X (QI (fun _ M' => Bq 35 M M')) 52 9 [some (.ref 0), some (.int (nI p)), some (.int (nI f)), some (.int (nI c)), some (.int (nI a)), some (.int s), some (.int g), some (.int (nI k)), x8] [] (con M1) := by
  have hm : mMet 52 = some _ := rfl
  intro n
  induction n with
  | zero =>
    intro k s g x8 M1 hkn hkb hT
    omega
  | succ n ih =>
    intro k s g x8 M1 hkn hkb hT
    refine x_iload hm rfl rfl ?_
    refine x_iload_n hm rfl rfl ?_
    refine x_icmp_ge hm rfl (t := 75) rfl (fun h1 => ?_) (fun h1 => ?_)
    · refine x_iload hm rfl rfl ?_
      refine x_iret hm rfl rfl (by first | rfl | exact bI_nar | decide) ?_
      exact ⟨_, _, rfl, rfl, hT⟩
    · have hk : k < c := Nat.lt_of_not_le fun h => h1 (nI_le h (by omega))
      refine x_aload_n hm rfl rfl ?_
      refine x_cVv hm rfl rfl (t42 (hT.1 hW)) (fun M2 r2 => ?_)
      refine x_aload_n hm rfl rfl ?_
      refine x_getf hm rfl (gR rfl rfl) ?_
      refine x_getf hm rfl (gR rfl rfl) ?_
      refine x_iload_n hm rfl rfl ?_
      refine x_aald (v := .ref (35 + 2 + f)) hm rfl ?_ ?_
      · exact lQ 3 (Or.inr (Or.inl rfl)) (tI (b := 35) (by decide)) (tIk (by omega)) (by omega) (by decide)
      refine x_iload_n hm rfl rfl ?_
      refine x_iload hm rfl rfl ?_
      refine x_iast hm rfl (sI (tRowI (b := 35) (by decide) (by omega)) (by omega) (by decide)) ?_
      have hT2 := (hT.trans r2).trans (iron_tw (M := M2) (t := p) (v := nI k) (Or.inr (Or.inr rfl)) hf (hok k hk)).bq
      refine x_aload_n hm rfl rfl ?_
      refine x_getf hm rfl (gR rfl rfl) ?_
      refine x_iload hm rfl rfl ?_
      refine x_cVv hm rfl rfl (t30 (by decide) ha (hT2.1 hW)) (fun M3 r3 => ?_)
      refine x_aload_n hm rfl rfl ?_
      refine x_getf hm rfl (gR rfl rfl) ?_
      refine x_getf hm rfl (gR rfl rfl) ?_
      refine x_iconst hm rfl (v := nI 2) (by decide) ?_
      refine x_aald hm rfl (lQ _ (by decide) rfl rfl (by omega) (by decide)) ?_
      refine x_iload_n hm rfl rfl ?_
      refine x_iald hm rfl (lI rfl (by omega) (by decide)) ?_
      refine x_istore hm rfl rfl ?_
      refine x_iload hm rfl rfl ?_
      refine x_iload hm rfl rfl ?_
      refine x_icmp_le hm rfl (t := 69) rfl (fun h4 => ?_) (fun h4 => ?_)
      · refine x_iinc hm rfl rfl (v := nI 1) (by decide) rfl ?_
        rw [jI_add]
        refine x_goto hm rfl (t := 9) rfl ?_
        first
          | exact ih _ _ _ _ _ (by omega) (by omega) (hT2.trans r3.bq)
          | exact ih _ _ _ _ _ (by omega) (by omega) (hT2.trans r4.bq)
      · refine x_iload hm rfl rfl ?_
        refine x_istore hm rfl rfl ?_
        refine x_iload hm rfl rfl ?_
        refine x_istore hm rfl rfl ?_
        refine x_iinc hm rfl rfl (v := nI 1) (by decide) rfl ?_
        rw [jI_add]
        refine x_goto hm rfl (t := 9) rfl ?_
        first
          | exact ih _ _ _ _ _ (by omega) (by omega) (hT2.trans r3.bq)
          | exact ih _ _ _ _ _ (by omega) (by omega) (hT2.trans r4.bq)
theorem t52 {p f c a : Nat} (hW : Wf M) (hp : p < 8) (hf : f < 6) (hc : c ≤ 1000) (ha : a ≤ 1000) (hok : ∀ k, k < c → okx (if f = 0 then 3 else if f = 4 ∨ f = 5 then 2 else 0) (nI k)) : ∃ v M', mT X 52 [.ref 0, .int (nI p), .int (nI f), .int (nI c), .int (nI a)] (con M) (some (.int v)) (con M') ∧ Bq 35 M M' := by
  refine ti_of (row := _) rfl (Nat.le_of_ble_eq_true rfl) ?_
  have hm : mMet 52 = some _ := rfl
  refine x_iconst hm rfl (v := nI 0) (by decide) ?_
  refine x_istore hm rfl rfl ?_
  refine x_iconst hm rfl (v := (-1 : Int32)) (by decide) ?_
  refine x_istore hm rfl rfl ?_
  refine x_iconst hm rfl (v := nI 0) (by decide) ?_
  refine x_istore hm rfl rfl ?_
  exact l52 hW hp hf hc ha hok _ 0 _ _ _ _ (Nat.lt_succ_self _) (Nat.zero_le _) Bq.rf
theorem t48 {a1 a2 : Int32} (hW : Wf M) : ∃ v M', mT X 48 [.ref 0, .int a1, .int a2] (con M) (some (.int v)) (con M') ∧ Cq M M' := by
  refine ti_of (row := _) rfl (Nat.le_of_ble_eq_true rfl) ?_
  have hm : mMet 48 = some _ := rfl
  obtain ⟨np, hp8, hnp⟩ := hW.cpn (b := 1) (by decide)
  refine x_aload_n hm rfl rfl ?_
  refine x_getf hm rfl (gR rfl rfl) ?_
  refine x_iload_n hm rfl rfl ?_
  refine x_callV hm rfl rfl (t19 (by decide)) ?_
  refine x_if_eq hm rfl (t := 21) rfl (fun h1 => ?_) (fun h1 => ?_)
  · refine x_aload_n hm rfl rfl ?_
    refine x_ldcI hm rfl (v := (-1000001 : Int32)) (by decide +kernel) ?_
    refine x_cVi hm rfl rfl (t7 (by decide +kernel)) (fun v2 M2 r2 => ?_)
    refine x_iret hm rfl rfl (by first | rfl | exact bI_nar | decide) ?_
    first
      | exact ⟨_, _, rfl, rfl, r2.2.cq hW⟩
      | exact ⟨_, _, rfl, rfl, r2.cq hW⟩
      | exact ⟨_, _, rfl, rfl, Cq.rf hW⟩
      | exact ⟨_, _, rfl, rfl, r1.2.cq hW⟩
      | exact ⟨_, _, rfl, rfl, r3.2.cq hW⟩
      | exact ⟨_, _, rfl, rfl, r4.2.cq hW⟩
      | exact ⟨_, _, rfl, rfl, r5.2.cq hW⟩
      | exact ⟨_, _, rfl, rfl, r6.2.cq hW⟩
      | exact ⟨_, _, rfl, rfl, r7.2.cq hW⟩
      | exact ⟨_, _, rfl, rfl, r8.2.cq hW⟩
      | exact ⟨_, _, rfl, rfl, r9.2.cq hW⟩
      | exact ⟨_, _, rfl, rfl, r10.2.cq hW⟩
      | exact ⟨_, _, rfl, rfl, r11.2.cq hW⟩
      | exact ⟨_, _, rfl, rfl, r12.2.cq hW⟩
      | exact ⟨_, _, rfl, rfl, r13.2.cq hW⟩
      | exact ⟨_, _, rfl, rfl, r14.2.cq hW⟩
      | exact ⟨_, _, rfl, rfl, r15.2.cq hW⟩
      | exact ⟨_, _, rfl, rfl, r16.2.cq hW⟩
      | exact ⟨_, _, rfl, rfl, r17.2.cq hW⟩
      | exact ⟨_, _, rfl, rfl, r18.2.cq hW⟩
      | exact ⟨_, _, rfl, rfl, r19.2.cq hW⟩
      | exact ⟨_, _, rfl, rfl, r1.cq hW⟩
      | exact ⟨_, _, rfl, rfl, r3.cq hW⟩
      | exact ⟨_, _, rfl, rfl, r4.cq hW⟩
      | exact ⟨_, _, rfl, rfl, r5.cq hW⟩
      | exact ⟨_, _, rfl, rfl, r6.cq hW⟩
      | exact ⟨_, _, rfl, rfl, r7.cq hW⟩
      | exact ⟨_, _, rfl, rfl, r8.cq hW⟩
      | exact ⟨_, _, rfl, rfl, r9.cq hW⟩
      | exact ⟨_, _, rfl, rfl, r10.cq hW⟩
      | exact ⟨_, _, rfl, rfl, r11.cq hW⟩
  · obtain ⟨p, hp, rfl⟩ := in_k hnp (by omega) (bI_ne0 h1)
    refine x_iload_n hm rfl rfl ?_
    refine x_iconst hm rfl (v := nI 0) (by decide) ?_
    refine x_bipush hm rfl (v := nI 60) (by decide) ?_
    refine x_callS hm rfl rfl (t6) ?_
    refine x_if_ne hm rfl (t := 28) rfl (fun h3 => ?_) (fun h3 => ?_)
    · obtain ⟨a, ha, rfl⟩ := le_k (by omega) (bI_ne0 h3)
      refine x_aload_n hm rfl rfl ?_
      refine x_iload_n hm rfl rfl ?_
      refine x_iconst hm rfl (v := nI 0) (by decide) ?_
      refine x_bipush hm rfl (v := nI 7) (by decide) ?_
      refine x_iload_n hm rfl rfl ?_
      refine x_cVi hm rfl rfl (t49 hW (by omega) (by omega) (by omega) (by omega)) (fun v4 M4 r4 => ?_)
      refine x_iret hm rfl rfl (by first | rfl | exact bI_nar | decide) ?_
      first
        | exact ⟨_, _, rfl, rfl, r4.2.cq hW⟩
        | exact ⟨_, _, rfl, rfl, r4.cq hW⟩
        | exact ⟨_, _, rfl, rfl, Cq.rf hW⟩
        | exact ⟨_, _, rfl, rfl, r1.2.cq hW⟩
        | exact ⟨_, _, rfl, rfl, r2.2.cq hW⟩
        | exact ⟨_, _, rfl, rfl, r3.2.cq hW⟩
        | exact ⟨_, _, rfl, rfl, r5.2.cq hW⟩
        | exact ⟨_, _, rfl, rfl, r6.2.cq hW⟩
        | exact ⟨_, _, rfl, rfl, r7.2.cq hW⟩
        | exact ⟨_, _, rfl, rfl, r8.2.cq hW⟩
        | exact ⟨_, _, rfl, rfl, r9.2.cq hW⟩
        | exact ⟨_, _, rfl, rfl, r10.2.cq hW⟩
        | exact ⟨_, _, rfl, rfl, r11.2.cq hW⟩
        | exact ⟨_, _, rfl, rfl, r12.2.cq hW⟩
        | exact ⟨_, _, rfl, rfl, r13.2.cq hW⟩
        | exact ⟨_, _, rfl, rfl, r14.2.cq hW⟩
        | exact ⟨_, _, rfl, rfl, r15.2.cq hW⟩
        | exact ⟨_, _, rfl, rfl, r16.2.cq hW⟩
        | exact ⟨_, _, rfl, rfl, r17.2.cq hW⟩
        | exact ⟨_, _, rfl, rfl, r18.2.cq hW⟩
        | exact ⟨_, _, rfl, rfl, r19.2.cq hW⟩
        | exact ⟨_, _, rfl, rfl, r1.cq hW⟩
        | exact ⟨_, _, rfl, rfl, r2.cq hW⟩
        | exact ⟨_, _, rfl, rfl, r3.cq hW⟩
        | exact ⟨_, _, rfl, rfl, r5.cq hW⟩
        | exact ⟨_, _, rfl, rfl, r6.cq hW⟩
        | exact ⟨_, _, rfl, rfl, r7.cq hW⟩
        | exact ⟨_, _, rfl, rfl, r8.cq hW⟩
        | exact ⟨_, _, rfl, rfl, r9.cq hW⟩
        | exact ⟨_, _, rfl, rfl, r10.cq hW⟩
        | exact ⟨_, _, rfl, rfl, r11.cq hW⟩
    · refine x_aload_n hm rfl rfl ?_
      refine x_ldcI hm rfl (v := (-1000001 : Int32)) (by decide +kernel) ?_
      refine x_cVi hm rfl rfl (t7 (by decide +kernel)) (fun v5 M5 r5 => ?_)
      refine x_iret hm rfl rfl (by first | rfl | exact bI_nar | decide) ?_
      first
        | exact ⟨_, _, rfl, rfl, r5.2.cq hW⟩
        | exact ⟨_, _, rfl, rfl, r5.cq hW⟩
        | exact ⟨_, _, rfl, rfl, Cq.rf hW⟩
        | exact ⟨_, _, rfl, rfl, r1.2.cq hW⟩
        | exact ⟨_, _, rfl, rfl, r2.2.cq hW⟩
        | exact ⟨_, _, rfl, rfl, r3.2.cq hW⟩
        | exact ⟨_, _, rfl, rfl, r4.2.cq hW⟩
        | exact ⟨_, _, rfl, rfl, r6.2.cq hW⟩
        | exact ⟨_, _, rfl, rfl, r7.2.cq hW⟩
        | exact ⟨_, _, rfl, rfl, r8.2.cq hW⟩
        | exact ⟨_, _, rfl, rfl, r9.2.cq hW⟩
        | exact ⟨_, _, rfl, rfl, r10.2.cq hW⟩
        | exact ⟨_, _, rfl, rfl, r11.2.cq hW⟩
        | exact ⟨_, _, rfl, rfl, r12.2.cq hW⟩
        | exact ⟨_, _, rfl, rfl, r13.2.cq hW⟩
        | exact ⟨_, _, rfl, rfl, r14.2.cq hW⟩
        | exact ⟨_, _, rfl, rfl, r15.2.cq hW⟩
        | exact ⟨_, _, rfl, rfl, r16.2.cq hW⟩
        | exact ⟨_, _, rfl, rfl, r17.2.cq hW⟩
        | exact ⟨_, _, rfl, rfl, r18.2.cq hW⟩
        | exact ⟨_, _, rfl, rfl, r19.2.cq hW⟩
        | exact ⟨_, _, rfl, rfl, r1.cq hW⟩
        | exact ⟨_, _, rfl, rfl, r2.cq hW⟩
        | exact ⟨_, _, rfl, rfl, r3.cq hW⟩
        | exact ⟨_, _, rfl, rfl, r4.cq hW⟩
        | exact ⟨_, _, rfl, rfl, r6.cq hW⟩
        | exact ⟨_, _, rfl, rfl, r7.cq hW⟩
        | exact ⟨_, _, rfl, rfl, r8.cq hW⟩
        | exact ⟨_, _, rfl, rfl, r9.cq hW⟩
        | exact ⟨_, _, rfl, rfl, r10.cq hW⟩
        | exact ⟨_, _, rfl, rfl, r11.cq hW⟩
theorem t50 {a1 a2 : Int32} (hW : Wf M) : ∃ v M', mT X 50 [.ref 0, .int a1, .int a2] (con M) (some (.int v)) (con M') ∧ Cq M M' := by
  refine ti_of (row := _) rfl (Nat.le_of_ble_eq_true rfl) ?_
  have hm : mMet 50 = some _ := rfl
  obtain ⟨np, hp8, hnp⟩ := hW.cpn (b := 1) (by decide)
  refine x_aload_n hm rfl rfl ?_
  refine x_getf hm rfl (gR rfl rfl) ?_
  refine x_iload_n hm rfl rfl ?_
  refine x_callV hm rfl rfl (t19 (by decide)) ?_
  refine x_if_eq hm rfl (t := 21) rfl (fun h1 => ?_) (fun h1 => ?_)
  · refine x_aload_n hm rfl rfl ?_
    refine x_ldcI hm rfl (v := (-1000001 : Int32)) (by decide +kernel) ?_
    refine x_cVi hm rfl rfl (t7 (by decide +kernel)) (fun v2 M2 r2 => ?_)
    refine x_iret hm rfl rfl (by first | rfl | exact bI_nar | decide) ?_
    first
      | exact ⟨_, _, rfl, rfl, r2.2.cq hW⟩
      | exact ⟨_, _, rfl, rfl, r2.cq hW⟩
      | exact ⟨_, _, rfl, rfl, Cq.rf hW⟩
      | exact ⟨_, _, rfl, rfl, r1.2.cq hW⟩
      | exact ⟨_, _, rfl, rfl, r3.2.cq hW⟩
      | exact ⟨_, _, rfl, rfl, r4.2.cq hW⟩
      | exact ⟨_, _, rfl, rfl, r5.2.cq hW⟩
      | exact ⟨_, _, rfl, rfl, r6.2.cq hW⟩
      | exact ⟨_, _, rfl, rfl, r7.2.cq hW⟩
      | exact ⟨_, _, rfl, rfl, r8.2.cq hW⟩
      | exact ⟨_, _, rfl, rfl, r9.2.cq hW⟩
      | exact ⟨_, _, rfl, rfl, r10.2.cq hW⟩
      | exact ⟨_, _, rfl, rfl, r11.2.cq hW⟩
      | exact ⟨_, _, rfl, rfl, r12.2.cq hW⟩
      | exact ⟨_, _, rfl, rfl, r13.2.cq hW⟩
      | exact ⟨_, _, rfl, rfl, r14.2.cq hW⟩
      | exact ⟨_, _, rfl, rfl, r15.2.cq hW⟩
      | exact ⟨_, _, rfl, rfl, r16.2.cq hW⟩
      | exact ⟨_, _, rfl, rfl, r17.2.cq hW⟩
      | exact ⟨_, _, rfl, rfl, r18.2.cq hW⟩
      | exact ⟨_, _, rfl, rfl, r19.2.cq hW⟩
      | exact ⟨_, _, rfl, rfl, r1.cq hW⟩
      | exact ⟨_, _, rfl, rfl, r3.cq hW⟩
      | exact ⟨_, _, rfl, rfl, r4.cq hW⟩
      | exact ⟨_, _, rfl, rfl, r5.cq hW⟩
      | exact ⟨_, _, rfl, rfl, r6.cq hW⟩
      | exact ⟨_, _, rfl, rfl, r7.cq hW⟩
      | exact ⟨_, _, rfl, rfl, r8.cq hW⟩
      | exact ⟨_, _, rfl, rfl, r9.cq hW⟩
      | exact ⟨_, _, rfl, rfl, r10.cq hW⟩
      | exact ⟨_, _, rfl, rfl, r11.cq hW⟩
  · obtain ⟨p, hp, rfl⟩ := in_k hnp (by omega) (bI_ne0 h1)
    refine x_iload_n hm rfl rfl ?_
    refine x_iconst hm rfl (v := nI 0) (by decide) ?_
    refine x_bipush hm rfl (v := nI 60) (by decide) ?_
    refine x_callS hm rfl rfl (t6) ?_
    refine x_if_ne hm rfl (t := 28) rfl (fun h3 => ?_) (fun h3 => ?_)
    · obtain ⟨a, ha, rfl⟩ := le_k (by omega) (bI_ne0 h3)
      refine x_aload_n hm rfl rfl ?_
      refine x_iload_n hm rfl rfl ?_
      refine x_iconst hm rfl (v := nI 2) (by decide) ?_
      refine x_bipush hm rfl (v := nI 16) (by decide) ?_
      refine x_iload_n hm rfl rfl ?_
      refine x_cVi hm rfl rfl (t49 hW (by omega) (by omega) (by omega) (by omega)) (fun v4 M4 r4 => ?_)
      refine x_iret hm rfl rfl (by first | rfl | exact bI_nar | decide) ?_
      first
        | exact ⟨_, _, rfl, rfl, r4.2.cq hW⟩
        | exact ⟨_, _, rfl, rfl, r4.cq hW⟩
        | exact ⟨_, _, rfl, rfl, Cq.rf hW⟩
        | exact ⟨_, _, rfl, rfl, r1.2.cq hW⟩
        | exact ⟨_, _, rfl, rfl, r2.2.cq hW⟩
        | exact ⟨_, _, rfl, rfl, r3.2.cq hW⟩
        | exact ⟨_, _, rfl, rfl, r5.2.cq hW⟩
        | exact ⟨_, _, rfl, rfl, r6.2.cq hW⟩
        | exact ⟨_, _, rfl, rfl, r7.2.cq hW⟩
        | exact ⟨_, _, rfl, rfl, r8.2.cq hW⟩
        | exact ⟨_, _, rfl, rfl, r9.2.cq hW⟩
        | exact ⟨_, _, rfl, rfl, r10.2.cq hW⟩
        | exact ⟨_, _, rfl, rfl, r11.2.cq hW⟩
        | exact ⟨_, _, rfl, rfl, r12.2.cq hW⟩
        | exact ⟨_, _, rfl, rfl, r13.2.cq hW⟩
        | exact ⟨_, _, rfl, rfl, r14.2.cq hW⟩
        | exact ⟨_, _, rfl, rfl, r15.2.cq hW⟩
        | exact ⟨_, _, rfl, rfl, r16.2.cq hW⟩
        | exact ⟨_, _, rfl, rfl, r17.2.cq hW⟩
        | exact ⟨_, _, rfl, rfl, r18.2.cq hW⟩
        | exact ⟨_, _, rfl, rfl, r19.2.cq hW⟩
        | exact ⟨_, _, rfl, rfl, r1.cq hW⟩
        | exact ⟨_, _, rfl, rfl, r2.cq hW⟩
        | exact ⟨_, _, rfl, rfl, r3.cq hW⟩
        | exact ⟨_, _, rfl, rfl, r5.cq hW⟩
        | exact ⟨_, _, rfl, rfl, r6.cq hW⟩
        | exact ⟨_, _, rfl, rfl, r7.cq hW⟩
        | exact ⟨_, _, rfl, rfl, r8.cq hW⟩
        | exact ⟨_, _, rfl, rfl, r9.cq hW⟩
        | exact ⟨_, _, rfl, rfl, r10.cq hW⟩
        | exact ⟨_, _, rfl, rfl, r11.cq hW⟩
    · refine x_aload_n hm rfl rfl ?_
      refine x_ldcI hm rfl (v := (-1000001 : Int32)) (by decide +kernel) ?_
      refine x_cVi hm rfl rfl (t7 (by decide +kernel)) (fun v5 M5 r5 => ?_)
      refine x_iret hm rfl rfl (by first | rfl | exact bI_nar | decide) ?_
      first
        | exact ⟨_, _, rfl, rfl, r5.2.cq hW⟩
        | exact ⟨_, _, rfl, rfl, r5.cq hW⟩
        | exact ⟨_, _, rfl, rfl, Cq.rf hW⟩
        | exact ⟨_, _, rfl, rfl, r1.2.cq hW⟩
        | exact ⟨_, _, rfl, rfl, r2.2.cq hW⟩
        | exact ⟨_, _, rfl, rfl, r3.2.cq hW⟩
        | exact ⟨_, _, rfl, rfl, r4.2.cq hW⟩
        | exact ⟨_, _, rfl, rfl, r6.2.cq hW⟩
        | exact ⟨_, _, rfl, rfl, r7.2.cq hW⟩
        | exact ⟨_, _, rfl, rfl, r8.2.cq hW⟩
        | exact ⟨_, _, rfl, rfl, r9.2.cq hW⟩
        | exact ⟨_, _, rfl, rfl, r10.2.cq hW⟩
        | exact ⟨_, _, rfl, rfl, r11.2.cq hW⟩
        | exact ⟨_, _, rfl, rfl, r12.2.cq hW⟩
        | exact ⟨_, _, rfl, rfl, r13.2.cq hW⟩
        | exact ⟨_, _, rfl, rfl, r14.2.cq hW⟩
        | exact ⟨_, _, rfl, rfl, r15.2.cq hW⟩
        | exact ⟨_, _, rfl, rfl, r16.2.cq hW⟩
        | exact ⟨_, _, rfl, rfl, r17.2.cq hW⟩
        | exact ⟨_, _, rfl, rfl, r18.2.cq hW⟩
        | exact ⟨_, _, rfl, rfl, r19.2.cq hW⟩
        | exact ⟨_, _, rfl, rfl, r1.cq hW⟩
        | exact ⟨_, _, rfl, rfl, r2.cq hW⟩
        | exact ⟨_, _, rfl, rfl, r3.cq hW⟩
        | exact ⟨_, _, rfl, rfl, r4.cq hW⟩
        | exact ⟨_, _, rfl, rfl, r6.cq hW⟩
        | exact ⟨_, _, rfl, rfl, r7.cq hW⟩
        | exact ⟨_, _, rfl, rfl, r8.cq hW⟩
        | exact ⟨_, _, rfl, rfl, r9.cq hW⟩
        | exact ⟨_, _, rfl, rfl, r10.cq hW⟩
        | exact ⟨_, _, rfl, rfl, r11.cq hW⟩
theorem t51 {a1 a2 : Int32} (hW : Wf M) : ∃ v M', mT X 51 [.ref 0, .int a1, .int a2] (con M) (some (.int v)) (con M') ∧ Cq M M' := by
  refine ti_of (row := _) rfl (Nat.le_of_ble_eq_true rfl) ?_
  have hm : mMet 51 = some _ := rfl
  obtain ⟨nt, hn8, hnt⟩ := hW.ct (b := 1) (by decide)
  refine x_aload_n hm rfl rfl ?_
  refine x_getf hm rfl (gR rfl rfl) ?_
  refine x_iload_n hm rfl rfl ?_
  refine x_callV hm rfl rfl (t10 (by decide)) ?_
  refine x_if_eq hm rfl (t := 21) rfl (fun h1 => ?_) (fun h1 => ?_)
  · refine x_aload_n hm rfl rfl ?_
    refine x_ldcI hm rfl (v := (-1000001 : Int32)) (by decide +kernel) ?_
    refine x_cVi hm rfl rfl (t7 (by decide +kernel)) (fun v2 M2 r2 => ?_)
    refine x_iret hm rfl rfl (by first | rfl | exact bI_nar | decide) ?_
    first
      | exact ⟨_, _, rfl, rfl, r2.2.cq hW⟩
      | exact ⟨_, _, rfl, rfl, r2.cq hW⟩
      | exact ⟨_, _, rfl, rfl, Cq.rf hW⟩
      | exact ⟨_, _, rfl, rfl, r1.2.cq hW⟩
      | exact ⟨_, _, rfl, rfl, r3.2.cq hW⟩
      | exact ⟨_, _, rfl, rfl, r4.2.cq hW⟩
      | exact ⟨_, _, rfl, rfl, r5.2.cq hW⟩
      | exact ⟨_, _, rfl, rfl, r6.2.cq hW⟩
      | exact ⟨_, _, rfl, rfl, r7.2.cq hW⟩
      | exact ⟨_, _, rfl, rfl, r8.2.cq hW⟩
      | exact ⟨_, _, rfl, rfl, r9.2.cq hW⟩
      | exact ⟨_, _, rfl, rfl, r10.2.cq hW⟩
      | exact ⟨_, _, rfl, rfl, r11.2.cq hW⟩
      | exact ⟨_, _, rfl, rfl, r12.2.cq hW⟩
      | exact ⟨_, _, rfl, rfl, r13.2.cq hW⟩
      | exact ⟨_, _, rfl, rfl, r14.2.cq hW⟩
      | exact ⟨_, _, rfl, rfl, r15.2.cq hW⟩
      | exact ⟨_, _, rfl, rfl, r16.2.cq hW⟩
      | exact ⟨_, _, rfl, rfl, r17.2.cq hW⟩
      | exact ⟨_, _, rfl, rfl, r18.2.cq hW⟩
      | exact ⟨_, _, rfl, rfl, r19.2.cq hW⟩
      | exact ⟨_, _, rfl, rfl, r1.cq hW⟩
      | exact ⟨_, _, rfl, rfl, r3.cq hW⟩
      | exact ⟨_, _, rfl, rfl, r4.cq hW⟩
      | exact ⟨_, _, rfl, rfl, r5.cq hW⟩
      | exact ⟨_, _, rfl, rfl, r6.cq hW⟩
      | exact ⟨_, _, rfl, rfl, r7.cq hW⟩
      | exact ⟨_, _, rfl, rfl, r8.cq hW⟩
      | exact ⟨_, _, rfl, rfl, r9.cq hW⟩
      | exact ⟨_, _, rfl, rfl, r10.cq hW⟩
      | exact ⟨_, _, rfl, rfl, r11.cq hW⟩
  · obtain ⟨t, ht, rfl⟩ := in_k hnt (by omega) (bI_ne0 h1)
    refine x_iload_n hm rfl rfl ?_
    refine x_iconst hm rfl (v := nI 0) (by decide) ?_
    refine x_bipush hm rfl (v := nI 60) (by decide) ?_
    refine x_callS hm rfl rfl (t6) ?_
    refine x_if_ne hm rfl (t := 28) rfl (fun h3 => ?_) (fun h3 => ?_)
    · obtain ⟨a, ha, rfl⟩ := le_k (by omega) (bI_ne0 h3)
      refine x_aload_n hm rfl rfl ?_
      refine x_iload_n hm rfl rfl ?_
      refine x_iconst hm rfl (v := nI 1) (by decide) ?_
      refine x_bipush hm rfl (v := nI 16) (by decide) ?_
      refine x_iload_n hm rfl rfl ?_
      refine x_cVi hm rfl rfl (t52 hW (by omega) (by omega) (by omega) (by omega) (fun k _ => trivial)) (fun v4 M4 r4 => ?_)
      refine x_iret hm rfl rfl (by first | rfl | exact bI_nar | decide) ?_
      first
        | exact ⟨_, _, rfl, rfl, r4.2.cq hW⟩
        | exact ⟨_, _, rfl, rfl, r4.cq hW⟩
        | exact ⟨_, _, rfl, rfl, Cq.rf hW⟩
        | exact ⟨_, _, rfl, rfl, r1.2.cq hW⟩
        | exact ⟨_, _, rfl, rfl, r2.2.cq hW⟩
        | exact ⟨_, _, rfl, rfl, r3.2.cq hW⟩
        | exact ⟨_, _, rfl, rfl, r5.2.cq hW⟩
        | exact ⟨_, _, rfl, rfl, r6.2.cq hW⟩
        | exact ⟨_, _, rfl, rfl, r7.2.cq hW⟩
        | exact ⟨_, _, rfl, rfl, r8.2.cq hW⟩
        | exact ⟨_, _, rfl, rfl, r9.2.cq hW⟩
        | exact ⟨_, _, rfl, rfl, r10.2.cq hW⟩
        | exact ⟨_, _, rfl, rfl, r11.2.cq hW⟩
        | exact ⟨_, _, rfl, rfl, r12.2.cq hW⟩
        | exact ⟨_, _, rfl, rfl, r13.2.cq hW⟩
        | exact ⟨_, _, rfl, rfl, r14.2.cq hW⟩
        | exact ⟨_, _, rfl, rfl, r15.2.cq hW⟩
        | exact ⟨_, _, rfl, rfl, r16.2.cq hW⟩
        | exact ⟨_, _, rfl, rfl, r17.2.cq hW⟩
        | exact ⟨_, _, rfl, rfl, r18.2.cq hW⟩
        | exact ⟨_, _, rfl, rfl, r19.2.cq hW⟩
        | exact ⟨_, _, rfl, rfl, r1.cq hW⟩
        | exact ⟨_, _, rfl, rfl, r2.cq hW⟩
        | exact ⟨_, _, rfl, rfl, r3.cq hW⟩
        | exact ⟨_, _, rfl, rfl, r5.cq hW⟩
        | exact ⟨_, _, rfl, rfl, r6.cq hW⟩
        | exact ⟨_, _, rfl, rfl, r7.cq hW⟩
        | exact ⟨_, _, rfl, rfl, r8.cq hW⟩
        | exact ⟨_, _, rfl, rfl, r9.cq hW⟩
        | exact ⟨_, _, rfl, rfl, r10.cq hW⟩
        | exact ⟨_, _, rfl, rfl, r11.cq hW⟩
    · refine x_aload_n hm rfl rfl ?_
      refine x_ldcI hm rfl (v := (-1000001 : Int32)) (by decide +kernel) ?_
      refine x_cVi hm rfl rfl (t7 (by decide +kernel)) (fun v5 M5 r5 => ?_)
      refine x_iret hm rfl rfl (by first | rfl | exact bI_nar | decide) ?_
      first
        | exact ⟨_, _, rfl, rfl, r5.2.cq hW⟩
        | exact ⟨_, _, rfl, rfl, r5.cq hW⟩
        | exact ⟨_, _, rfl, rfl, Cq.rf hW⟩
        | exact ⟨_, _, rfl, rfl, r1.2.cq hW⟩
        | exact ⟨_, _, rfl, rfl, r2.2.cq hW⟩
        | exact ⟨_, _, rfl, rfl, r3.2.cq hW⟩
        | exact ⟨_, _, rfl, rfl, r4.2.cq hW⟩
        | exact ⟨_, _, rfl, rfl, r6.2.cq hW⟩
        | exact ⟨_, _, rfl, rfl, r7.2.cq hW⟩
        | exact ⟨_, _, rfl, rfl, r8.2.cq hW⟩
        | exact ⟨_, _, rfl, rfl, r9.2.cq hW⟩
        | exact ⟨_, _, rfl, rfl, r10.2.cq hW⟩
        | exact ⟨_, _, rfl, rfl, r11.2.cq hW⟩
        | exact ⟨_, _, rfl, rfl, r12.2.cq hW⟩
        | exact ⟨_, _, rfl, rfl, r13.2.cq hW⟩
        | exact ⟨_, _, rfl, rfl, r14.2.cq hW⟩
        | exact ⟨_, _, rfl, rfl, r15.2.cq hW⟩
        | exact ⟨_, _, rfl, rfl, r16.2.cq hW⟩
        | exact ⟨_, _, rfl, rfl, r17.2.cq hW⟩
        | exact ⟨_, _, rfl, rfl, r18.2.cq hW⟩
        | exact ⟨_, _, rfl, rfl, r19.2.cq hW⟩
        | exact ⟨_, _, rfl, rfl, r1.cq hW⟩
        | exact ⟨_, _, rfl, rfl, r2.cq hW⟩
        | exact ⟨_, _, rfl, rfl, r3.cq hW⟩
        | exact ⟨_, _, rfl, rfl, r4.cq hW⟩
        | exact ⟨_, _, rfl, rfl, r6.cq hW⟩
        | exact ⟨_, _, rfl, rfl, r7.cq hW⟩
        | exact ⟨_, _, rfl, rfl, r8.cq hW⟩
        | exact ⟨_, _, rfl, rfl, r9.cq hW⟩
        | exact ⟨_, _, rfl, rfl, r10.cq hW⟩
        | exact ⟨_, _, rfl, rfl, r11.cq hW⟩
theorem t53 {a1 a2 : Int32} (hW : Wf M) : ∃ v M', mT X 53 [.ref 0, .int a1, .int a2] (con M) (some (.int v)) (con M') ∧ Cq M M' := by
  refine ti_of (row := _) rfl (Nat.le_of_ble_eq_true rfl) ?_
  have hm : mMet 53 = some _ := rfl
  obtain ⟨nt, hn8, hnt⟩ := hW.ct (b := 1) (by decide)
  obtain ⟨np, hp8, hnp⟩ := hW.cpn (b := 1) (by decide)
  refine x_aload_n hm rfl rfl ?_
  refine x_getf hm rfl (gR rfl rfl) ?_
  refine x_iload_n hm rfl rfl ?_
  refine x_callV hm rfl rfl (t10 (by decide)) ?_
  refine x_if_eq hm rfl (t := 21) rfl (fun h1 => ?_) (fun h1 => ?_)
  · refine x_aload_n hm rfl rfl ?_
    refine x_ldcI hm rfl (v := (-1000001 : Int32)) (by decide +kernel) ?_
    refine x_cVi hm rfl rfl (t7 (by decide +kernel)) (fun v2 M2 r2 => ?_)
    refine x_iret hm rfl rfl (by first | rfl | exact bI_nar | decide) ?_
    first
      | exact ⟨_, _, rfl, rfl, r2.2.cq hW⟩
      | exact ⟨_, _, rfl, rfl, r2.cq hW⟩
      | exact ⟨_, _, rfl, rfl, Cq.rf hW⟩
      | exact ⟨_, _, rfl, rfl, r1.2.cq hW⟩
      | exact ⟨_, _, rfl, rfl, r3.2.cq hW⟩
      | exact ⟨_, _, rfl, rfl, r4.2.cq hW⟩
      | exact ⟨_, _, rfl, rfl, r5.2.cq hW⟩
      | exact ⟨_, _, rfl, rfl, r6.2.cq hW⟩
      | exact ⟨_, _, rfl, rfl, r7.2.cq hW⟩
      | exact ⟨_, _, rfl, rfl, r8.2.cq hW⟩
      | exact ⟨_, _, rfl, rfl, r9.2.cq hW⟩
      | exact ⟨_, _, rfl, rfl, r10.2.cq hW⟩
      | exact ⟨_, _, rfl, rfl, r11.2.cq hW⟩
      | exact ⟨_, _, rfl, rfl, r12.2.cq hW⟩
      | exact ⟨_, _, rfl, rfl, r13.2.cq hW⟩
      | exact ⟨_, _, rfl, rfl, r14.2.cq hW⟩
      | exact ⟨_, _, rfl, rfl, r15.2.cq hW⟩
      | exact ⟨_, _, rfl, rfl, r16.2.cq hW⟩
      | exact ⟨_, _, rfl, rfl, r17.2.cq hW⟩
      | exact ⟨_, _, rfl, rfl, r18.2.cq hW⟩
      | exact ⟨_, _, rfl, rfl, r19.2.cq hW⟩
      | exact ⟨_, _, rfl, rfl, r1.cq hW⟩
      | exact ⟨_, _, rfl, rfl, r3.cq hW⟩
      | exact ⟨_, _, rfl, rfl, r4.cq hW⟩
      | exact ⟨_, _, rfl, rfl, r5.cq hW⟩
      | exact ⟨_, _, rfl, rfl, r6.cq hW⟩
      | exact ⟨_, _, rfl, rfl, r7.cq hW⟩
      | exact ⟨_, _, rfl, rfl, r8.cq hW⟩
      | exact ⟨_, _, rfl, rfl, r9.cq hW⟩
      | exact ⟨_, _, rfl, rfl, r10.cq hW⟩
      | exact ⟨_, _, rfl, rfl, r11.cq hW⟩
  · obtain ⟨t, ht, rfl⟩ := in_k hnt (by omega) (bI_ne0 h1)
    refine x_iload_n hm rfl rfl ?_
    refine x_iconst hm rfl (v := nI 0) (by decide) ?_
    refine x_bipush hm rfl (v := nI 60) (by decide) ?_
    refine x_callS hm rfl rfl (t6) ?_
    refine x_if_ne hm rfl (t := 28) rfl (fun h3 => ?_) (fun h3 => ?_)
    · obtain ⟨a, ha, rfl⟩ := le_k (by omega) (bI_ne0 h3)
      refine x_aload_n hm rfl rfl ?_
      refine x_getf hm rfl (gR rfl rfl) ?_
      refine x_getf hm rfl (gI rfl rfl) ?_
      refine x_if_ne hm rfl (t := 45) rfl (fun h4 => ?_) (fun h4 => ?_)
      · refine x_aload_n hm rfl rfl ?_
        refine x_iload_n hm rfl rfl ?_
        refine x_iconst hm rfl (v := nI 4) (by decide) ?_
        refine x_aload_n hm rfl rfl ?_
        refine x_getf hm rfl (gR rfl rfl) ?_
        refine x_getf hm rfl (gI rfl rfl) ?_
        rw [hnp]
        refine x_iload_n hm rfl rfl ?_
        refine x_cVi hm rfl rfl (t52 hW (by omega) (by omega) (by omega) (by omega) (fun k hk => okI2 (by omega))) (fun v5 M5 r5 => ?_)
        refine x_iret hm rfl rfl (by first | rfl | exact bI_nar | decide) ?_
        first
          | exact ⟨_, _, rfl, rfl, r5.2.cq hW⟩
          | exact ⟨_, _, rfl, rfl, r5.cq hW⟩
          | exact ⟨_, _, rfl, rfl, Cq.rf hW⟩
          | exact ⟨_, _, rfl, rfl, r1.2.cq hW⟩
          | exact ⟨_, _, rfl, rfl, r2.2.cq hW⟩
          | exact ⟨_, _, rfl, rfl, r3.2.cq hW⟩
          | exact ⟨_, _, rfl, rfl, r4.2.cq hW⟩
          | exact ⟨_, _, rfl, rfl, r6.2.cq hW⟩
          | exact ⟨_, _, rfl, rfl, r7.2.cq hW⟩
          | exact ⟨_, _, rfl, rfl, r8.2.cq hW⟩
          | exact ⟨_, _, rfl, rfl, r9.2.cq hW⟩
          | exact ⟨_, _, rfl, rfl, r10.2.cq hW⟩
          | exact ⟨_, _, rfl, rfl, r11.2.cq hW⟩
          | exact ⟨_, _, rfl, rfl, r12.2.cq hW⟩
          | exact ⟨_, _, rfl, rfl, r13.2.cq hW⟩
          | exact ⟨_, _, rfl, rfl, r14.2.cq hW⟩
          | exact ⟨_, _, rfl, rfl, r15.2.cq hW⟩
          | exact ⟨_, _, rfl, rfl, r16.2.cq hW⟩
          | exact ⟨_, _, rfl, rfl, r17.2.cq hW⟩
          | exact ⟨_, _, rfl, rfl, r18.2.cq hW⟩
          | exact ⟨_, _, rfl, rfl, r19.2.cq hW⟩
          | exact ⟨_, _, rfl, rfl, r1.cq hW⟩
          | exact ⟨_, _, rfl, rfl, r2.cq hW⟩
          | exact ⟨_, _, rfl, rfl, r3.cq hW⟩
          | exact ⟨_, _, rfl, rfl, r4.cq hW⟩
          | exact ⟨_, _, rfl, rfl, r6.cq hW⟩
          | exact ⟨_, _, rfl, rfl, r7.cq hW⟩
          | exact ⟨_, _, rfl, rfl, r8.cq hW⟩
          | exact ⟨_, _, rfl, rfl, r9.cq hW⟩
          | exact ⟨_, _, rfl, rfl, r10.cq hW⟩
          | exact ⟨_, _, rfl, rfl, r11.cq hW⟩
      · refine x_aload_n hm rfl rfl ?_
        refine x_ldcI hm rfl (v := (-1000004 : Int32)) (by decide +kernel) ?_
        refine x_cVi hm rfl rfl (t7 (by decide +kernel)) (fun v6 M6 r6 => ?_)
        refine x_iret hm rfl rfl (by first | rfl | exact bI_nar | decide) ?_
        first
          | exact ⟨_, _, rfl, rfl, r6.2.cq hW⟩
          | exact ⟨_, _, rfl, rfl, r6.cq hW⟩
          | exact ⟨_, _, rfl, rfl, Cq.rf hW⟩
          | exact ⟨_, _, rfl, rfl, r1.2.cq hW⟩
          | exact ⟨_, _, rfl, rfl, r2.2.cq hW⟩
          | exact ⟨_, _, rfl, rfl, r3.2.cq hW⟩
          | exact ⟨_, _, rfl, rfl, r4.2.cq hW⟩
          | exact ⟨_, _, rfl, rfl, r5.2.cq hW⟩
          | exact ⟨_, _, rfl, rfl, r7.2.cq hW⟩
          | exact ⟨_, _, rfl, rfl, r8.2.cq hW⟩
          | exact ⟨_, _, rfl, rfl, r9.2.cq hW⟩
          | exact ⟨_, _, rfl, rfl, r10.2.cq hW⟩
          | exact ⟨_, _, rfl, rfl, r11.2.cq hW⟩
          | exact ⟨_, _, rfl, rfl, r12.2.cq hW⟩
          | exact ⟨_, _, rfl, rfl, r13.2.cq hW⟩
          | exact ⟨_, _, rfl, rfl, r14.2.cq hW⟩
          | exact ⟨_, _, rfl, rfl, r15.2.cq hW⟩
          | exact ⟨_, _, rfl, rfl, r16.2.cq hW⟩
          | exact ⟨_, _, rfl, rfl, r17.2.cq hW⟩
          | exact ⟨_, _, rfl, rfl, r18.2.cq hW⟩
          | exact ⟨_, _, rfl, rfl, r19.2.cq hW⟩
          | exact ⟨_, _, rfl, rfl, r1.cq hW⟩
          | exact ⟨_, _, rfl, rfl, r2.cq hW⟩
          | exact ⟨_, _, rfl, rfl, r3.cq hW⟩
          | exact ⟨_, _, rfl, rfl, r4.cq hW⟩
          | exact ⟨_, _, rfl, rfl, r5.cq hW⟩
          | exact ⟨_, _, rfl, rfl, r7.cq hW⟩
          | exact ⟨_, _, rfl, rfl, r8.cq hW⟩
          | exact ⟨_, _, rfl, rfl, r9.cq hW⟩
          | exact ⟨_, _, rfl, rfl, r10.cq hW⟩
          | exact ⟨_, _, rfl, rfl, r11.cq hW⟩
    · refine x_aload_n hm rfl rfl ?_
      refine x_ldcI hm rfl (v := (-1000001 : Int32)) (by decide +kernel) ?_
      refine x_cVi hm rfl rfl (t7 (by decide +kernel)) (fun v7 M7 r7 => ?_)
      refine x_iret hm rfl rfl (by first | rfl | exact bI_nar | decide) ?_
      first
        | exact ⟨_, _, rfl, rfl, r7.2.cq hW⟩
        | exact ⟨_, _, rfl, rfl, r7.cq hW⟩
        | exact ⟨_, _, rfl, rfl, Cq.rf hW⟩
        | exact ⟨_, _, rfl, rfl, r1.2.cq hW⟩
        | exact ⟨_, _, rfl, rfl, r2.2.cq hW⟩
        | exact ⟨_, _, rfl, rfl, r3.2.cq hW⟩
        | exact ⟨_, _, rfl, rfl, r4.2.cq hW⟩
        | exact ⟨_, _, rfl, rfl, r5.2.cq hW⟩
        | exact ⟨_, _, rfl, rfl, r6.2.cq hW⟩
        | exact ⟨_, _, rfl, rfl, r8.2.cq hW⟩
        | exact ⟨_, _, rfl, rfl, r9.2.cq hW⟩
        | exact ⟨_, _, rfl, rfl, r10.2.cq hW⟩
        | exact ⟨_, _, rfl, rfl, r11.2.cq hW⟩
        | exact ⟨_, _, rfl, rfl, r12.2.cq hW⟩
        | exact ⟨_, _, rfl, rfl, r13.2.cq hW⟩
        | exact ⟨_, _, rfl, rfl, r14.2.cq hW⟩
        | exact ⟨_, _, rfl, rfl, r15.2.cq hW⟩
        | exact ⟨_, _, rfl, rfl, r16.2.cq hW⟩
        | exact ⟨_, _, rfl, rfl, r17.2.cq hW⟩
        | exact ⟨_, _, rfl, rfl, r18.2.cq hW⟩
        | exact ⟨_, _, rfl, rfl, r19.2.cq hW⟩
        | exact ⟨_, _, rfl, rfl, r1.cq hW⟩
        | exact ⟨_, _, rfl, rfl, r2.cq hW⟩
        | exact ⟨_, _, rfl, rfl, r3.cq hW⟩
        | exact ⟨_, _, rfl, rfl, r4.cq hW⟩
        | exact ⟨_, _, rfl, rfl, r5.cq hW⟩
        | exact ⟨_, _, rfl, rfl, r6.cq hW⟩
        | exact ⟨_, _, rfl, rfl, r8.cq hW⟩
        | exact ⟨_, _, rfl, rfl, r9.cq hW⟩
        | exact ⟨_, _, rfl, rfl, r10.cq hW⟩
        | exact ⟨_, _, rfl, rfl, r11.cq hW⟩
theorem l44 {t : Nat} (hW : Wf M) (ht : t < 8) : ∀ (n k : Nat) (M1 : mM), 101 - k < n → k ≤ 101 → Bq 35 M M1 → mEv X (QI (fun _ M' => Bq 35 M M')) 44 24 [some (.ref 0), some (.int (nI t)), some (.int (nI k))] [] (con M1) := by
  have hm : mMet 44 = some _ := rfl
  intro n
  induction n with
  | zero =>
    intro k M1 hkn hkb hT
    omega
  | succ n ih =>
    intro k M1 hkn hkb hT
    refine x_iload_n hm rfl rfl ?_
    refine x_bipush hm rfl (v := nI 100) (by decide) ?_
    refine x_icmp_gt hm rfl (t := 57) rfl (fun h1 => ?_) (fun h1 => ?_)
    · refine x_aload_n hm rfl rfl ?_
      refine x_ldcI hm rfl (v := (-1000004 : Int32)) (by decide +kernel) ?_
      refine x_cVi hm rfl rfl (t7 (by decide +kernel)) (fun v2 M2 r2 => ?_)
      refine x_iret hm rfl rfl (by first | rfl | exact bI_nar | decide) ?_
      first
        | exact ⟨_, _, rfl, rfl, hT.trans r2.2⟩
        | exact ⟨_, _, rfl, rfl, hT⟩
        | exact ⟨_, _, rfl, rfl, hT.trans r1.2⟩
        | exact ⟨_, _, rfl, rfl, hT.trans r3.2⟩
        | exact ⟨_, _, rfl, rfl, hT.trans r4.2⟩
        | exact ⟨_, _, rfl, rfl, hT.trans r5.2⟩
        | exact ⟨_, _, rfl, rfl, hT.trans r6.2⟩
        | exact ⟨_, _, rfl, rfl, hT.trans r7.2⟩
    · have hk : k ≤ 100 := Nat.le_of_not_lt fun h => h1 (nI_lt h (by omega))
      refine x_aload_n hm rfl rfl ?_
      refine x_getf hm rfl (gR rfl rfl) ?_
      refine x_iload_n hm rfl rfl ?_
      refine x_callV hm rfl rfl (t32 (by decide) (by omega)) ?_
      refine x_if_eq hm rfl (t := 43) rfl (fun h3 => ?_) (fun h3 => ?_)
      · refine x_aload_n hm rfl rfl ?_
        refine x_getf hm rfl (gR rfl rfl) ?_
        refine x_iconst hm rfl (v := nI 1) (by decide) ?_
        refine x_cVv hm rfl rfl (t30 (by decide) (by decide) (hT.1 hW)) (fun M4 r4 => ?_)
        refine x_iinc hm rfl rfl (v := nI 1) (by decide) rfl ?_
        rw [jI_add]
        refine x_goto hm rfl (t := 24) rfl ?_
        first
          | exact ih _ _ (by omega) (by omega) (hT.trans r4.bq)
          | exact ih _ _ (by omega) (by omega) (hT.trans r1.bq)
          | exact ih _ _ (by omega) (by omega) (hT.trans r2.bq)
          | exact ih _ _ (by omega) (by omega) (hT.trans r3.bq)
          | exact ih _ _ (by omega) (by omega) (hT.trans r5.bq)
          | exact ih _ _ (by omega) (by omega) (hT.trans r6.bq)
          | exact ih _ _ (by omega) (by omega) (hT.trans r7.bq)
      · refine x_iload_n hm rfl rfl ?_
        refine x_iret hm rfl rfl (by first | rfl | exact bI_nar | decide) ?_
        first
          | exact ⟨_, _, rfl, rfl, hT⟩
          | exact ⟨_, _, rfl, rfl, hT.trans r1.2⟩
          | exact ⟨_, _, rfl, rfl, hT.trans r2.2⟩
          | exact ⟨_, _, rfl, rfl, hT.trans r3.2⟩
          | exact ⟨_, _, rfl, rfl, hT.trans r4.2⟩
          | exact ⟨_, _, rfl, rfl, hT.trans r5.2⟩
          | exact ⟨_, _, rfl, rfl, hT.trans r6.2⟩
          | exact ⟨_, _, rfl, rfl, hT.trans r7.2⟩
theorem ev_ck {m pc : Nat} {L : mLoc} {st : List Value} {D : mHp} (hW : Wf M) (h : mEv X (QI (fun _ M' => Bq 35 M M')) m pc L st D) : mEv X (QI (fun _ M' => Ck M M')) m pc L st D := ev_mono h (fun r D' ⟨v, M2, g1, g2, g3⟩ => ⟨v, M2, g1, g2, g3.ck hW⟩)
theorem ev_cq {m pc : Nat} {L : mLoc} {st : List Value} {D : mHp} (hW : Wf M) (h : mEv X (QI (fun _ M' => Bq 35 M M')) m pc L st D) : mEv X (QI (fun _ M' => Cq M M')) m pc L st D := ev_mono h (fun r D' ⟨v, M2, g1, g2, g3⟩ => ⟨v, M2, g1, g2, g3.cq hW⟩)
theorem t44 {a1 : Int32} (hW : Wf M) : ∃ v M', mT X 44 [.ref 0, .int a1] (con M) (some (.int v)) (con M') ∧ Cq M M' := by
  refine ti_of (row := _) rfl (Nat.le_of_ble_eq_true rfl) ?_
  have hm : mMet 44 = some _ := rfl
  obtain ⟨nt, hn8, hnt⟩ := hW.ct (b := 1) (by decide)
  refine x_aload_n hm rfl rfl ?_
  refine x_getf hm rfl (gR rfl rfl) ?_
  refine x_iload_n hm rfl rfl ?_
  refine x_callV hm rfl rfl (t10 (by decide)) ?_
  refine x_if_ne hm rfl (t := 18) rfl (fun h1 => ?_) (fun h1 => ?_)
  · obtain ⟨t, ht, rfl⟩ := in_k hnt (by omega) (bI_ne0 h1)
    refine x_aload_n hm rfl rfl ?_
    refine x_cVv hm rfl rfl (t42 hW) (fun M2 r2 => ?_)
    refine x_iconst hm rfl (v := nI 0) (by decide) ?_
    refine x_istore_n hm rfl rfl ?_
    first
      | exact ev_cq hW (l44 hW (by omega) _ 0 _ (Nat.lt_succ_self _) (Nat.zero_le _) r2)
      | exact ev_cq hW (l44 hW (by omega) _ 0 _ (Nat.lt_succ_self _) (Nat.zero_le _) r1)
      | exact ev_cq hW (l44 hW (by omega) _ 0 _ (Nat.lt_succ_self _) (Nat.zero_le _) r3)
      | exact ev_cq hW (l44 hW (by omega) _ 0 _ (Nat.lt_succ_self _) (Nat.zero_le _) r4)
      | exact ev_cq hW (l44 hW (by omega) _ 0 _ (Nat.lt_succ_self _) (Nat.zero_le _) r5)
  · refine x_aload_n hm rfl rfl ?_
    refine x_ldcI hm rfl (v := (-1000001 : Int32)) (by decide +kernel) ?_
    refine x_cVi hm rfl rfl (t7 (by decide +kernel)) (fun v3 M3 r3 => ?_)
    refine x_iret hm rfl rfl (by first | rfl | exact bI_nar | decide) ?_
    first
      | exact ⟨_, _, rfl, rfl, r3.2.cq hW⟩
      | exact ⟨_, _, rfl, rfl, r3.cq hW⟩
      | exact ⟨_, _, rfl, rfl, Cq.rf hW⟩
      | exact ⟨_, _, rfl, rfl, r1.2.cq hW⟩
      | exact ⟨_, _, rfl, rfl, r2.2.cq hW⟩
      | exact ⟨_, _, rfl, rfl, r4.2.cq hW⟩
      | exact ⟨_, _, rfl, rfl, r5.2.cq hW⟩
      | exact ⟨_, _, rfl, rfl, r6.2.cq hW⟩
      | exact ⟨_, _, rfl, rfl, r7.2.cq hW⟩
      | exact ⟨_, _, rfl, rfl, r8.2.cq hW⟩
      | exact ⟨_, _, rfl, rfl, r9.2.cq hW⟩
      | exact ⟨_, _, rfl, rfl, r10.2.cq hW⟩
      | exact ⟨_, _, rfl, rfl, r11.2.cq hW⟩
      | exact ⟨_, _, rfl, rfl, r12.2.cq hW⟩
      | exact ⟨_, _, rfl, rfl, r13.2.cq hW⟩
      | exact ⟨_, _, rfl, rfl, r14.2.cq hW⟩
      | exact ⟨_, _, rfl, rfl, r15.2.cq hW⟩
      | exact ⟨_, _, rfl, rfl, r16.2.cq hW⟩
      | exact ⟨_, _, rfl, rfl, r17.2.cq hW⟩
      | exact ⟨_, _, rfl, rfl, r18.2.cq hW⟩
      | exact ⟨_, _, rfl, rfl, r19.2.cq hW⟩
      | exact ⟨_, _, rfl, rfl, r1.cq hW⟩
      | exact ⟨_, _, rfl, rfl, r2.cq hW⟩
      | exact ⟨_, _, rfl, rfl, r4.cq hW⟩
      | exact ⟨_, _, rfl, rfl, r5.cq hW⟩
      | exact ⟨_, _, rfl, rfl, r6.cq hW⟩
      | exact ⟨_, _, rfl, rfl, r7.cq hW⟩
      | exact ⟨_, _, rfl, rfl, r8.cq hW⟩
      | exact ⟨_, _, rfl, rfl, r9.cq hW⟩
      | exact ⟨_, _, rfl, rfl, r10.cq hW⟩
      | exact ⟨_, _, rfl, rfl, r11.cq hW⟩
theorem t45 {a1 : Int32} (hW : Wf M) : ∃ v M', mT X 45 [.ref 0, .int a1] (con M) (some (.int v)) (con M') ∧ Cq M M' := by
  refine ti_of (row := _) rfl (Nat.le_of_ble_eq_true rfl) ?_
  have hm : mMet 45 = some _ := rfl
  refine x_iload_n hm rfl rfl ?_
  refine x_iconst hm rfl (v := nI 0) (by decide) ?_
  refine x_bipush hm rfl (v := nI 100) (by decide) ?_
  refine x_callS hm rfl rfl (t6) ?_
  refine x_if_ne hm rfl (t := 17) rfl (fun h1 => ?_) (fun h1 => ?_)
  · obtain ⟨a, ha, rfl⟩ := le_k (by omega) (bI_ne0 h1)
    refine x_aload_n hm rfl rfl ?_
    refine x_cVv hm rfl rfl (t42 hW) (fun M2 r2 => ?_)
    refine x_aload_n hm rfl rfl ?_
    refine x_getf hm rfl (gR rfl rfl) ?_
    refine x_iload_n hm rfl rfl ?_
    refine x_cVv hm rfl rfl (t30 (by decide) (by omega) (r2.1 hW)) (fun M3 r3 => ?_)
    refine x_aload_n hm rfl rfl ?_
    refine x_getf hm rfl (gR rfl rfl) ?_
    refine x_cVe hm rfl rfl (t35 (by decide) (r3.1 (r2.1 hW))) (fun v4 r4 => ?_)
    refine x_iret hm rfl rfl (by first | rfl | exact bI_nar | decide) ?_
    first
      | exact ⟨_, _, rfl, rfl, (r3.trans r4.bq).cq hW⟩
      | exact ⟨_, _, rfl, rfl, r4.2.cq hW⟩
      | exact ⟨_, _, rfl, rfl, Cq.rf hW⟩
      | exact ⟨_, _, rfl, rfl, (r2.trans r3.bq).cq hW⟩
      | exact ⟨_, _, rfl, rfl, r2.2.cq hW⟩
      | exact ⟨_, _, rfl, rfl, r3.2.cq hW⟩
      | exact ⟨_, _, rfl, rfl, (r4.trans r5.bq).cq hW⟩
      | exact ⟨_, _, rfl, rfl, r1.2.cq hW⟩
      | exact ⟨_, _, rfl, rfl, r5.2.cq hW⟩
      | exact ⟨_, _, rfl, rfl, r6.2.cq hW⟩
      | exact ⟨_, _, rfl, rfl, r7.2.cq hW⟩
      | exact ⟨_, _, rfl, rfl, r8.2.cq hW⟩
      | exact ⟨_, _, rfl, rfl, r9.2.cq hW⟩
      | exact ⟨_, _, rfl, rfl, r10.2.cq hW⟩
      | exact ⟨_, _, rfl, rfl, r11.2.cq hW⟩
      | exact ⟨_, _, rfl, rfl, r12.2.cq hW⟩
      | exact ⟨_, _, rfl, rfl, r13.2.cq hW⟩
      | exact ⟨_, _, rfl, rfl, r14.2.cq hW⟩
      | exact ⟨_, _, rfl, rfl, r15.2.cq hW⟩
      | exact ⟨_, _, rfl, rfl, r16.2.cq hW⟩
      | exact ⟨_, _, rfl, rfl, r17.2.cq hW⟩
      | exact ⟨_, _, rfl, rfl, r18.2.cq hW⟩
      | exact ⟨_, _, rfl, rfl, r19.2.cq hW⟩
  · refine x_aload_n hm rfl rfl ?_
    refine x_ldcI hm rfl (v := (-1000001 : Int32)) (by decide +kernel) ?_
    refine x_cVi hm rfl rfl (t7 (by decide +kernel)) (fun v5 M5 r5 => ?_)
    refine x_iret hm rfl rfl (by first | rfl | exact bI_nar | decide) ?_
    first
      | exact ⟨_, _, rfl, rfl, r5.2.cq hW⟩
      | exact ⟨_, _, rfl, rfl, Cq.rf hW⟩
      | exact ⟨_, _, rfl, rfl, (r2.trans r3.bq).cq hW⟩
      | exact ⟨_, _, rfl, rfl, (r3.trans r4.bq).cq hW⟩
      | exact ⟨_, _, rfl, rfl, (r4.trans r5.bq).cq hW⟩
      | exact ⟨_, _, rfl, rfl, r1.2.cq hW⟩
      | exact ⟨_, _, rfl, rfl, r2.2.cq hW⟩
      | exact ⟨_, _, rfl, rfl, r3.2.cq hW⟩
      | exact ⟨_, _, rfl, rfl, r4.2.cq hW⟩
      | exact ⟨_, _, rfl, rfl, r6.2.cq hW⟩
      | exact ⟨_, _, rfl, rfl, r7.2.cq hW⟩
      | exact ⟨_, _, rfl, rfl, r8.2.cq hW⟩
      | exact ⟨_, _, rfl, rfl, r9.2.cq hW⟩
      | exact ⟨_, _, rfl, rfl, r10.2.cq hW⟩
      | exact ⟨_, _, rfl, rfl, r11.2.cq hW⟩
      | exact ⟨_, _, rfl, rfl, r12.2.cq hW⟩
      | exact ⟨_, _, rfl, rfl, r13.2.cq hW⟩
      | exact ⟨_, _, rfl, rfl, r14.2.cq hW⟩
      | exact ⟨_, _, rfl, rfl, r15.2.cq hW⟩
      | exact ⟨_, _, rfl, rfl, r16.2.cq hW⟩
      | exact ⟨_, _, rfl, rfl, r17.2.cq hW⟩
      | exact ⟨_, _, rfl, rfl, r18.2.cq hW⟩
      | exact ⟨_, _, rfl, rfl, r19.2.cq hW⟩
theorem t46 {a1 : Int32} (hW : Wf M) : ∃ v M', mT X 46 [.ref 0, .int a1] (con M) (some (.int v)) (con M') ∧ Cq M M' := by
  refine ti_of (row := _) rfl (Nat.le_of_ble_eq_true rfl) ?_
  have hm : mMet 46 = some _ := rfl
  refine x_iload_n hm rfl rfl ?_
  refine x_iconst hm rfl (v := nI 0) (by decide) ?_
  refine x_bipush hm rfl (v := nI 100) (by decide) ?_
  refine x_callS hm rfl rfl (t6) ?_
  refine x_if_ne hm rfl (t := 17) rfl (fun h1 => ?_) (fun h1 => ?_)
  · obtain ⟨a, ha, rfl⟩ := le_k (by omega) (bI_ne0 h1)
    refine x_aload_n hm rfl rfl ?_
    refine x_cVv hm rfl rfl (t42 hW) (fun M2 r2 => ?_)
    refine x_aload_n hm rfl rfl ?_
    refine x_getf hm rfl (gR rfl rfl) ?_
    refine x_iload_n hm rfl rfl ?_
    refine x_cVv hm rfl rfl (t30 (by decide) (by omega) (r2.1 hW)) (fun M3 r3 => ?_)
    refine x_aload_n hm rfl rfl ?_
    refine x_getf hm rfl (gR rfl rfl) ?_
    refine x_cVe hm rfl rfl (t38 (by decide) (r3.1 (r2.1 hW))) (fun v4 r4 => ?_)
    refine x_aload_n hm rfl rfl ?_
    refine x_getf hm rfl (gR rfl rfl) ?_
    refine x_cVe hm rfl rfl (t38 (by decide) (r3.1 (r2.1 hW))) (fun v5 r5 => ?_)
    refine x_isub hm rfl ?_
    refine x_iret hm rfl rfl (by first | rfl | exact bI_nar | decide) ?_
    first
      | exact ⟨_, _, rfl, rfl, (r4.trans r5.bq).cq hW⟩
      | exact ⟨_, _, rfl, rfl, r5.2.cq hW⟩
      | exact ⟨_, _, rfl, rfl, Cq.rf hW⟩
      | exact ⟨_, _, rfl, rfl, (r2.trans r3.bq).cq hW⟩
      | exact ⟨_, _, rfl, rfl, (r3.trans r4.bq).cq hW⟩
      | exact ⟨_, _, rfl, rfl, r2.2.cq hW⟩
      | exact ⟨_, _, rfl, rfl, r3.2.cq hW⟩
      | exact ⟨_, _, rfl, rfl, r4.2.cq hW⟩
      | exact ⟨_, _, rfl, rfl, r1.2.cq hW⟩
      | exact ⟨_, _, rfl, rfl, r6.2.cq hW⟩
      | exact ⟨_, _, rfl, rfl, r7.2.cq hW⟩
      | exact ⟨_, _, rfl, rfl, r8.2.cq hW⟩
      | exact ⟨_, _, rfl, rfl, r9.2.cq hW⟩
      | exact ⟨_, _, rfl, rfl, r10.2.cq hW⟩
      | exact ⟨_, _, rfl, rfl, r11.2.cq hW⟩
      | exact ⟨_, _, rfl, rfl, r12.2.cq hW⟩
      | exact ⟨_, _, rfl, rfl, r13.2.cq hW⟩
      | exact ⟨_, _, rfl, rfl, r14.2.cq hW⟩
      | exact ⟨_, _, rfl, rfl, r15.2.cq hW⟩
      | exact ⟨_, _, rfl, rfl, r16.2.cq hW⟩
      | exact ⟨_, _, rfl, rfl, r17.2.cq hW⟩
      | exact ⟨_, _, rfl, rfl, r18.2.cq hW⟩
      | exact ⟨_, _, rfl, rfl, r19.2.cq hW⟩
  · refine x_aload_n hm rfl rfl ?_
    refine x_ldcI hm rfl (v := (-1000001 : Int32)) (by decide +kernel) ?_
    refine x_cVi hm rfl rfl (t7 (by decide +kernel)) (fun v6 M6 r6 => ?_)
    refine x_iret hm rfl rfl (by first | rfl | exact bI_nar | decide) ?_
    first
      | exact ⟨_, _, rfl, rfl, r6.2.cq hW⟩
      | exact ⟨_, _, rfl, rfl, Cq.rf hW⟩
      | exact ⟨_, _, rfl, rfl, (r2.trans r3.bq).cq hW⟩
      | exact ⟨_, _, rfl, rfl, (r3.trans r4.bq).cq hW⟩
      | exact ⟨_, _, rfl, rfl, (r4.trans r5.bq).cq hW⟩
      | exact ⟨_, _, rfl, rfl, r1.2.cq hW⟩
      | exact ⟨_, _, rfl, rfl, r2.2.cq hW⟩
      | exact ⟨_, _, rfl, rfl, r3.2.cq hW⟩
      | exact ⟨_, _, rfl, rfl, r4.2.cq hW⟩
      | exact ⟨_, _, rfl, rfl, r5.2.cq hW⟩
      | exact ⟨_, _, rfl, rfl, r7.2.cq hW⟩
      | exact ⟨_, _, rfl, rfl, r8.2.cq hW⟩
      | exact ⟨_, _, rfl, rfl, r9.2.cq hW⟩
      | exact ⟨_, _, rfl, rfl, r10.2.cq hW⟩
      | exact ⟨_, _, rfl, rfl, r11.2.cq hW⟩
      | exact ⟨_, _, rfl, rfl, r12.2.cq hW⟩
      | exact ⟨_, _, rfl, rfl, r13.2.cq hW⟩
      | exact ⟨_, _, rfl, rfl, r14.2.cq hW⟩
      | exact ⟨_, _, rfl, rfl, r15.2.cq hW⟩
      | exact ⟨_, _, rfl, rfl, r16.2.cq hW⟩
      | exact ⟨_, _, rfl, rfl, r17.2.cq hW⟩
      | exact ⟨_, _, rfl, rfl, r18.2.cq hW⟩
      | exact ⟨_, _, rfl, rfl, r19.2.cq hW⟩
theorem l47 {p t x y : Int32} (hW : Wf M) : ∀ (n k : Nat) (z : Int32), 101 - k < n → k ≤ 101 → mEv X (QI (fun _ M' => Cq M M')) 47 70 [some (.ref 0), some (.int p), some (.int t), some (.int x), some (.int y), some (.int z), some (.int (nI k))] [] (con M) := by
  have hm : mMet 47 = some _ := rfl
  intro n
  induction n with
  | zero =>
    intro k z hkn hkb
    omega
  | succ n ih =>
    intro k z hkn hkb
    refine x_iload hm rfl rfl ?_
    refine x_bipush hm rfl (v := nI 100) (by decide) ?_
    refine x_icmp_gt hm rfl (t := 101) rfl (fun h1 => ?_) (fun h1 => ?_)
    · refine x_aload_n hm rfl rfl ?_
      refine x_ldcI hm rfl (v := (-1000004 : Int32)) (by decide +kernel) ?_
      refine x_cVi hm rfl rfl (t7 (by decide +kernel)) (fun v2 M2 r2 => ?_)
      refine x_iret hm rfl rfl (by first | rfl | exact bI_nar | decide) ?_
      first
        | exact ⟨_, _, rfl, rfl, r2.2.cq hW⟩
        | exact ⟨_, _, rfl, rfl, r2.cq hW⟩
        | exact ⟨_, _, rfl, rfl, Cq.rf hW⟩
        | exact ⟨_, _, rfl, rfl, r1.2.cq hW⟩
        | exact ⟨_, _, rfl, rfl, r3.2.cq hW⟩
        | exact ⟨_, _, rfl, rfl, r4.2.cq hW⟩
        | exact ⟨_, _, rfl, rfl, r5.2.cq hW⟩
        | exact ⟨_, _, rfl, rfl, r6.2.cq hW⟩
        | exact ⟨_, _, rfl, rfl, r7.2.cq hW⟩
        | exact ⟨_, _, rfl, rfl, r8.2.cq hW⟩
        | exact ⟨_, _, rfl, rfl, r9.2.cq hW⟩
        | exact ⟨_, _, rfl, rfl, r10.2.cq hW⟩
        | exact ⟨_, _, rfl, rfl, r11.2.cq hW⟩
        | exact ⟨_, _, rfl, rfl, r12.2.cq hW⟩
        | exact ⟨_, _, rfl, rfl, r13.2.cq hW⟩
        | exact ⟨_, _, rfl, rfl, r14.2.cq hW⟩
        | exact ⟨_, _, rfl, rfl, r15.2.cq hW⟩
        | exact ⟨_, _, rfl, rfl, r16.2.cq hW⟩
        | exact ⟨_, _, rfl, rfl, r17.2.cq hW⟩
        | exact ⟨_, _, rfl, rfl, r18.2.cq hW⟩
        | exact ⟨_, _, rfl, rfl, r19.2.cq hW⟩
        | exact ⟨_, _, rfl, rfl, r1.cq hW⟩
        | exact ⟨_, _, rfl, rfl, r3.cq hW⟩
        | exact ⟨_, _, rfl, rfl, r4.cq hW⟩
        | exact ⟨_, _, rfl, rfl, r5.cq hW⟩
        | exact ⟨_, _, rfl, rfl, r6.cq hW⟩
        | exact ⟨_, _, rfl, rfl, r7.cq hW⟩
        | exact ⟨_, _, rfl, rfl, r8.cq hW⟩
        | exact ⟨_, _, rfl, rfl, r9.cq hW⟩
        | exact ⟨_, _, rfl, rfl, r10.cq hW⟩
        | exact ⟨_, _, rfl, rfl, r11.cq hW⟩
    · have hk : k ≤ 100 := Nat.le_of_not_lt fun h => h1 (nI_lt h (by omega))
      refine x_iload hm rfl rfl ?_
      refine x_iload_n hm rfl rfl ?_
      refine x_icmp_ne hm rfl (t := 86) rfl (fun h3 => ?_) (fun h3 => ?_)
      · refine x_iload hm rfl rfl ?_
        refine x_iload hm rfl rfl ?_
        refine x_cSe hm rfl rfl (t34) (fun v4 r4 => ?_)
        refine x_istore hm rfl rfl ?_
        refine x_iinc hm rfl rfl (v := nI 1) (by decide) rfl ?_
        rw [jI_add]
        refine x_goto hm rfl (t := 70) rfl ?_
        exact ih _ _ (by omega) (by omega)
      · refine x_iload hm rfl rfl ?_
        refine x_iret hm rfl rfl (by first | rfl | exact bI_nar | decide) ?_
        first
          | exact ⟨_, _, rfl, rfl, Cq.rf hW⟩
          | exact ⟨_, _, rfl, rfl, r1.2.cq hW⟩
          | exact ⟨_, _, rfl, rfl, r2.2.cq hW⟩
          | exact ⟨_, _, rfl, rfl, r3.2.cq hW⟩
          | exact ⟨_, _, rfl, rfl, r4.2.cq hW⟩
          | exact ⟨_, _, rfl, rfl, r5.2.cq hW⟩
          | exact ⟨_, _, rfl, rfl, r6.2.cq hW⟩
          | exact ⟨_, _, rfl, rfl, r7.2.cq hW⟩
          | exact ⟨_, _, rfl, rfl, r8.2.cq hW⟩
          | exact ⟨_, _, rfl, rfl, r9.2.cq hW⟩
          | exact ⟨_, _, rfl, rfl, r10.2.cq hW⟩
          | exact ⟨_, _, rfl, rfl, r11.2.cq hW⟩
          | exact ⟨_, _, rfl, rfl, r12.2.cq hW⟩
          | exact ⟨_, _, rfl, rfl, r13.2.cq hW⟩
          | exact ⟨_, _, rfl, rfl, r14.2.cq hW⟩
          | exact ⟨_, _, rfl, rfl, r15.2.cq hW⟩
          | exact ⟨_, _, rfl, rfl, r16.2.cq hW⟩
          | exact ⟨_, _, rfl, rfl, r17.2.cq hW⟩
          | exact ⟨_, _, rfl, rfl, r18.2.cq hW⟩
          | exact ⟨_, _, rfl, rfl, r19.2.cq hW⟩
          | exact ⟨_, _, rfl, rfl, r1.cq hW⟩
          | exact ⟨_, _, rfl, rfl, r2.cq hW⟩
          | exact ⟨_, _, rfl, rfl, r3.cq hW⟩
          | exact ⟨_, _, rfl, rfl, r4.cq hW⟩
          | exact ⟨_, _, rfl, rfl, r5.cq hW⟩
          | exact ⟨_, _, rfl, rfl, r6.cq hW⟩
          | exact ⟨_, _, rfl, rfl, r7.cq hW⟩
          | exact ⟨_, _, rfl, rfl, r8.cq hW⟩
          | exact ⟨_, _, rfl, rfl, r9.cq hW⟩
          | exact ⟨_, _, rfl, rfl, r10.cq hW⟩
          | exact ⟨_, _, rfl, rfl, r11.cq hW⟩
theorem t47 {a1 a2 : Int32} (hW : Wf M) : ∃ v M', mT X 47 [.ref 0, .int a1, .int a2] (con M) (some (.int v)) (con M') ∧ Cq M M' := by
  refine ti_of (row := _) rfl (Nat.le_of_ble_eq_true rfl) ?_
  have hm : mMet 47 = some _ := rfl
  obtain ⟨np, hp8, hnp⟩ := hW.cpn (b := 1) (by decide)
  obtain ⟨nt, hn8, hnt⟩ := hW.ct (b := 1) (by decide)
  refine x_aload_n hm rfl rfl ?_
  refine x_getf hm rfl (gR rfl rfl) ?_
  refine x_iload_n hm rfl rfl ?_
  refine x_callV hm rfl rfl (t19 (by decide)) ?_
  refine x_if_eq hm rfl (t := 22) rfl (fun h1 => ?_) (fun h1 => ?_)
  · refine x_aload_n hm rfl rfl ?_
    refine x_ldcI hm rfl (v := (-1000001 : Int32)) (by decide +kernel) ?_
    refine x_cVi hm rfl rfl (t7 (by decide +kernel)) (fun v2 M2 r2 => ?_)
    refine x_iret hm rfl rfl (by first | rfl | exact bI_nar | decide) ?_
    first
      | exact ⟨_, _, rfl, rfl, r2.2.cq hW⟩
      | exact ⟨_, _, rfl, rfl, r2.cq hW⟩
      | exact ⟨_, _, rfl, rfl, Cq.rf hW⟩
      | exact ⟨_, _, rfl, rfl, r1.2.cq hW⟩
      | exact ⟨_, _, rfl, rfl, r3.2.cq hW⟩
      | exact ⟨_, _, rfl, rfl, r4.2.cq hW⟩
      | exact ⟨_, _, rfl, rfl, r5.2.cq hW⟩
      | exact ⟨_, _, rfl, rfl, r6.2.cq hW⟩
      | exact ⟨_, _, rfl, rfl, r7.2.cq hW⟩
      | exact ⟨_, _, rfl, rfl, r8.2.cq hW⟩
      | exact ⟨_, _, rfl, rfl, r9.2.cq hW⟩
      | exact ⟨_, _, rfl, rfl, r10.2.cq hW⟩
      | exact ⟨_, _, rfl, rfl, r11.2.cq hW⟩
      | exact ⟨_, _, rfl, rfl, r12.2.cq hW⟩
      | exact ⟨_, _, rfl, rfl, r13.2.cq hW⟩
      | exact ⟨_, _, rfl, rfl, r14.2.cq hW⟩
      | exact ⟨_, _, rfl, rfl, r15.2.cq hW⟩
      | exact ⟨_, _, rfl, rfl, r16.2.cq hW⟩
      | exact ⟨_, _, rfl, rfl, r17.2.cq hW⟩
      | exact ⟨_, _, rfl, rfl, r18.2.cq hW⟩
      | exact ⟨_, _, rfl, rfl, r19.2.cq hW⟩
      | exact ⟨_, _, rfl, rfl, r1.cq hW⟩
      | exact ⟨_, _, rfl, rfl, r3.cq hW⟩
      | exact ⟨_, _, rfl, rfl, r4.cq hW⟩
      | exact ⟨_, _, rfl, rfl, r5.cq hW⟩
      | exact ⟨_, _, rfl, rfl, r6.cq hW⟩
      | exact ⟨_, _, rfl, rfl, r7.cq hW⟩
      | exact ⟨_, _, rfl, rfl, r8.cq hW⟩
      | exact ⟨_, _, rfl, rfl, r9.cq hW⟩
      | exact ⟨_, _, rfl, rfl, r10.cq hW⟩
      | exact ⟨_, _, rfl, rfl, r11.cq hW⟩
  · obtain ⟨p, hp, rfl⟩ := in_k hnp (by omega) (bI_ne0 h1)
    refine x_aload_n hm rfl rfl ?_
    refine x_getf hm rfl (gR rfl rfl) ?_
    refine x_iload_n hm rfl rfl ?_
    refine x_callV hm rfl rfl (t10 (by decide)) ?_
    refine x_if_ne hm rfl (t := 29) rfl (fun h3 => ?_) (fun h3 => ?_)
    · obtain ⟨t, ht, rfl⟩ := in_k hnt (by omega) (bI_ne0 h3)
      refine x_aload_n hm rfl rfl ?_
      refine x_getf hm rfl (gR rfl rfl) ?_
      refine x_getf hm rfl (gR rfl rfl) ?_
      refine x_iconst hm rfl (v := nI 1) (by decide) ?_
      refine x_aald hm rfl (lQ _ (by decide) rfl rfl (by omega) (by decide)) ?_
      refine x_iload_n hm rfl rfl ?_
      refine x_iald hm rfl (lI rfl (by omega) (by decide)) ?_
      refine x_istore_n hm rfl rfl ?_
      refine x_aload_n hm rfl rfl ?_
      refine x_getf hm rfl (gR rfl rfl) ?_
      refine x_getf hm rfl (gR rfl rfl) ?_
      refine x_iconst hm rfl (v := nI 2) (by decide) ?_
      refine x_aald hm rfl (lQ _ (by decide) rfl rfl (by omega) (by decide)) ?_
      refine x_iload_n hm rfl rfl ?_
      refine x_iald hm rfl (lI rfl (by omega) (by decide)) ?_
      refine x_istore hm rfl rfl ?_
      refine x_aload_n hm rfl rfl ?_
      refine x_getf hm rfl (gR rfl rfl) ?_
      refine x_getf hm rfl (gR rfl rfl) ?_
      refine x_iconst hm rfl (v := nI 1) (by decide) ?_
      refine x_aald hm rfl (lQ _ (by decide) rfl rfl (by omega) (by decide)) ?_
      refine x_iload_n hm rfl rfl ?_
      refine x_iald hm rfl (lI rfl (by omega) (by decide)) ?_
      refine x_istore hm rfl rfl ?_
      refine x_iconst hm rfl (v := nI 0) (by decide) ?_
      refine x_istore hm rfl rfl ?_
      exact l47 hW _ 0 _ (Nat.lt_succ_self _) (Nat.zero_le _)
    · refine x_aload_n hm rfl rfl ?_
      refine x_ldcI hm rfl (v := (-1000001 : Int32)) (by decide +kernel) ?_
      refine x_cVi hm rfl rfl (t7 (by decide +kernel)) (fun v4 M4 r4 => ?_)
      refine x_iret hm rfl rfl (by first | rfl | exact bI_nar | decide) ?_
      first
        | exact ⟨_, _, rfl, rfl, r4.2.cq hW⟩
        | exact ⟨_, _, rfl, rfl, r4.cq hW⟩
        | exact ⟨_, _, rfl, rfl, Cq.rf hW⟩
        | exact ⟨_, _, rfl, rfl, r1.2.cq hW⟩
        | exact ⟨_, _, rfl, rfl, r2.2.cq hW⟩
        | exact ⟨_, _, rfl, rfl, r3.2.cq hW⟩
        | exact ⟨_, _, rfl, rfl, r5.2.cq hW⟩
        | exact ⟨_, _, rfl, rfl, r6.2.cq hW⟩
        | exact ⟨_, _, rfl, rfl, r7.2.cq hW⟩
        | exact ⟨_, _, rfl, rfl, r8.2.cq hW⟩
        | exact ⟨_, _, rfl, rfl, r9.2.cq hW⟩
        | exact ⟨_, _, rfl, rfl, r10.2.cq hW⟩
        | exact ⟨_, _, rfl, rfl, r11.2.cq hW⟩
        | exact ⟨_, _, rfl, rfl, r12.2.cq hW⟩
        | exact ⟨_, _, rfl, rfl, r13.2.cq hW⟩
        | exact ⟨_, _, rfl, rfl, r14.2.cq hW⟩
        | exact ⟨_, _, rfl, rfl, r15.2.cq hW⟩
        | exact ⟨_, _, rfl, rfl, r16.2.cq hW⟩
        | exact ⟨_, _, rfl, rfl, r17.2.cq hW⟩
        | exact ⟨_, _, rfl, rfl, r18.2.cq hW⟩
        | exact ⟨_, _, rfl, rfl, r19.2.cq hW⟩
        | exact ⟨_, _, rfl, rfl, r1.cq hW⟩
        | exact ⟨_, _, rfl, rfl, r2.cq hW⟩
        | exact ⟨_, _, rfl, rfl, r3.cq hW⟩
        | exact ⟨_, _, rfl, rfl, r5.cq hW⟩
        | exact ⟨_, _, rfl, rfl, r6.cq hW⟩
        | exact ⟨_, _, rfl, rfl, r7.cq hW⟩
        | exact ⟨_, _, rfl, rfl, r8.cq hW⟩
        | exact ⟨_, _, rfl, rfl, r9.cq hW⟩
        | exact ⟨_, _, rfl, rfl, r10.cq hW⟩
        | exact ⟨_, _, rfl, rfl, r11.cq hW⟩
theorem l54 {a nb : Nat} (hW : Wf M) (ha : a ≤ 1000) (hnb : M 1 4 = nI nb) (h8 : nb ≤ 8) : ∀ (n k : Nat) (s g : Int32) (x5 : Option Value) (M1 : mM), nb - k < n → k ≤ nb → Bq 35 M M1 → mEv X (QI (fun _ M' => Bq 35 M M')) 54 41 [some (.ref 0), some (.int (nI a)), some (.int s), some (.int g), some (.int (nI k)), x5] [] (con M1) := by
  have hm : mMet 54 = some _ := rfl
  intro n
  induction n with
  | zero =>
    intro k s g x5 M1 hkn hkb hT
    omega
  | succ n ih =>
    intro k s g x5 M1 hkn hkb hT
    have hn1 : M1 1 4 = nI nb := (hT.2.2 1 (by decide) (by decide)).2.trans hnb
    refine x_iload hm rfl rfl ?_
    refine x_aload_n hm rfl rfl ?_
    refine x_getf hm rfl (gR rfl rfl) ?_
    refine x_getf hm rfl (gI rfl rfl) ?_
    rw [hn1]
    refine x_icmp_ge hm rfl (t := 101) rfl (fun h1 => ?_) (fun h1 => ?_)
    · refine x_iload_n hm rfl rfl ?_
      refine x_iret hm rfl rfl (by first | rfl | exact bI_nar | decide) ?_
      exact ⟨_, _, rfl, rfl, hT⟩
    · have hk : k < nb := Nat.lt_of_not_le fun h => h1 (nI_le h (by omega))
      refine x_aload_n hm rfl rfl ?_
      refine x_cVv hm rfl rfl (t42 (hT.1 hW)) (fun M2 r2 => ?_)
      refine x_aload_n hm rfl rfl ?_
      refine x_getf hm rfl (gR rfl rfl) ?_
      refine x_iload hm rfl rfl ?_
      refine x_putf hm rfl (pI rfl rfl (by decide) (by first | exact mFit_int | rfl | decide) rfl) ?_
      have hT2 := (hT.trans r2).trans (Tw.fld (M := M2) (b := 35) (x := 7) (v := nI k) (by decide) (by decide) (by decide)).bq
      refine x_aload_n hm rfl rfl ?_
      refine x_getf hm rfl (gR rfl rfl) ?_
      refine x_iload_n hm rfl rfl ?_
      refine x_cVv hm rfl rfl (t30 (by decide) ha (hT2.1 hW)) (fun M3 r3 => ?_)
      refine x_aload_n hm rfl rfl ?_
      refine x_getf hm rfl (gR rfl rfl) ?_
      refine x_cVe hm rfl rfl (t38 (by decide) (r3.1 (hT2.1 hW))) (fun v4 r4 => ?_)
      refine x_istore hm rfl rfl ?_
      refine x_iload hm rfl rfl ?_
      refine x_iload_n hm rfl rfl ?_
      refine x_icmp_le hm rfl (t := 95) rfl (fun h5 => ?_) (fun h5 => ?_)
      · refine x_iinc hm rfl rfl (v := nI 1) (by decide) rfl ?_
        rw [jI_add]
        refine x_goto hm rfl (t := 41) rfl ?_
        exact ih _ _ _ _ _ (by omega) (by omega) (hT2.trans r3.bq)
      · refine x_iload hm rfl rfl ?_
        refine x_istore_n hm rfl rfl ?_
        refine x_iload hm rfl rfl ?_
        refine x_istore_n hm rfl rfl ?_
        refine x_iinc hm rfl rfl (v := nI 1) (by decide) rfl ?_
        rw [jI_add]
        refine x_goto hm rfl (t := 41) rfl ?_
        exact ih _ _ _ _ _ (by omega) (by omega) (hT2.trans r3.bq)
theorem t54 {a1 : Int32} (hW : Wf M) : ∃ v M', mT X 54 [.ref 0, .int a1] (con M) (some (.int v)) (con M') ∧ Cq M M' := by
  refine ti_of (row := _) rfl (Nat.le_of_ble_eq_true rfl) ?_
  have hm : mMet 54 = some _ := rfl
  obtain ⟨np, hp8, hnp⟩ := hW.cpn (b := 1) (by decide)
  refine x_iload_n hm rfl rfl ?_
  refine x_iconst hm rfl (v := nI 0) (by decide) ?_
  refine x_bipush hm rfl (v := nI 60) (by decide) ?_
  refine x_callS hm rfl rfl (t6) ?_
  refine x_if_ne hm rfl (t := 17) rfl (fun h1 => ?_) (fun h1 => ?_)
  · obtain ⟨a, ha, rfl⟩ := le_k (by omega) (bI_ne0 h1)
    refine x_aload_n hm rfl rfl ?_
    refine x_getf hm rfl (gR rfl rfl) ?_
    refine x_getf hm rfl (gI rfl rfl) ?_
    refine x_if_ne hm rfl (t := 34) rfl (fun h2 => ?_) (fun h2 => ?_)
    · refine x_iconst hm rfl (v := nI 0) (by decide) ?_
      refine x_istore_n hm rfl rfl ?_
      refine x_iconst hm rfl (v := (-1 : Int32)) (by decide) ?_
      refine x_istore_n hm rfl rfl ?_
      refine x_iconst hm rfl (v := nI 0) (by decide) ?_
      refine x_istore hm rfl rfl ?_
      exact ev_cq hW (l54 hW (by omega) hnp hp8 _ 0 _ _ _ _ (Nat.lt_succ_self _) (Nat.zero_le _) Bq.rf)
    · refine x_aload_n hm rfl rfl ?_
      refine x_ldcI hm rfl (v := (-1000004 : Int32)) (by decide +kernel) ?_
      refine x_cVi hm rfl rfl (t7 (by decide +kernel)) (fun v3 M3 r3 => ?_)
      refine x_iret hm rfl rfl (by first | rfl | exact bI_nar | decide) ?_
      first
        | exact ⟨_, _, rfl, rfl, r3.2.cq hW⟩
        | exact ⟨_, _, rfl, rfl, r3.cq hW⟩
        | exact ⟨_, _, rfl, rfl, Cq.rf hW⟩
        | exact ⟨_, _, rfl, rfl, r1.2.cq hW⟩
        | exact ⟨_, _, rfl, rfl, r2.2.cq hW⟩
        | exact ⟨_, _, rfl, rfl, r4.2.cq hW⟩
        | exact ⟨_, _, rfl, rfl, r5.2.cq hW⟩
        | exact ⟨_, _, rfl, rfl, r6.2.cq hW⟩
        | exact ⟨_, _, rfl, rfl, r7.2.cq hW⟩
        | exact ⟨_, _, rfl, rfl, r8.2.cq hW⟩
        | exact ⟨_, _, rfl, rfl, r9.2.cq hW⟩
        | exact ⟨_, _, rfl, rfl, r10.2.cq hW⟩
        | exact ⟨_, _, rfl, rfl, r11.2.cq hW⟩
        | exact ⟨_, _, rfl, rfl, r12.2.cq hW⟩
        | exact ⟨_, _, rfl, rfl, r13.2.cq hW⟩
        | exact ⟨_, _, rfl, rfl, r14.2.cq hW⟩
        | exact ⟨_, _, rfl, rfl, r15.2.cq hW⟩
        | exact ⟨_, _, rfl, rfl, r16.2.cq hW⟩
        | exact ⟨_, _, rfl, rfl, r17.2.cq hW⟩
        | exact ⟨_, _, rfl, rfl, r18.2.cq hW⟩
        | exact ⟨_, _, rfl, rfl, r19.2.cq hW⟩
        | exact ⟨_, _, rfl, rfl, r1.cq hW⟩
        | exact ⟨_, _, rfl, rfl, r2.cq hW⟩
        | exact ⟨_, _, rfl, rfl, r4.cq hW⟩
        | exact ⟨_, _, rfl, rfl, r5.cq hW⟩
        | exact ⟨_, _, rfl, rfl, r6.cq hW⟩
        | exact ⟨_, _, rfl, rfl, r7.cq hW⟩
        | exact ⟨_, _, rfl, rfl, r8.cq hW⟩
        | exact ⟨_, _, rfl, rfl, r9.cq hW⟩
        | exact ⟨_, _, rfl, rfl, r10.cq hW⟩
        | exact ⟨_, _, rfl, rfl, r11.cq hW⟩
  · refine x_aload_n hm rfl rfl ?_
    refine x_ldcI hm rfl (v := (-1000001 : Int32)) (by decide +kernel) ?_
    refine x_cVi hm rfl rfl (t7 (by decide +kernel)) (fun v4 M4 r4 => ?_)
    refine x_iret hm rfl rfl (by first | rfl | exact bI_nar | decide) ?_
    first
      | exact ⟨_, _, rfl, rfl, r4.2.cq hW⟩
      | exact ⟨_, _, rfl, rfl, r4.cq hW⟩
      | exact ⟨_, _, rfl, rfl, Cq.rf hW⟩
      | exact ⟨_, _, rfl, rfl, r1.2.cq hW⟩
      | exact ⟨_, _, rfl, rfl, r2.2.cq hW⟩
      | exact ⟨_, _, rfl, rfl, r3.2.cq hW⟩
      | exact ⟨_, _, rfl, rfl, r5.2.cq hW⟩
      | exact ⟨_, _, rfl, rfl, r6.2.cq hW⟩
      | exact ⟨_, _, rfl, rfl, r7.2.cq hW⟩
      | exact ⟨_, _, rfl, rfl, r8.2.cq hW⟩
      | exact ⟨_, _, rfl, rfl, r9.2.cq hW⟩
      | exact ⟨_, _, rfl, rfl, r10.2.cq hW⟩
      | exact ⟨_, _, rfl, rfl, r11.2.cq hW⟩
      | exact ⟨_, _, rfl, rfl, r12.2.cq hW⟩
      | exact ⟨_, _, rfl, rfl, r13.2.cq hW⟩
      | exact ⟨_, _, rfl, rfl, r14.2.cq hW⟩
      | exact ⟨_, _, rfl, rfl, r15.2.cq hW⟩
      | exact ⟨_, _, rfl, rfl, r16.2.cq hW⟩
      | exact ⟨_, _, rfl, rfl, r17.2.cq hW⟩
      | exact ⟨_, _, rfl, rfl, r18.2.cq hW⟩
      | exact ⟨_, _, rfl, rfl, r19.2.cq hW⟩
      | exact ⟨_, _, rfl, rfl, r1.cq hW⟩
      | exact ⟨_, _, rfl, rfl, r2.cq hW⟩
      | exact ⟨_, _, rfl, rfl, r3.cq hW⟩
      | exact ⟨_, _, rfl, rfl, r5.cq hW⟩
      | exact ⟨_, _, rfl, rfl, r6.cq hW⟩
      | exact ⟨_, _, rfl, rfl, r7.cq hW⟩
      | exact ⟨_, _, rfl, rfl, r8.cq hW⟩
      | exact ⟨_, _, rfl, rfl, r9.cq hW⟩
      | exact ⟨_, _, rfl, rfl, r10.cq hW⟩
      | exact ⟨_, _, rfl, rfl, r11.cq hW⟩
theorem l59 {t a : Nat} (hW : Wf M) (ht : t < 8) (ha : a ≤ 1000) : ∀ (n k : Nat) (M1 : mM), 10 - k < n → k ≤ 10 → Bq 35 M M1 → mEv X (QI (fun _ M' => Bq 35 M M')) 59 30 [some (.ref 0), some (.int (nI t)), some (.int (nI a)), some (.int (nI k))] [] (con M1) := by
  have hm : mMet 59 = some _ := rfl
  intro n
  induction n with
  | zero =>
    intro k M1 hkn hkb hT
    omega
  | succ n ih =>
    intro k M1 hkn hkb hT
    refine x_iload_n hm rfl rfl ?_
    refine x_bipush hm rfl (v := nI 9) (by decide) ?_
    refine x_icmp_gt hm rfl (t := 79) rfl (fun h1 => ?_) (fun h1 => ?_)
    · refine x_aload_n hm rfl rfl ?_
      refine x_ldcI hm rfl (v := (-1000004 : Int32)) (by decide +kernel) ?_
      refine x_cVi hm rfl rfl (t7 (by decide +kernel)) (fun v2 M2 r2 => ?_)
      refine x_iret hm rfl rfl (by first | rfl | exact bI_nar | decide) ?_
      first
        | exact ⟨_, _, rfl, rfl, hT.trans r2.2⟩
        | exact ⟨_, _, rfl, rfl, hT2.trans r3.bq⟩
        | exact ⟨_, _, rfl, rfl, hT2.trans r4.bq⟩
        | exact ⟨_, _, rfl, rfl, hT2.trans r5.bq⟩
        | exact ⟨_, _, rfl, rfl, hT2.trans r6.bq⟩
        | exact ⟨_, _, rfl, rfl, hT.trans r1.2⟩
        | exact ⟨_, _, rfl, rfl, hT.trans r3.2⟩
        | exact ⟨_, _, rfl, rfl, hT.trans r4.2⟩
        | exact ⟨_, _, rfl, rfl, hT.trans r5.2⟩
        | exact ⟨_, _, rfl, rfl, hT.trans r6.2⟩
    · have hk : k ≤ 9 := Nat.le_of_not_lt fun h => h1 (nI_lt h (by omega))
      refine x_aload_n hm rfl rfl ?_
      refine x_cVv hm rfl rfl (t42 (hT.1 hW)) (fun M3 r3 => ?_)
      refine x_aload_n hm rfl rfl ?_
      refine x_getf hm rfl (gR rfl rfl) ?_
      refine x_getf hm rfl (gR rfl rfl) ?_
      refine x_iconst hm rfl (v := nI 3) (by decide) ?_
      refine x_aald hm rfl (lQ _ (by decide) rfl rfl (by omega) (by decide)) ?_
      refine x_iload_n hm rfl rfl ?_
      refine x_iload_n hm rfl rfl ?_
      refine x_iast hm rfl (sI rfl (by omega) (by decide)) ?_
      first
        | have hT2 := (hT.trans r3).trans (Tw.row (M := M3) (b := 35) (j := 5) (x := t) (v := nI k) (by decide) (by decide) (by decide) trivial).bq
        | have hT2 := (hT.trans r2).trans (Tw.row (M := M2) (b := 35) (j := 5) (x := t) (v := nI k) (by decide) (by decide) (by decide) trivial).bq
        | have hT2 := (hT.trans r4).trans (Tw.row (M := M4) (b := 35) (j := 5) (x := t) (v := nI k) (by decide) (by decide) (by decide) trivial).bq
      refine x_aload_n hm rfl rfl ?_
      refine x_getf hm rfl (gR rfl rfl) ?_
      refine x_iload_n hm rfl rfl ?_
      refine x_cVv hm rfl rfl (t30 (by decide) ha (hT2.1 hW)) (fun M4 r4 => ?_)
      refine x_aload_n hm rfl rfl ?_
      refine x_getf hm rfl (gR rfl rfl) ?_
      refine x_iload_n hm rfl rfl ?_
      refine x_callV hm rfl rfl (t32 (by decide) (by omega)) ?_
      refine x_if_ne hm rfl (t := 73) rfl (fun h5 => ?_) (fun h5 => ?_)
      · refine x_iinc hm rfl rfl (v := nI 1) (by decide) rfl ?_
        rw [jI_add]
        refine x_goto hm rfl (t := 30) rfl ?_
        first
          | exact ih _ _ (by omega) (by omega) (hT2.trans r4.bq)
          | exact ih _ _ (by omega) (by omega) (hT2.trans r3.bq)
          | exact ih _ _ (by omega) (by omega) (hT2.trans r5.bq)
          | exact ih _ _ (by omega) (by omega) (hT2.trans r6.bq)
      · refine x_iload_n hm rfl rfl ?_
        refine x_iret hm rfl rfl (by first | rfl | exact bI_nar | decide) ?_
        first
          | exact ⟨_, _, rfl, rfl, hT2.trans r4.bq⟩
          | exact ⟨_, _, rfl, rfl, hT.trans r4.2⟩
          | exact ⟨_, _, rfl, rfl, hT2.trans r3.bq⟩
          | exact ⟨_, _, rfl, rfl, hT.trans r3.2⟩
          | exact ⟨_, _, rfl, rfl, hT2.trans r5.bq⟩
          | exact ⟨_, _, rfl, rfl, hT2.trans r6.bq⟩
          | exact ⟨_, _, rfl, rfl, hT.trans r1.2⟩
          | exact ⟨_, _, rfl, rfl, hT.trans r2.2⟩
          | exact ⟨_, _, rfl, rfl, hT.trans r5.2⟩
          | exact ⟨_, _, rfl, rfl, hT.trans r6.2⟩
theorem t59 {a1 a2 : Int32} (hW : Wf M) : ∃ v M', mT X 59 [.ref 0, .int a1, .int a2] (con M) (some (.int v)) (con M') ∧ Cq M M' := by
  refine ti_of (row := _) rfl (Nat.le_of_ble_eq_true rfl) ?_
  have hm : mMet 59 = some _ := rfl
  obtain ⟨nt, hn8, hnt⟩ := hW.ct (b := 1) (by decide)
  refine x_aload_n hm rfl rfl ?_
  refine x_getf hm rfl (gR rfl rfl) ?_
  refine x_iload_n hm rfl rfl ?_
  refine x_callV hm rfl rfl (t10 (by decide)) ?_
  refine x_if_eq hm rfl (t := 21) rfl (fun h1 => ?_) (fun h1 => ?_)
  · refine x_aload_n hm rfl rfl ?_
    refine x_ldcI hm rfl (v := (-1000001 : Int32)) (by decide +kernel) ?_
    refine x_cVi hm rfl rfl (t7 (by decide +kernel)) (fun v2 M2 r2 => ?_)
    refine x_iret hm rfl rfl (by first | rfl | exact bI_nar | decide) ?_
    first
      | exact ⟨_, _, rfl, rfl, r2.2.cq hW⟩
      | exact ⟨_, _, rfl, rfl, r2.cq hW⟩
      | exact ⟨_, _, rfl, rfl, Cq.rf hW⟩
      | exact ⟨_, _, rfl, rfl, r1.2.cq hW⟩
      | exact ⟨_, _, rfl, rfl, r3.2.cq hW⟩
      | exact ⟨_, _, rfl, rfl, r4.2.cq hW⟩
      | exact ⟨_, _, rfl, rfl, r5.2.cq hW⟩
      | exact ⟨_, _, rfl, rfl, r6.2.cq hW⟩
      | exact ⟨_, _, rfl, rfl, r7.2.cq hW⟩
      | exact ⟨_, _, rfl, rfl, r8.2.cq hW⟩
      | exact ⟨_, _, rfl, rfl, r9.2.cq hW⟩
      | exact ⟨_, _, rfl, rfl, r10.2.cq hW⟩
      | exact ⟨_, _, rfl, rfl, r11.2.cq hW⟩
      | exact ⟨_, _, rfl, rfl, r12.2.cq hW⟩
      | exact ⟨_, _, rfl, rfl, r13.2.cq hW⟩
      | exact ⟨_, _, rfl, rfl, r14.2.cq hW⟩
      | exact ⟨_, _, rfl, rfl, r15.2.cq hW⟩
      | exact ⟨_, _, rfl, rfl, r16.2.cq hW⟩
      | exact ⟨_, _, rfl, rfl, r17.2.cq hW⟩
      | exact ⟨_, _, rfl, rfl, r18.2.cq hW⟩
      | exact ⟨_, _, rfl, rfl, r19.2.cq hW⟩
      | exact ⟨_, _, rfl, rfl, r1.cq hW⟩
      | exact ⟨_, _, rfl, rfl, r3.cq hW⟩
      | exact ⟨_, _, rfl, rfl, r4.cq hW⟩
      | exact ⟨_, _, rfl, rfl, r5.cq hW⟩
      | exact ⟨_, _, rfl, rfl, r6.cq hW⟩
      | exact ⟨_, _, rfl, rfl, r7.cq hW⟩
      | exact ⟨_, _, rfl, rfl, r8.cq hW⟩
      | exact ⟨_, _, rfl, rfl, r9.cq hW⟩
      | exact ⟨_, _, rfl, rfl, r10.cq hW⟩
      | exact ⟨_, _, rfl, rfl, r11.cq hW⟩
  · obtain ⟨t, ht, rfl⟩ := in_k hnt (by omega) (bI_ne0 h1)
    refine x_iload_n hm rfl rfl ?_
    refine x_iconst hm rfl (v := nI 0) (by decide) ?_
    refine x_bipush hm rfl (v := nI 60) (by decide) ?_
    refine x_callS hm rfl rfl (t6) ?_
    refine x_if_ne hm rfl (t := 28) rfl (fun h3 => ?_) (fun h3 => ?_)
    · obtain ⟨a, ha, rfl⟩ := le_k (by omega) (bI_ne0 h3)
      refine x_iconst hm rfl (v := nI 0) (by decide) ?_
      refine x_istore_n hm rfl rfl ?_
      exact ev_cq hW (l59 hW (by omega) (by omega) _ 0 _ (Nat.lt_succ_self _) (Nat.zero_le _) Bq.rf)
    · refine x_aload_n hm rfl rfl ?_
      refine x_ldcI hm rfl (v := (-1000001 : Int32)) (by decide +kernel) ?_
      refine x_cVi hm rfl rfl (t7 (by decide +kernel)) (fun v4 M4 r4 => ?_)
      refine x_iret hm rfl rfl (by first | rfl | exact bI_nar | decide) ?_
      first
        | exact ⟨_, _, rfl, rfl, r4.2.cq hW⟩
        | exact ⟨_, _, rfl, rfl, r4.cq hW⟩
        | exact ⟨_, _, rfl, rfl, Cq.rf hW⟩
        | exact ⟨_, _, rfl, rfl, r1.2.cq hW⟩
        | exact ⟨_, _, rfl, rfl, r2.2.cq hW⟩
        | exact ⟨_, _, rfl, rfl, r3.2.cq hW⟩
        | exact ⟨_, _, rfl, rfl, r5.2.cq hW⟩
        | exact ⟨_, _, rfl, rfl, r6.2.cq hW⟩
        | exact ⟨_, _, rfl, rfl, r7.2.cq hW⟩
        | exact ⟨_, _, rfl, rfl, r8.2.cq hW⟩
        | exact ⟨_, _, rfl, rfl, r9.2.cq hW⟩
        | exact ⟨_, _, rfl, rfl, r10.2.cq hW⟩
        | exact ⟨_, _, rfl, rfl, r11.2.cq hW⟩
        | exact ⟨_, _, rfl, rfl, r12.2.cq hW⟩
        | exact ⟨_, _, rfl, rfl, r13.2.cq hW⟩
        | exact ⟨_, _, rfl, rfl, r14.2.cq hW⟩
        | exact ⟨_, _, rfl, rfl, r15.2.cq hW⟩
        | exact ⟨_, _, rfl, rfl, r16.2.cq hW⟩
        | exact ⟨_, _, rfl, rfl, r17.2.cq hW⟩
        | exact ⟨_, _, rfl, rfl, r18.2.cq hW⟩
        | exact ⟨_, _, rfl, rfl, r19.2.cq hW⟩
        | exact ⟨_, _, rfl, rfl, r1.cq hW⟩
        | exact ⟨_, _, rfl, rfl, r2.cq hW⟩
        | exact ⟨_, _, rfl, rfl, r3.cq hW⟩
        | exact ⟨_, _, rfl, rfl, r5.cq hW⟩
        | exact ⟨_, _, rfl, rfl, r6.cq hW⟩
        | exact ⟨_, _, rfl, rfl, r7.cq hW⟩
        | exact ⟨_, _, rfl, rfl, r8.cq hW⟩
        | exact ⟨_, _, rfl, rfl, r9.cq hW⟩
        | exact ⟨_, _, rfl, rfl, r10.cq hW⟩
        | exact ⟨_, _, rfl, rfl, r11.cq hW⟩
theorem t60 {a1 : Int32} (hW : Wf M) : ∃ v M', mT X 60 [.ref 0, .int a1] (con M) (some (.int v)) (con M') ∧ Cq M M' := by
  refine ti_of (row := _) rfl (Nat.le_of_ble_eq_true rfl) ?_
  have hm : mMet 60 = some _ := rfl
  obtain ⟨nt, hn8, hnt⟩ := hW.ct (b := 1) (by decide)
  refine x_aload_n hm rfl rfl ?_
  refine x_getf hm rfl (gR rfl rfl) ?_
  refine x_iload_n hm rfl rfl ?_
  refine x_callV hm rfl rfl (t10 (by decide)) ?_
  refine x_if_eq hm rfl (t := 22) rfl (fun h1 => ?_) (fun h1 => ?_)
  · refine x_aload_n hm rfl rfl ?_
    refine x_ldcI hm rfl (v := (-1000001 : Int32)) (by decide +kernel) ?_
    refine x_cVi hm rfl rfl (t7 (by decide +kernel)) (fun v2 M2 r2 => ?_)
    refine x_iret hm rfl rfl (by first | rfl | exact bI_nar | decide) ?_
    first
      | exact ⟨_, _, rfl, rfl, r2.2.cq hW⟩
      | exact ⟨_, _, rfl, rfl, r2.cq hW⟩
      | exact ⟨_, _, rfl, rfl, Cq.rf hW⟩
      | exact ⟨_, _, rfl, rfl, r1.2.cq hW⟩
      | exact ⟨_, _, rfl, rfl, r3.2.cq hW⟩
      | exact ⟨_, _, rfl, rfl, r4.2.cq hW⟩
      | exact ⟨_, _, rfl, rfl, r5.2.cq hW⟩
      | exact ⟨_, _, rfl, rfl, r6.2.cq hW⟩
      | exact ⟨_, _, rfl, rfl, r7.2.cq hW⟩
      | exact ⟨_, _, rfl, rfl, r8.2.cq hW⟩
      | exact ⟨_, _, rfl, rfl, r9.2.cq hW⟩
      | exact ⟨_, _, rfl, rfl, r10.2.cq hW⟩
      | exact ⟨_, _, rfl, rfl, r11.2.cq hW⟩
      | exact ⟨_, _, rfl, rfl, r12.2.cq hW⟩
      | exact ⟨_, _, rfl, rfl, r13.2.cq hW⟩
      | exact ⟨_, _, rfl, rfl, r14.2.cq hW⟩
      | exact ⟨_, _, rfl, rfl, r15.2.cq hW⟩
      | exact ⟨_, _, rfl, rfl, r16.2.cq hW⟩
      | exact ⟨_, _, rfl, rfl, r17.2.cq hW⟩
      | exact ⟨_, _, rfl, rfl, r18.2.cq hW⟩
      | exact ⟨_, _, rfl, rfl, r19.2.cq hW⟩
      | exact ⟨_, _, rfl, rfl, r1.cq hW⟩
      | exact ⟨_, _, rfl, rfl, r3.cq hW⟩
      | exact ⟨_, _, rfl, rfl, r4.cq hW⟩
      | exact ⟨_, _, rfl, rfl, r5.cq hW⟩
      | exact ⟨_, _, rfl, rfl, r6.cq hW⟩
      | exact ⟨_, _, rfl, rfl, r7.cq hW⟩
      | exact ⟨_, _, rfl, rfl, r8.cq hW⟩
      | exact ⟨_, _, rfl, rfl, r9.cq hW⟩
      | exact ⟨_, _, rfl, rfl, r10.cq hW⟩
      | exact ⟨_, _, rfl, rfl, r11.cq hW⟩
  · obtain ⟨t, ht, rfl⟩ := in_k hnt (by omega) (bI_ne0 h1)
    refine x_aload_n hm rfl rfl ?_
    refine x_getf hm rfl (gR rfl rfl) ?_
    refine x_iload_n hm rfl rfl ?_
    refine x_cVe hm rfl rfl (t20 (by decide) hW) (fun v3 r3 => ?_)
    refine x_goto hm rfl (t := 28) rfl ?_
    refine x_iret hm rfl rfl (by first | rfl | exact bI_nar | decide) ?_
    first
      | exact ⟨_, _, rfl, rfl, r3.2.cq hW⟩
      | exact ⟨_, _, rfl, rfl, r3.cq hW⟩
      | exact ⟨_, _, rfl, rfl, Cq.rf hW⟩
      | exact ⟨_, _, rfl, rfl, r1.2.cq hW⟩
      | exact ⟨_, _, rfl, rfl, r2.2.cq hW⟩
      | exact ⟨_, _, rfl, rfl, r4.2.cq hW⟩
      | exact ⟨_, _, rfl, rfl, r5.2.cq hW⟩
      | exact ⟨_, _, rfl, rfl, r6.2.cq hW⟩
      | exact ⟨_, _, rfl, rfl, r7.2.cq hW⟩
      | exact ⟨_, _, rfl, rfl, r8.2.cq hW⟩
      | exact ⟨_, _, rfl, rfl, r9.2.cq hW⟩
      | exact ⟨_, _, rfl, rfl, r10.2.cq hW⟩
      | exact ⟨_, _, rfl, rfl, r11.2.cq hW⟩
      | exact ⟨_, _, rfl, rfl, r12.2.cq hW⟩
      | exact ⟨_, _, rfl, rfl, r13.2.cq hW⟩
      | exact ⟨_, _, rfl, rfl, r14.2.cq hW⟩
      | exact ⟨_, _, rfl, rfl, r15.2.cq hW⟩
      | exact ⟨_, _, rfl, rfl, r16.2.cq hW⟩
      | exact ⟨_, _, rfl, rfl, r17.2.cq hW⟩
      | exact ⟨_, _, rfl, rfl, r18.2.cq hW⟩
      | exact ⟨_, _, rfl, rfl, r19.2.cq hW⟩
      | exact ⟨_, _, rfl, rfl, r1.cq hW⟩
      | exact ⟨_, _, rfl, rfl, r2.cq hW⟩
      | exact ⟨_, _, rfl, rfl, r4.cq hW⟩
      | exact ⟨_, _, rfl, rfl, r5.cq hW⟩
      | exact ⟨_, _, rfl, rfl, r6.cq hW⟩
      | exact ⟨_, _, rfl, rfl, r7.cq hW⟩
      | exact ⟨_, _, rfl, rfl, r8.cq hW⟩
      | exact ⟨_, _, rfl, rfl, r9.cq hW⟩
      | exact ⟨_, _, rfl, rfl, r10.cq hW⟩
      | exact ⟨_, _, rfl, rfl, r11.cq hW⟩
theorem t61 {a1 : Int32} (hW : Wf M) : ∃ v M', mT X 61 [.ref 0, .int a1] (con M) (some (.int v)) (con M') ∧ Cq M M' := by
  refine ti_of (row := _) rfl (Nat.le_of_ble_eq_true rfl) ?_
  have hm : mMet 61 = some _ := rfl
  obtain ⟨nt, hn8, hnt⟩ := hW.ct (b := 1) (by decide)
  refine x_aload_n hm rfl rfl ?_
  refine x_getf hm rfl (gR rfl rfl) ?_
  refine x_iload_n hm rfl rfl ?_
  refine x_callV hm rfl rfl (t10 (by decide)) ?_
  refine x_if_eq hm rfl (t := 22) rfl (fun h1 => ?_) (fun h1 => ?_)
  · refine x_aload_n hm rfl rfl ?_
    refine x_ldcI hm rfl (v := (-1000001 : Int32)) (by decide +kernel) ?_
    refine x_cVi hm rfl rfl (t7 (by decide +kernel)) (fun v2 M2 r2 => ?_)
    refine x_iret hm rfl rfl (by first | rfl | exact bI_nar | decide) ?_
    first
      | exact ⟨_, _, rfl, rfl, r2.2.cq hW⟩
      | exact ⟨_, _, rfl, rfl, r2.cq hW⟩
      | exact ⟨_, _, rfl, rfl, Cq.rf hW⟩
      | exact ⟨_, _, rfl, rfl, r1.2.cq hW⟩
      | exact ⟨_, _, rfl, rfl, r3.2.cq hW⟩
      | exact ⟨_, _, rfl, rfl, r4.2.cq hW⟩
      | exact ⟨_, _, rfl, rfl, r5.2.cq hW⟩
      | exact ⟨_, _, rfl, rfl, r6.2.cq hW⟩
      | exact ⟨_, _, rfl, rfl, r7.2.cq hW⟩
      | exact ⟨_, _, rfl, rfl, r8.2.cq hW⟩
      | exact ⟨_, _, rfl, rfl, r9.2.cq hW⟩
      | exact ⟨_, _, rfl, rfl, r10.2.cq hW⟩
      | exact ⟨_, _, rfl, rfl, r11.2.cq hW⟩
      | exact ⟨_, _, rfl, rfl, r12.2.cq hW⟩
      | exact ⟨_, _, rfl, rfl, r13.2.cq hW⟩
      | exact ⟨_, _, rfl, rfl, r14.2.cq hW⟩
      | exact ⟨_, _, rfl, rfl, r15.2.cq hW⟩
      | exact ⟨_, _, rfl, rfl, r16.2.cq hW⟩
      | exact ⟨_, _, rfl, rfl, r17.2.cq hW⟩
      | exact ⟨_, _, rfl, rfl, r18.2.cq hW⟩
      | exact ⟨_, _, rfl, rfl, r19.2.cq hW⟩
      | exact ⟨_, _, rfl, rfl, r1.cq hW⟩
      | exact ⟨_, _, rfl, rfl, r3.cq hW⟩
      | exact ⟨_, _, rfl, rfl, r4.cq hW⟩
      | exact ⟨_, _, rfl, rfl, r5.cq hW⟩
      | exact ⟨_, _, rfl, rfl, r6.cq hW⟩
      | exact ⟨_, _, rfl, rfl, r7.cq hW⟩
      | exact ⟨_, _, rfl, rfl, r8.cq hW⟩
      | exact ⟨_, _, rfl, rfl, r9.cq hW⟩
      | exact ⟨_, _, rfl, rfl, r10.cq hW⟩
      | exact ⟨_, _, rfl, rfl, r11.cq hW⟩
  · obtain ⟨t, ht, rfl⟩ := in_k hnt (by omega) (bI_ne0 h1)
    refine x_aload_n hm rfl rfl ?_
    refine x_getf hm rfl (gR rfl rfl) ?_
    refine x_iload_n hm rfl rfl ?_
    refine x_cVe hm rfl rfl (t62 (by decide) (by omega) hW) (fun v3 r3 => ?_)
    refine x_goto hm rfl (t := 28) rfl ?_
    refine x_iret hm rfl rfl (by first | rfl | exact bI_nar | decide) ?_
    first
      | exact ⟨_, _, rfl, rfl, r3.2.cq hW⟩
      | exact ⟨_, _, rfl, rfl, r3.cq hW⟩
      | exact ⟨_, _, rfl, rfl, Cq.rf hW⟩
      | exact ⟨_, _, rfl, rfl, r1.2.cq hW⟩
      | exact ⟨_, _, rfl, rfl, r2.2.cq hW⟩
      | exact ⟨_, _, rfl, rfl, r4.2.cq hW⟩
      | exact ⟨_, _, rfl, rfl, r5.2.cq hW⟩
      | exact ⟨_, _, rfl, rfl, r6.2.cq hW⟩
      | exact ⟨_, _, rfl, rfl, r7.2.cq hW⟩
      | exact ⟨_, _, rfl, rfl, r8.2.cq hW⟩
      | exact ⟨_, _, rfl, rfl, r9.2.cq hW⟩
      | exact ⟨_, _, rfl, rfl, r10.2.cq hW⟩
      | exact ⟨_, _, rfl, rfl, r11.2.cq hW⟩
      | exact ⟨_, _, rfl, rfl, r12.2.cq hW⟩
      | exact ⟨_, _, rfl, rfl, r13.2.cq hW⟩
      | exact ⟨_, _, rfl, rfl, r14.2.cq hW⟩
      | exact ⟨_, _, rfl, rfl, r15.2.cq hW⟩
      | exact ⟨_, _, rfl, rfl, r16.2.cq hW⟩
      | exact ⟨_, _, rfl, rfl, r17.2.cq hW⟩
      | exact ⟨_, _, rfl, rfl, r18.2.cq hW⟩
      | exact ⟨_, _, rfl, rfl, r19.2.cq hW⟩
      | exact ⟨_, _, rfl, rfl, r1.cq hW⟩
      | exact ⟨_, _, rfl, rfl, r2.cq hW⟩
      | exact ⟨_, _, rfl, rfl, r4.cq hW⟩
      | exact ⟨_, _, rfl, rfl, r5.cq hW⟩
      | exact ⟨_, _, rfl, rfl, r6.cq hW⟩
      | exact ⟨_, _, rfl, rfl, r7.cq hW⟩
      | exact ⟨_, _, rfl, rfl, r8.cq hW⟩
      | exact ⟨_, _, rfl, rfl, r9.cq hW⟩
      | exact ⟨_, _, rfl, rfl, r10.cq hW⟩
      | exact ⟨_, _, rfl, rfl, r11.cq hW⟩
theorem l63 {nb : Nat} (hW : Wf M) (hnb : M 1 3 = nI nb) (h8 : nb ≤ 8) : ∀ (n k : Nat) (s g : Int32) (x4 : Option Value), nb - k < n → k ≤ nb → mEv X (QI (fun _ M' => Cq M M')) 63 23 [some (.ref 0), some (.int s), some (.int g), some (.int (nI k)), x4] [] (con M) := by
  have hm : mMet 63 = some _ := rfl
  intro n
  induction n with
  | zero =>
    intro k s g x4 hkn hkb
    omega
  | succ n ih =>
    intro k s g x4 hkn hkb
    refine x_iload_n hm rfl rfl ?_
    refine x_aload_n hm rfl rfl ?_
    refine x_getf hm rfl (gR rfl rfl) ?_
    refine x_getf hm rfl (gI rfl rfl) ?_
    rw [hnb]
    refine x_icmp_ge hm rfl (t := 64) rfl (fun h1 => ?_) (fun h1 => ?_)
    · refine x_iload_n hm rfl rfl ?_
      refine x_iret hm rfl rfl (by first | rfl | exact bI_nar | decide) ?_
      first
        | exact ⟨_, _, rfl, rfl, Cq.rf hW⟩
        | exact ⟨_, _, rfl, rfl, r1.2.cq hW⟩
        | exact ⟨_, _, rfl, rfl, r2.2.cq hW⟩
        | exact ⟨_, _, rfl, rfl, r3.2.cq hW⟩
        | exact ⟨_, _, rfl, rfl, r4.2.cq hW⟩
        | exact ⟨_, _, rfl, rfl, r5.2.cq hW⟩
        | exact ⟨_, _, rfl, rfl, r6.2.cq hW⟩
        | exact ⟨_, _, rfl, rfl, r7.2.cq hW⟩
        | exact ⟨_, _, rfl, rfl, r8.2.cq hW⟩
        | exact ⟨_, _, rfl, rfl, r9.2.cq hW⟩
        | exact ⟨_, _, rfl, rfl, r10.2.cq hW⟩
        | exact ⟨_, _, rfl, rfl, r11.2.cq hW⟩
        | exact ⟨_, _, rfl, rfl, r12.2.cq hW⟩
        | exact ⟨_, _, rfl, rfl, r13.2.cq hW⟩
        | exact ⟨_, _, rfl, rfl, r14.2.cq hW⟩
        | exact ⟨_, _, rfl, rfl, r15.2.cq hW⟩
        | exact ⟨_, _, rfl, rfl, r16.2.cq hW⟩
        | exact ⟨_, _, rfl, rfl, r17.2.cq hW⟩
        | exact ⟨_, _, rfl, rfl, r18.2.cq hW⟩
        | exact ⟨_, _, rfl, rfl, r19.2.cq hW⟩
        | exact ⟨_, _, rfl, rfl, r1.cq hW⟩
        | exact ⟨_, _, rfl, rfl, r2.cq hW⟩
        | exact ⟨_, _, rfl, rfl, r3.cq hW⟩
        | exact ⟨_, _, rfl, rfl, r4.cq hW⟩
        | exact ⟨_, _, rfl, rfl, r5.cq hW⟩
        | exact ⟨_, _, rfl, rfl, r6.cq hW⟩
        | exact ⟨_, _, rfl, rfl, r7.cq hW⟩
        | exact ⟨_, _, rfl, rfl, r8.cq hW⟩
        | exact ⟨_, _, rfl, rfl, r9.cq hW⟩
        | exact ⟨_, _, rfl, rfl, r10.cq hW⟩
        | exact ⟨_, _, rfl, rfl, r11.cq hW⟩
    · have hk : k < nb := Nat.lt_of_not_le fun h => h1 (nI_le h (by omega))
      refine x_aload_n hm rfl rfl ?_
      refine x_getf hm rfl (gR rfl rfl) ?_
      refine x_iload_n hm rfl rfl ?_
      refine x_cVe hm rfl rfl (t20 (by decide) hW) (fun v2 r2 => ?_)
      refine x_cSe hm rfl rfl (t36) (fun v3 r3 => ?_)
      refine x_istore hm rfl rfl ?_
      refine x_iload hm rfl rfl ?_
      refine x_iload_n hm rfl rfl ?_
      refine x_icmp_le hm rfl (t := 58) rfl (fun h4 => ?_) (fun h4 => ?_)
      · refine x_iinc hm rfl rfl (v := nI 1) (by decide) rfl ?_
        rw [jI_add]
        refine x_goto hm rfl (t := 23) rfl ?_
        exact ih _ _ _ _ (by omega) (by omega)
      · refine x_iload hm rfl rfl ?_
        refine x_istore_n hm rfl rfl ?_
        refine x_iload_n hm rfl rfl ?_
        refine x_istore_n hm rfl rfl ?_
        refine x_iinc hm rfl rfl (v := nI 1) (by decide) rfl ?_
        rw [jI_add]
        refine x_goto hm rfl (t := 23) rfl ?_
        exact ih _ _ _ _ (by omega) (by omega)
theorem t63  (hW : Wf M) : ∃ v M', mT X 63 [.ref 0] (con M) (some (.int v)) (con M') ∧ Cq M M' := by
  refine ti_of (row := _) rfl (Nat.le_of_ble_eq_true rfl) ?_
  have hm : mMet 63 = some _ := rfl
  obtain ⟨nt, hn8, hnt⟩ := hW.ct (b := 1) (by decide)
  refine x_aload_n hm rfl rfl ?_
  refine x_getf hm rfl (gR rfl rfl) ?_
  refine x_getf hm rfl (gI rfl rfl) ?_
  refine x_if_ne hm rfl (t := 17) rfl (fun h1 => ?_) (fun h1 => ?_)
  · refine x_iconst hm rfl (v := nI 0) (by decide) ?_
    refine x_istore_n hm rfl rfl ?_
    refine x_iconst hm rfl (v := nI 0) (by decide) ?_
    refine x_istore_n hm rfl rfl ?_
    refine x_iconst hm rfl (v := nI 0) (by decide) ?_
    refine x_istore_n hm rfl rfl ?_
    exact l63 hW hnt hn8 _ 0 _ _ _ (Nat.lt_succ_self _) (Nat.zero_le _)
  · refine x_aload_n hm rfl rfl ?_
    refine x_ldcI hm rfl (v := (-1000004 : Int32)) (by decide +kernel) ?_
    refine x_cVi hm rfl rfl (t7 (by decide +kernel)) (fun v2 M2 r2 => ?_)
    refine x_iret hm rfl rfl (by first | rfl | exact bI_nar | decide) ?_
    first
      | exact ⟨_, _, rfl, rfl, r2.2.cq hW⟩
      | exact ⟨_, _, rfl, rfl, r2.cq hW⟩
      | exact ⟨_, _, rfl, rfl, Cq.rf hW⟩
      | exact ⟨_, _, rfl, rfl, r1.2.cq hW⟩
      | exact ⟨_, _, rfl, rfl, r3.2.cq hW⟩
      | exact ⟨_, _, rfl, rfl, r4.2.cq hW⟩
      | exact ⟨_, _, rfl, rfl, r5.2.cq hW⟩
      | exact ⟨_, _, rfl, rfl, r6.2.cq hW⟩
      | exact ⟨_, _, rfl, rfl, r7.2.cq hW⟩
      | exact ⟨_, _, rfl, rfl, r8.2.cq hW⟩
      | exact ⟨_, _, rfl, rfl, r9.2.cq hW⟩
      | exact ⟨_, _, rfl, rfl, r10.2.cq hW⟩
      | exact ⟨_, _, rfl, rfl, r11.2.cq hW⟩
      | exact ⟨_, _, rfl, rfl, r12.2.cq hW⟩
      | exact ⟨_, _, rfl, rfl, r13.2.cq hW⟩
      | exact ⟨_, _, rfl, rfl, r14.2.cq hW⟩
      | exact ⟨_, _, rfl, rfl, r15.2.cq hW⟩
      | exact ⟨_, _, rfl, rfl, r16.2.cq hW⟩
      | exact ⟨_, _, rfl, rfl, r17.2.cq hW⟩
      | exact ⟨_, _, rfl, rfl, r18.2.cq hW⟩
      | exact ⟨_, _, rfl, rfl, r19.2.cq hW⟩
      | exact ⟨_, _, rfl, rfl, r1.cq hW⟩
      | exact ⟨_, _, rfl, rfl, r3.cq hW⟩
      | exact ⟨_, _, rfl, rfl, r4.cq hW⟩
      | exact ⟨_, _, rfl, rfl, r5.cq hW⟩
      | exact ⟨_, _, rfl, rfl, r6.cq hW⟩
      | exact ⟨_, _, rfl, rfl, r7.cq hW⟩
      | exact ⟨_, _, rfl, rfl, r8.cq hW⟩
      | exact ⟨_, _, rfl, rfl, r9.cq hW⟩
      | exact ⟨_, _, rfl, rfl, r10.cq hW⟩
      | exact ⟨_, _, rfl, rfl, r11.cq hW⟩
theorem l64 {nb : Nat} (hW : Wf M) (hnb : M 1 3 = nI nb) (h8 : nb ≤ 8) : ∀ (n k : Nat) (s : Int32), nb - k < n → k ≤ nb → mEv X (QI (fun _ M' => Cq M M')) 64 4 [some (.ref 0), some (.int s), some (.int (nI k))] [] (con M) := by
  have hm : mMet 64 = some _ := rfl
  intro n
  induction n with
  | zero =>
    intro k s hkn hkb
    omega
  | succ n ih =>
    intro k s hkn hkb
    refine x_iload_n hm rfl rfl ?_
    refine x_aload_n hm rfl rfl ?_
    refine x_getf hm rfl (gR rfl rfl) ?_
    refine x_getf hm rfl (gI rfl rfl) ?_
    rw [hnb]
    refine x_icmp_ge hm rfl (t := 42) rfl (fun h1 => ?_) (fun h1 => ?_)
    · refine x_iload_n hm rfl rfl ?_
      refine x_iret hm rfl rfl (by first | rfl | exact bI_nar | decide) ?_
      first
        | exact ⟨_, _, rfl, rfl, Cq.rf hW⟩
        | exact ⟨_, _, rfl, rfl, r1.2.cq hW⟩
        | exact ⟨_, _, rfl, rfl, r2.2.cq hW⟩
        | exact ⟨_, _, rfl, rfl, r3.2.cq hW⟩
        | exact ⟨_, _, rfl, rfl, r4.2.cq hW⟩
        | exact ⟨_, _, rfl, rfl, r5.2.cq hW⟩
        | exact ⟨_, _, rfl, rfl, r6.2.cq hW⟩
        | exact ⟨_, _, rfl, rfl, r7.2.cq hW⟩
        | exact ⟨_, _, rfl, rfl, r8.2.cq hW⟩
        | exact ⟨_, _, rfl, rfl, r9.2.cq hW⟩
        | exact ⟨_, _, rfl, rfl, r10.2.cq hW⟩
        | exact ⟨_, _, rfl, rfl, r11.2.cq hW⟩
        | exact ⟨_, _, rfl, rfl, r12.2.cq hW⟩
        | exact ⟨_, _, rfl, rfl, r13.2.cq hW⟩
        | exact ⟨_, _, rfl, rfl, r14.2.cq hW⟩
        | exact ⟨_, _, rfl, rfl, r15.2.cq hW⟩
        | exact ⟨_, _, rfl, rfl, r16.2.cq hW⟩
        | exact ⟨_, _, rfl, rfl, r17.2.cq hW⟩
        | exact ⟨_, _, rfl, rfl, r18.2.cq hW⟩
        | exact ⟨_, _, rfl, rfl, r19.2.cq hW⟩
        | exact ⟨_, _, rfl, rfl, r1.cq hW⟩
        | exact ⟨_, _, rfl, rfl, r2.cq hW⟩
        | exact ⟨_, _, rfl, rfl, r3.cq hW⟩
        | exact ⟨_, _, rfl, rfl, r4.cq hW⟩
        | exact ⟨_, _, rfl, rfl, r5.cq hW⟩
        | exact ⟨_, _, rfl, rfl, r6.cq hW⟩
        | exact ⟨_, _, rfl, rfl, r7.cq hW⟩
        | exact ⟨_, _, rfl, rfl, r8.cq hW⟩
        | exact ⟨_, _, rfl, rfl, r9.cq hW⟩
        | exact ⟨_, _, rfl, rfl, r10.cq hW⟩
        | exact ⟨_, _, rfl, rfl, r11.cq hW⟩
    · have hk : k < nb := Nat.lt_of_not_le fun h => h1 (nI_le h (by omega))
      refine x_aload_n hm rfl rfl ?_
      refine x_getf hm rfl (gR rfl rfl) ?_
      refine x_getf hm rfl (gR rfl rfl) ?_
      refine x_iconst hm rfl (v := nI 5) (by decide) ?_
      refine x_aald hm rfl (lQ _ (by decide) rfl rfl (by omega) (by decide)) ?_
      refine x_iload_n hm rfl rfl ?_
      refine x_iald hm rfl (lI rfl (by omega) (by decide)) ?_
      refine x_iconst hm rfl (v := (-1 : Int32)) (by decide) ?_
      refine x_icmp_ne hm rfl (t := 36) rfl (fun h2 => ?_) (fun h2 => ?_)
      · refine x_iinc hm rfl rfl (v := nI 1) (by decide) rfl ?_
        rw [jI_add]
        refine x_goto hm rfl (t := 4) rfl ?_
        exact ih _ _ (by omega) (by omega)
      · refine x_iload_n hm rfl rfl ?_
        refine x_iconst hm rfl (v := nI 1) (by decide) ?_
        refine x_iload_n hm rfl rfl ?_
        refine x_ishl hm rfl ?_
        refine x_ior hm rfl ?_
        refine x_istore_n hm rfl rfl ?_
        refine x_iinc hm rfl rfl (v := nI 1) (by decide) rfl ?_
        rw [jI_add]
        refine x_goto hm rfl (t := 4) rfl ?_
        exact ih _ _ (by omega) (by omega)
theorem t64  (hW : Wf M) : ∃ v M', mT X 64 [.ref 0] (con M) (some (.int v)) (con M') ∧ Cq M M' := by
  refine ti_of (row := _) rfl (Nat.le_of_ble_eq_true rfl) ?_
  have hm : mMet 64 = some _ := rfl
  obtain ⟨nt, hn8, hnt⟩ := hW.ct (b := 1) (by decide)
  refine x_iconst hm rfl (v := nI 0) (by decide) ?_
  refine x_istore_n hm rfl rfl ?_
  refine x_iconst hm rfl (v := nI 0) (by decide) ?_
  refine x_istore_n hm rfl rfl ?_
  exact l64 hW hnt hn8 _ 0 _ (Nat.lt_succ_self _) (Nat.zero_le _)
theorem t65 {a1 a2 : Int32} (hW : Wf M) : ∃ v M', mT X 65 [.ref 0, .int a1, .int a2] (con M) (some (.int v)) (con M') ∧ Cq M M' := by
  refine ti_of (row := _) rfl (Nat.le_of_ble_eq_true rfl) ?_
  have hm : mMet 65 = some _ := rfl
  obtain ⟨np, hp8, hnp⟩ := hW.cpn (b := 1) (by decide)
  obtain ⟨nt, hn8, hnt⟩ := hW.ct (b := 1) (by decide)
  have hpw := pow_k hn8
  refine x_aload_n hm rfl rfl ?_
  refine x_getf hm rfl (gR rfl rfl) ?_
  refine x_iload_n hm rfl rfl ?_
  refine x_callV hm rfl rfl (t19 (by decide)) ?_
  refine x_if_eq hm rfl (t := 22) rfl (fun h1 => ?_) (fun h1 => ?_)
  · refine x_aload_n hm rfl rfl ?_
    refine x_ldcI hm rfl (v := (-1000001 : Int32)) (by decide +kernel) ?_
    refine x_cVi hm rfl rfl (t7 (by decide +kernel)) (fun v2 M2 r2 => ?_)
    refine x_iret hm rfl rfl (by first | rfl | exact bI_nar | decide) ?_
    first
      | exact ⟨_, _, rfl, rfl, r2.2.cq hW⟩
      | exact ⟨_, _, rfl, rfl, r2.cq hW⟩
      | exact ⟨_, _, rfl, rfl, Cq.rf hW⟩
      | exact ⟨_, _, rfl, rfl, r1.2.cq hW⟩
      | exact ⟨_, _, rfl, rfl, r3.2.cq hW⟩
      | exact ⟨_, _, rfl, rfl, r4.2.cq hW⟩
      | exact ⟨_, _, rfl, rfl, r5.2.cq hW⟩
      | exact ⟨_, _, rfl, rfl, r6.2.cq hW⟩
      | exact ⟨_, _, rfl, rfl, r7.2.cq hW⟩
      | exact ⟨_, _, rfl, rfl, r8.2.cq hW⟩
      | exact ⟨_, _, rfl, rfl, r9.2.cq hW⟩
      | exact ⟨_, _, rfl, rfl, r10.2.cq hW⟩
      | exact ⟨_, _, rfl, rfl, r11.2.cq hW⟩
      | exact ⟨_, _, rfl, rfl, r12.2.cq hW⟩
      | exact ⟨_, _, rfl, rfl, r13.2.cq hW⟩
      | exact ⟨_, _, rfl, rfl, r14.2.cq hW⟩
      | exact ⟨_, _, rfl, rfl, r15.2.cq hW⟩
      | exact ⟨_, _, rfl, rfl, r16.2.cq hW⟩
      | exact ⟨_, _, rfl, rfl, r17.2.cq hW⟩
      | exact ⟨_, _, rfl, rfl, r18.2.cq hW⟩
      | exact ⟨_, _, rfl, rfl, r19.2.cq hW⟩
      | exact ⟨_, _, rfl, rfl, r1.cq hW⟩
      | exact ⟨_, _, rfl, rfl, r3.cq hW⟩
      | exact ⟨_, _, rfl, rfl, r4.cq hW⟩
      | exact ⟨_, _, rfl, rfl, r5.cq hW⟩
      | exact ⟨_, _, rfl, rfl, r6.cq hW⟩
      | exact ⟨_, _, rfl, rfl, r7.cq hW⟩
      | exact ⟨_, _, rfl, rfl, r8.cq hW⟩
      | exact ⟨_, _, rfl, rfl, r9.cq hW⟩
      | exact ⟨_, _, rfl, rfl, r10.cq hW⟩
      | exact ⟨_, _, rfl, rfl, r11.cq hW⟩
  · obtain ⟨p, hp, rfl⟩ := in_k hnp (by omega) (bI_ne0 h1)
    refine x_aload_n hm rfl rfl ?_
    refine x_getf hm rfl (gR rfl rfl) ?_
    refine x_iload_n hm rfl rfl ?_
    refine x_callV hm rfl rfl (t66 (by decide) hnt hn8) ?_
    refine x_if_ne hm rfl (t := 29) rfl (fun h3 => ?_) (fun h3 => ?_)
    · obtain ⟨s, hs, rfl⟩ := in_k rfl (by omega) (bI_ne0 h3)
      refine x_aload_n hm rfl rfl ?_
      refine x_getf hm rfl (gR rfl rfl) ?_
      refine x_iload_n hm rfl rfl ?_
      refine x_iload_n hm rfl rfl ?_
      refine x_cVe hm rfl rfl (t67 (by decide) (by omega) hW) (fun v4 r4 => ?_)
      refine x_iret hm rfl rfl (by first | rfl | exact bI_nar | decide) ?_
      first
        | exact ⟨_, _, rfl, rfl, r4.2.cq hW⟩
        | exact ⟨_, _, rfl, rfl, r4.cq hW⟩
        | exact ⟨_, _, rfl, rfl, Cq.rf hW⟩
        | exact ⟨_, _, rfl, rfl, r1.2.cq hW⟩
        | exact ⟨_, _, rfl, rfl, r2.2.cq hW⟩
        | exact ⟨_, _, rfl, rfl, r3.2.cq hW⟩
        | exact ⟨_, _, rfl, rfl, r5.2.cq hW⟩
        | exact ⟨_, _, rfl, rfl, r6.2.cq hW⟩
        | exact ⟨_, _, rfl, rfl, r7.2.cq hW⟩
        | exact ⟨_, _, rfl, rfl, r8.2.cq hW⟩
        | exact ⟨_, _, rfl, rfl, r9.2.cq hW⟩
        | exact ⟨_, _, rfl, rfl, r10.2.cq hW⟩
        | exact ⟨_, _, rfl, rfl, r11.2.cq hW⟩
        | exact ⟨_, _, rfl, rfl, r12.2.cq hW⟩
        | exact ⟨_, _, rfl, rfl, r13.2.cq hW⟩
        | exact ⟨_, _, rfl, rfl, r14.2.cq hW⟩
        | exact ⟨_, _, rfl, rfl, r15.2.cq hW⟩
        | exact ⟨_, _, rfl, rfl, r16.2.cq hW⟩
        | exact ⟨_, _, rfl, rfl, r17.2.cq hW⟩
        | exact ⟨_, _, rfl, rfl, r18.2.cq hW⟩
        | exact ⟨_, _, rfl, rfl, r19.2.cq hW⟩
        | exact ⟨_, _, rfl, rfl, r1.cq hW⟩
        | exact ⟨_, _, rfl, rfl, r2.cq hW⟩
        | exact ⟨_, _, rfl, rfl, r3.cq hW⟩
        | exact ⟨_, _, rfl, rfl, r5.cq hW⟩
        | exact ⟨_, _, rfl, rfl, r6.cq hW⟩
        | exact ⟨_, _, rfl, rfl, r7.cq hW⟩
        | exact ⟨_, _, rfl, rfl, r8.cq hW⟩
        | exact ⟨_, _, rfl, rfl, r9.cq hW⟩
        | exact ⟨_, _, rfl, rfl, r10.cq hW⟩
        | exact ⟨_, _, rfl, rfl, r11.cq hW⟩
    · refine x_aload_n hm rfl rfl ?_
      refine x_ldcI hm rfl (v := (-1000001 : Int32)) (by decide +kernel) ?_
      refine x_cVi hm rfl rfl (t7 (by decide +kernel)) (fun v5 M5 r5 => ?_)
      refine x_iret hm rfl rfl (by first | rfl | exact bI_nar | decide) ?_
      first
        | exact ⟨_, _, rfl, rfl, r5.2.cq hW⟩
        | exact ⟨_, _, rfl, rfl, r5.cq hW⟩
        | exact ⟨_, _, rfl, rfl, Cq.rf hW⟩
        | exact ⟨_, _, rfl, rfl, r1.2.cq hW⟩
        | exact ⟨_, _, rfl, rfl, r2.2.cq hW⟩
        | exact ⟨_, _, rfl, rfl, r3.2.cq hW⟩
        | exact ⟨_, _, rfl, rfl, r4.2.cq hW⟩
        | exact ⟨_, _, rfl, rfl, r6.2.cq hW⟩
        | exact ⟨_, _, rfl, rfl, r7.2.cq hW⟩
        | exact ⟨_, _, rfl, rfl, r8.2.cq hW⟩
        | exact ⟨_, _, rfl, rfl, r9.2.cq hW⟩
        | exact ⟨_, _, rfl, rfl, r10.2.cq hW⟩
        | exact ⟨_, _, rfl, rfl, r11.2.cq hW⟩
        | exact ⟨_, _, rfl, rfl, r12.2.cq hW⟩
        | exact ⟨_, _, rfl, rfl, r13.2.cq hW⟩
        | exact ⟨_, _, rfl, rfl, r14.2.cq hW⟩
        | exact ⟨_, _, rfl, rfl, r15.2.cq hW⟩
        | exact ⟨_, _, rfl, rfl, r16.2.cq hW⟩
        | exact ⟨_, _, rfl, rfl, r17.2.cq hW⟩
        | exact ⟨_, _, rfl, rfl, r18.2.cq hW⟩
        | exact ⟨_, _, rfl, rfl, r19.2.cq hW⟩
        | exact ⟨_, _, rfl, rfl, r1.cq hW⟩
        | exact ⟨_, _, rfl, rfl, r2.cq hW⟩
        | exact ⟨_, _, rfl, rfl, r3.cq hW⟩
        | exact ⟨_, _, rfl, rfl, r4.cq hW⟩
        | exact ⟨_, _, rfl, rfl, r6.cq hW⟩
        | exact ⟨_, _, rfl, rfl, r7.cq hW⟩
        | exact ⟨_, _, rfl, rfl, r8.cq hW⟩
        | exact ⟨_, _, rfl, rfl, r9.cq hW⟩
        | exact ⟨_, _, rfl, rfl, r10.cq hW⟩
        | exact ⟨_, _, rfl, rfl, r11.cq hW⟩
end CE
end
