/-! ===== the class: its own methods ===== -/
section CD
variable {X : mSc} {Q : Option Value → mHp → Prop} {M : mM} {b : Nat}
theorem Bq.ck {M' : mM} (h : Bq b M M') (hW : Wf M) : Ck M M' := ⟨h.1 hW, fun a ha => h.2.1 a (Or.inl ha)⟩
theorem Bq.cq {M' : mM} (h : Bq 35 M M') (hW : Wf M) : Cq M M' := ⟨h.1 hW, fun a ha => h.2.1 a (by omega)⟩
theorem Bq.cell {a c : Nat} {v : Int32} (hk : okx (kd a c) v) (ha : a < 66) (hx : b = 35 → a = 55 ∨ a = 56 ∨ a = 57) (h1 : a ≠ 1) (h2 : a ≠ 18) (h3 : a ≠ 35) : Bq b M (mput M a c v) := by
  refine ⟨fun h => h.put hk, fun i hi => mpo (by omega), fun d hd _ => ?_⟩
  rw [mpo (by omega)]
  exact ⟨rfl, rfl⟩
theorem kd55 (x : Nat) : kd 55 x = 0 := by simp [kd]
theorem kd56 (x : Nat) : kd 56 x = 0 := by simp [kd]
theorem kd57 (x : Nat) : kd 57 x = 0 := by simp [kd]
theorem FD_k0 {v : Int32} (h : FD v) : ∃ k, k ≤ 6 ∧ (-1000001 : Int32) - v = nI k := by
  rcases h with rfl | rfl | rfl | rfl | rfl | rfl | rfl
  · exact ⟨0, by omega, by decide⟩
  · exact ⟨1, by omega, by decide⟩
  · exact ⟨2, by omega, by decide⟩
  · exact ⟨3, by omega, by decide⟩
  · exact ⟨4, by omega, by decide⟩
  · exact ⟨5, by omega, by decide⟩
  · exact ⟨6, by omega, by decide⟩
theorem t7 {v : Int32} (hv : FD v) : ∃ v' M', mT X 7 [.ref 0, .int v] (con M) (some (.int v')) (con M') ∧ v' = v ∧ Bq 35 M M' := by
  refine ti_of (row := _) rfl (Nat.le_of_ble_eq_true rfl) ?_
  have hm : mMet 7 = some _ := rfl
  obtain ⟨k, hk, he⟩ := FD_k0 hv
  refine x_ldcI hm rfl (v := (-1000001 : Int32)) (by decide) ?_
  refine x_iload_n hm rfl rfl ?_
  refine x_isub hm rfl ?_
  rw [he]
  refine x_istore_n hm rfl rfl ?_
  refine x_iload_n hm rfl rfl ?_
  refine x_iconst hm rfl (v := nI 0) (by decide) ?_
  refine x_bipush hm rfl (v := nI 6) (by decide) ?_
  refine x_callS hm rfl rfl (t6) ?_
  refine x_if_eq hm rfl (t := 25) rfl (fun h1 => ?_) (fun h1 => ?_)
  · refine x_iload_n hm rfl rfl ?_
    refine x_iret hm rfl rfl (by first | rfl | exact bI_nar | decide) ?_
    exact ⟨_, _, rfl, rfl, rfl, by first | exact Bq.cell (by rw [kd55]; trivial) (by decide) (fun _ => Or.inl rfl) (by decide) (by decide) (by decide) | exact Bq.rf⟩
  · refine x_aload_n hm rfl rfl ?_
    refine x_getf hm rfl (gR rfl rfl) ?_
    refine x_iload_n hm rfl rfl ?_
    refine x_dup2 hm rfl rfl rfl ?_
    refine x_iald hm rfl (lI rfl (by omega) (by decide)) ?_
    refine x_iconst hm rfl (v := nI 1) (by decide) ?_
    refine x_iadd hm rfl ?_
    refine x_iast hm rfl (sI rfl (by omega) (by decide)) ?_
    refine x_iload_n hm rfl rfl ?_
    refine x_iret hm rfl rfl (by first | rfl | exact bI_nar | decide) ?_
    exact ⟨_, _, rfl, rfl, rfl, by first | exact Bq.cell (by rw [kd55]; trivial) (by decide) (fun _ => Or.inl rfl) (by decide) (by decide) (by decide) | exact Bq.rf⟩

theorem t5 {a1 a2 : Int32} (hW : Wf M) : ∃ v M', mT X 5 [.ref 0, .int a1, .int a2] (con M) (some (.int v)) (con M') ∧ Ck M M' := by
  refine ti_of (row := _) rfl (Nat.le_of_ble_eq_true rfl) ?_
  have hm : mMet 5 = some _ := rfl
  obtain ⟨nt, hn8, hnt⟩ := hW.ct (b := 1) (by decide)
  refine x_iload_n hm rfl rfl ?_
  refine x_iconst hm rfl (v := nI 0) (by decide) ?_
  refine x_iconst hm rfl (v := nI 3) (by decide) ?_
  refine x_callS hm rfl rfl (t6) ?_
  refine x_if_eq hm rfl (t := 19) rfl (fun h1 => ?_) (fun h1 => ?_)
  · refine x_aload_n hm rfl rfl ?_
    refine x_ldcI hm rfl (v := (-1000001 : Int32)) (by decide) ?_
    refine x_cVi hm rfl rfl (t7 (by decide)) (fun v2 M2 r2 => ?_)
    refine x_iret hm rfl rfl (by first | rfl | exact bI_nar | decide) ?_
    first
      | exact ⟨_, _, rfl, rfl, r2.2.ck hW⟩
      | exact ⟨_, _, rfl, rfl, r2.2.1.ck hW⟩
      | exact ⟨_, _, rfl, rfl, Ck.rf hW⟩
      | exact ⟨_, _, rfl, rfl, r1.2.ck hW⟩
      | exact ⟨_, _, rfl, rfl, r3.2.ck hW⟩
      | exact ⟨_, _, rfl, rfl, r4.2.ck hW⟩
      | exact ⟨_, _, rfl, rfl, r5.2.ck hW⟩
      | exact ⟨_, _, rfl, rfl, r6.2.ck hW⟩
      | exact ⟨_, _, rfl, rfl, r7.2.ck hW⟩
      | exact ⟨_, _, rfl, rfl, r8.2.ck hW⟩
      | exact ⟨_, _, rfl, rfl, r9.2.ck hW⟩
      | exact ⟨_, _, rfl, rfl, r10.2.ck hW⟩
      | exact ⟨_, _, rfl, rfl, r11.2.ck hW⟩
      | exact ⟨_, _, rfl, rfl, r12.2.ck hW⟩
      | exact ⟨_, _, rfl, rfl, r13.2.ck hW⟩
      | exact ⟨_, _, rfl, rfl, r14.2.ck hW⟩
      | exact ⟨_, _, rfl, rfl, r15.2.ck hW⟩
      | exact ⟨_, _, rfl, rfl, r16.2.ck hW⟩
      | exact ⟨_, _, rfl, rfl, r17.2.ck hW⟩
      | exact ⟨_, _, rfl, rfl, r18.2.ck hW⟩
      | exact ⟨_, _, rfl, rfl, r19.2.ck hW⟩
      | exact ⟨_, _, rfl, rfl, r1.2.1.ck hW⟩
      | exact ⟨_, _, rfl, rfl, r3.2.1.ck hW⟩
      | exact ⟨_, _, rfl, rfl, r4.2.1.ck hW⟩
      | exact ⟨_, _, rfl, rfl, r5.2.1.ck hW⟩
      | exact ⟨_, _, rfl, rfl, r6.2.1.ck hW⟩
      | exact ⟨_, _, rfl, rfl, r7.2.1.ck hW⟩
      | exact ⟨_, _, rfl, rfl, r8.2.1.ck hW⟩
      | exact ⟨_, _, rfl, rfl, r9.2.1.ck hW⟩
      | exact ⟨_, _, rfl, rfl, r10.2.1.ck hW⟩
      | exact ⟨_, _, rfl, rfl, r11.2.1.ck hW⟩
  · have hs := okx_le3 (bI_ne0 h1)
    refine x_iload_n hm rfl rfl ?_
    refine x_iconst hm rfl (v := nI 0) (by decide) ?_
    refine x_bipush hm rfl (v := nI 15) (by decide) ?_
    refine x_callS hm rfl rfl (t6) ?_
    refine x_if_ne hm rfl (t := 26) rfl (fun h3 => ?_) (fun h3 => ?_)
    · refine x_aload_n hm rfl rfl ?_
      refine x_getf hm rfl (gR rfl rfl) ?_
      refine x_getf hm rfl (gI rfl rfl) ?_
      rw [hnt]
      refine x_bipush hm rfl (v := nI 8) (by decide) ?_
      refine x_icmp_lt hm rfl (t := 45) rfl (fun h4 => ?_) (fun h4 => ?_)
      · have hlt : nt < 8 := Nat.lt_of_not_le fun h => absurd h4 (Int32.not_lt.mpr (nI_le h (by omega)))
        refine x_aload_n hm rfl rfl ?_
        refine x_getf hm rfl (gR rfl rfl) ?_
        refine x_iload_n hm rfl rfl ?_
        refine x_iload_n hm rfl rfl ?_
        refine x_cVi hm rfl rfl (t8 (by decide) hnt hlt hs) (fun v5 M5 r5 => ?_)
        refine x_iret hm rfl rfl (by first | rfl | exact bI_nar | decide) ?_
        first
          | exact ⟨_, _, rfl, rfl, r5.2.ck hW⟩
          | exact ⟨_, _, rfl, rfl, r5.2.1.ck hW⟩
          | exact ⟨_, _, rfl, rfl, Ck.rf hW⟩
          | exact ⟨_, _, rfl, rfl, r1.2.ck hW⟩
          | exact ⟨_, _, rfl, rfl, r2.2.ck hW⟩
          | exact ⟨_, _, rfl, rfl, r3.2.ck hW⟩
          | exact ⟨_, _, rfl, rfl, r4.2.ck hW⟩
          | exact ⟨_, _, rfl, rfl, r6.2.ck hW⟩
          | exact ⟨_, _, rfl, rfl, r7.2.ck hW⟩
          | exact ⟨_, _, rfl, rfl, r8.2.ck hW⟩
          | exact ⟨_, _, rfl, rfl, r9.2.ck hW⟩
          | exact ⟨_, _, rfl, rfl, r10.2.ck hW⟩
          | exact ⟨_, _, rfl, rfl, r11.2.ck hW⟩
          | exact ⟨_, _, rfl, rfl, r12.2.ck hW⟩
          | exact ⟨_, _, rfl, rfl, r13.2.ck hW⟩
          | exact ⟨_, _, rfl, rfl, r14.2.ck hW⟩
          | exact ⟨_, _, rfl, rfl, r15.2.ck hW⟩
          | exact ⟨_, _, rfl, rfl, r16.2.ck hW⟩
          | exact ⟨_, _, rfl, rfl, r17.2.ck hW⟩
          | exact ⟨_, _, rfl, rfl, r18.2.ck hW⟩
          | exact ⟨_, _, rfl, rfl, r19.2.ck hW⟩
          | exact ⟨_, _, rfl, rfl, r1.2.1.ck hW⟩
          | exact ⟨_, _, rfl, rfl, r2.2.1.ck hW⟩
          | exact ⟨_, _, rfl, rfl, r3.2.1.ck hW⟩
          | exact ⟨_, _, rfl, rfl, r4.2.1.ck hW⟩
          | exact ⟨_, _, rfl, rfl, r6.2.1.ck hW⟩
          | exact ⟨_, _, rfl, rfl, r7.2.1.ck hW⟩
          | exact ⟨_, _, rfl, rfl, r8.2.1.ck hW⟩
          | exact ⟨_, _, rfl, rfl, r9.2.1.ck hW⟩
          | exact ⟨_, _, rfl, rfl, r10.2.1.ck hW⟩
          | exact ⟨_, _, rfl, rfl, r11.2.1.ck hW⟩
      · refine x_aload_n hm rfl rfl ?_
        refine x_ldcI hm rfl (v := (-1000002 : Int32)) (by decide) ?_
        refine x_cVi hm rfl rfl (t7 (by decide)) (fun v6 M6 r6 => ?_)
        refine x_iret hm rfl rfl (by first | rfl | exact bI_nar | decide) ?_
        first
          | exact ⟨_, _, rfl, rfl, r6.2.ck hW⟩
          | exact ⟨_, _, rfl, rfl, r6.2.1.ck hW⟩
          | exact ⟨_, _, rfl, rfl, Ck.rf hW⟩
          | exact ⟨_, _, rfl, rfl, r1.2.ck hW⟩
          | exact ⟨_, _, rfl, rfl, r2.2.ck hW⟩
          | exact ⟨_, _, rfl, rfl, r3.2.ck hW⟩
          | exact ⟨_, _, rfl, rfl, r4.2.ck hW⟩
          | exact ⟨_, _, rfl, rfl, r5.2.ck hW⟩
          | exact ⟨_, _, rfl, rfl, r7.2.ck hW⟩
          | exact ⟨_, _, rfl, rfl, r8.2.ck hW⟩
          | exact ⟨_, _, rfl, rfl, r9.2.ck hW⟩
          | exact ⟨_, _, rfl, rfl, r10.2.ck hW⟩
          | exact ⟨_, _, rfl, rfl, r11.2.ck hW⟩
          | exact ⟨_, _, rfl, rfl, r12.2.ck hW⟩
          | exact ⟨_, _, rfl, rfl, r13.2.ck hW⟩
          | exact ⟨_, _, rfl, rfl, r14.2.ck hW⟩
          | exact ⟨_, _, rfl, rfl, r15.2.ck hW⟩
          | exact ⟨_, _, rfl, rfl, r16.2.ck hW⟩
          | exact ⟨_, _, rfl, rfl, r17.2.ck hW⟩
          | exact ⟨_, _, rfl, rfl, r18.2.ck hW⟩
          | exact ⟨_, _, rfl, rfl, r19.2.ck hW⟩
          | exact ⟨_, _, rfl, rfl, r1.2.1.ck hW⟩
          | exact ⟨_, _, rfl, rfl, r2.2.1.ck hW⟩
          | exact ⟨_, _, rfl, rfl, r3.2.1.ck hW⟩
          | exact ⟨_, _, rfl, rfl, r4.2.1.ck hW⟩
          | exact ⟨_, _, rfl, rfl, r5.2.1.ck hW⟩
          | exact ⟨_, _, rfl, rfl, r7.2.1.ck hW⟩
          | exact ⟨_, _, rfl, rfl, r8.2.1.ck hW⟩
          | exact ⟨_, _, rfl, rfl, r9.2.1.ck hW⟩
          | exact ⟨_, _, rfl, rfl, r10.2.1.ck hW⟩
          | exact ⟨_, _, rfl, rfl, r11.2.1.ck hW⟩
    · refine x_aload_n hm rfl rfl ?_
      refine x_ldcI hm rfl (v := (-1000001 : Int32)) (by decide) ?_
      refine x_cVi hm rfl rfl (t7 (by decide)) (fun v7 M7 r7 => ?_)
      refine x_iret hm rfl rfl (by first | rfl | exact bI_nar | decide) ?_
      first
        | exact ⟨_, _, rfl, rfl, r7.2.ck hW⟩
        | exact ⟨_, _, rfl, rfl, r7.2.1.ck hW⟩
        | exact ⟨_, _, rfl, rfl, Ck.rf hW⟩
        | exact ⟨_, _, rfl, rfl, r1.2.ck hW⟩
        | exact ⟨_, _, rfl, rfl, r2.2.ck hW⟩
        | exact ⟨_, _, rfl, rfl, r3.2.ck hW⟩
        | exact ⟨_, _, rfl, rfl, r4.2.ck hW⟩
        | exact ⟨_, _, rfl, rfl, r5.2.ck hW⟩
        | exact ⟨_, _, rfl, rfl, r6.2.ck hW⟩
        | exact ⟨_, _, rfl, rfl, r8.2.ck hW⟩
        | exact ⟨_, _, rfl, rfl, r9.2.ck hW⟩
        | exact ⟨_, _, rfl, rfl, r10.2.ck hW⟩
        | exact ⟨_, _, rfl, rfl, r11.2.ck hW⟩
        | exact ⟨_, _, rfl, rfl, r12.2.ck hW⟩
        | exact ⟨_, _, rfl, rfl, r13.2.ck hW⟩
        | exact ⟨_, _, rfl, rfl, r14.2.ck hW⟩
        | exact ⟨_, _, rfl, rfl, r15.2.ck hW⟩
        | exact ⟨_, _, rfl, rfl, r16.2.ck hW⟩
        | exact ⟨_, _, rfl, rfl, r17.2.ck hW⟩
        | exact ⟨_, _, rfl, rfl, r18.2.ck hW⟩
        | exact ⟨_, _, rfl, rfl, r19.2.ck hW⟩
        | exact ⟨_, _, rfl, rfl, r1.2.1.ck hW⟩
        | exact ⟨_, _, rfl, rfl, r2.2.1.ck hW⟩
        | exact ⟨_, _, rfl, rfl, r3.2.1.ck hW⟩
        | exact ⟨_, _, rfl, rfl, r4.2.1.ck hW⟩
        | exact ⟨_, _, rfl, rfl, r5.2.1.ck hW⟩
        | exact ⟨_, _, rfl, rfl, r6.2.1.ck hW⟩
        | exact ⟨_, _, rfl, rfl, r8.2.1.ck hW⟩
        | exact ⟨_, _, rfl, rfl, r9.2.1.ck hW⟩
        | exact ⟨_, _, rfl, rfl, r10.2.1.ck hW⟩
        | exact ⟨_, _, rfl, rfl, r11.2.1.ck hW⟩
end CD
