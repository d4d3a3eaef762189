/-! ===== the class: strollers, odds, spots, images, counts ===== -/
section CG
variable {X : mSc} {Q : Option Value → mHp → Prop} {M : mM} {b : Nat}
theorem Tw.z {v : Int32} {x : Nat} (h1 : x ≠ 3) (h2 : x ≠ 4) : Tw 1 M (mput M 1 x v) := Tw.fld (b := 1) (by decide) h1 h2
theorem Ck.reader {v : Int32} {x : Nat} (hW : Wf M) (hv : okx (if x = 1 then 4 else 0) v) : Ck M (mput M 52 x v) := by
  refine ⟨hW.put ?_, fun a ha => mpo (by omega)⟩
  have e : kd 52 x = if x = 1 then 4 else 0 := by simp [kd]
  rw [e]
  exact hv
theorem Ck.flag {v : Int32} (hW : Wf M) {x : Nat} : Ck M (mput M 0 x v) := ⟨hW.put0 (by simp [kd]), fun a ha => mpo (by omega)⟩
theorem Cq.trans {M1 M2 : mM} (h : Cq M M1) (g : Cq M1 M2) : Cq M M2 := ⟨g.1, fun a ha => (g.2 a ha).trans (h.2 a ha)⟩
theorem Ck.trans {M1 M2 : mM} (h : Ck M M1) (g : Ck M1 M2) : Ck M M2 := ⟨g.1, fun a ha => (g.2 a ha).trans (h.2 a ha)⟩
theorem t86 {a1 : Int32} (hW : Wf M) : ∃ v M', mT X 86 [.ref 0, .int a1] (con M) (some (.int v)) (con M') ∧ Ck M M' := by
  refine ti_of (row := _) rfl (Nat.le_of_ble_eq_true rfl) ?_
  have hm : mMet 86 = some _ := rfl
  refine x_aload_n hm rfl rfl ?_
  refine x_getf hm rfl (gR rfl rfl) ?_
  refine x_getf hm rfl (gI rfl rfl) ?_
  refine x_istore_n hm rfl rfl ?_
  refine x_aload_n hm rfl rfl ?_
  refine x_getf hm rfl (gR rfl rfl) ?_
  refine x_iload_n hm rfl rfl ?_
  refine x_putf hm rfl (pI rfl rfl (by decide) (by first | exact mFit_int | rfl | decide) rfl) ?_
  refine x_iload_n hm rfl rfl ?_
  refine x_iret hm rfl rfl (by first | rfl | exact bI_nar | decide) ?_
  exact ⟨_, _, rfl, rfl, (Tw.z (by decide) (by decide)).ck hW⟩
theorem t89  (hW : Wf M) : ∃ v M', mT X 89 [.ref 0] (con M) (some (.int v)) (con M') ∧ Ck M M' := by
  refine ti_of (row := _) rfl (Nat.le_of_ble_eq_true rfl) ?_
  have hm : mMet 89 = some _ := rfl
  refine x_aload_n hm rfl rfl ?_
  refine x_getf hm rfl (gR rfl rfl) ?_
  refine x_getf hm rfl (gI rfl rfl) ?_
  refine x_istore_n hm rfl rfl ?_
  refine x_aload_n hm rfl rfl ?_
  refine x_getf hm rfl (gR rfl rfl) ?_
  refine x_iconst hm rfl (v := nI 0) (by decide) ?_
  refine x_putf hm rfl (pI rfl rfl (by decide) (by first | exact mFit_int | rfl | decide) rfl) ?_
  refine x_iload_n hm rfl rfl ?_
  refine x_iret hm rfl rfl (by first | rfl | exact bI_nar | decide) ?_
  exact ⟨_, _, rfl, rfl, Ck.reader hW (okI4 (k := 0) (by decide))⟩
theorem t114 {a1 a2 : Int32} (hW : Wf M) : ∃ v M', mT X 114 [.ref 0, .int a1, .int a2] (con M) (some (.int v)) (con M') ∧ Ck M M' := by
  refine ti_of (row := _) rfl (Nat.le_of_ble_eq_true rfl) ?_
  have hm : mMet 114 = some _ := rfl
  obtain ⟨np, hp8, hnp⟩ := hW.cpn (b := 1) (by decide)
  refine x_iload_n hm rfl rfl ?_
  refine x_iconst hm rfl (v := nI 0) (by decide) ?_
  refine x_bipush hm rfl (v := nI 9) (by decide) ?_
  refine x_callS hm rfl rfl (t6) ?_
  refine x_if_eq hm rfl (t := 26) rfl (fun h1 => ?_) (fun h1 => ?_)
  · refine x_aload_n hm rfl rfl ?_
    refine x_ldcI hm rfl (v := (-1000001 : Int32)) (by decide +kernel) ?_
    refine x_cVi hm rfl rfl (t7 (by decide +kernel)) (fun v2 M2 r2 => ?_)
    refine x_iret hm rfl rfl (by first | rfl | exact bI_nar | decide) ?_
    first
      | exact ⟨_, _, rfl, rfl, r2.2.ck hW⟩
      | exact ⟨_, _, rfl, rfl, Ck.rf hW⟩
      | exact ⟨_, _, rfl, rfl, (Tw.row (b := 1) (j := 16) (by decide) (by decide) (by decide) hq).ck hW⟩
      | exact ⟨_, _, rfl, rfl, r1.2.ck hW⟩
      | exact ⟨_, _, rfl, rfl, r3.2.ck hW⟩
      | exact ⟨_, _, rfl, rfl, r4.2.ck hW⟩
      | exact ⟨_, _, rfl, rfl, r5.2.ck hW⟩
      | exact ⟨_, _, rfl, rfl, r6.2.ck hW⟩
      | exact ⟨_, _, rfl, rfl, r7.2.ck hW⟩
      | exact ⟨_, _, rfl, rfl, r8.2.ck hW⟩
      | exact ⟨_, _, rfl, rfl, r9.2.ck hW⟩
      | exact ⟨_, _, rfl, rfl, r10.2.ck hW⟩
      | exact ⟨_, _, rfl, rfl, r11.2.ck hW⟩
      | exact ⟨_, _, rfl, rfl, r12.2.ck hW⟩
      | exact ⟨_, _, rfl, rfl, r13.2.ck hW⟩
      | exact ⟨_, _, rfl, rfl, r14.2.ck hW⟩
      | exact ⟨_, _, rfl, rfl, r15.2.ck hW⟩
      | exact ⟨_, _, rfl, rfl, r16.2.ck hW⟩
      | exact ⟨_, _, rfl, rfl, r17.2.ck hW⟩
      | exact ⟨_, _, rfl, rfl, r18.2.ck hW⟩
      | exact ⟨_, _, rfl, rfl, r19.2.ck hW⟩
  · obtain ⟨s, hs, rfl⟩ := le_k (by omega) (bI_ne0 h1)
    refine x_iload_n hm rfl rfl ?_
    refine x_iconst hm rfl (v := (-1 : Int32)) (by decide) ?_
    refine x_icmp_eq hm rfl (t := 33) rfl (fun h3 => ?_) (fun h3 => ?_)
    · have hq : okx 2 a2 := by rw [h3]; exact okM1
      refine x_aload_n hm rfl rfl ?_
      refine x_getf hm rfl (gR rfl rfl) ?_
      refine x_getf hm rfl (gR rfl rfl) ?_
      refine x_iload_n hm rfl rfl ?_
      refine x_iload_n hm rfl rfl ?_
      refine x_iast hm rfl (sI rfl (by omega) (by decide)) ?_
      refine x_iconst hm rfl (v := nI 1) (by decide) ?_
      refine x_iret hm rfl rfl (by first | rfl | exact bI_nar | decide) ?_
      first
        | exact ⟨_, _, rfl, rfl, Ck.rf hW⟩
        | exact ⟨_, _, rfl, rfl, (Tw.row (b := 1) (j := 16) (by decide) (by decide) (by decide) hq).ck hW⟩
        | exact ⟨_, _, rfl, rfl, r1.2.ck hW⟩
        | exact ⟨_, _, rfl, rfl, r2.2.ck hW⟩
        | exact ⟨_, _, rfl, rfl, r3.2.ck hW⟩
        | exact ⟨_, _, rfl, rfl, r4.2.ck hW⟩
        | exact ⟨_, _, rfl, rfl, r5.2.ck hW⟩
        | exact ⟨_, _, rfl, rfl, r6.2.ck hW⟩
        | exact ⟨_, _, rfl, rfl, r7.2.ck hW⟩
        | exact ⟨_, _, rfl, rfl, r8.2.ck hW⟩
        | exact ⟨_, _, rfl, rfl, r9.2.ck hW⟩
        | exact ⟨_, _, rfl, rfl, r10.2.ck hW⟩
        | exact ⟨_, _, rfl, rfl, r11.2.ck hW⟩
        | exact ⟨_, _, rfl, rfl, r12.2.ck hW⟩
        | exact ⟨_, _, rfl, rfl, r13.2.ck hW⟩
        | exact ⟨_, _, rfl, rfl, r14.2.ck hW⟩
        | exact ⟨_, _, rfl, rfl, r15.2.ck hW⟩
        | exact ⟨_, _, rfl, rfl, r16.2.ck hW⟩
        | exact ⟨_, _, rfl, rfl, r17.2.ck hW⟩
        | exact ⟨_, _, rfl, rfl, r18.2.ck hW⟩
        | exact ⟨_, _, rfl, rfl, r19.2.ck hW⟩
    · refine x_aload_n hm rfl rfl ?_
      refine x_getf hm rfl (gR rfl rfl) ?_
      refine x_iload_n hm rfl rfl ?_
      refine x_callV hm rfl rfl (t19 (by decide)) ?_
      refine x_if_ne hm rfl (t := 33) rfl (fun h4 => ?_) (fun h4 => ?_)
      · have hq : okx 2 a2 := by
          obtain ⟨k, hk, e⟩ := in_k hnp (by omega) (bI_ne0 h4)
          rw [e]; exact okI2 (by omega)
        refine x_aload_n hm rfl rfl ?_
        refine x_getf hm rfl (gR rfl rfl) ?_
        refine x_getf hm rfl (gR rfl rfl) ?_
        refine x_iload_n hm rfl rfl ?_
        refine x_iload_n hm rfl rfl ?_
        refine x_iast hm rfl (sI rfl (by omega) (by decide)) ?_
        refine x_iconst hm rfl (v := nI 1) (by decide) ?_
        refine x_iret hm rfl rfl (by first | rfl | exact bI_nar | decide) ?_
        first
          | exact ⟨_, _, rfl, rfl, Ck.rf hW⟩
          | exact ⟨_, _, rfl, rfl, (Tw.row (b := 1) (j := 16) (by decide) (by decide) (by decide) hq).ck hW⟩
          | exact ⟨_, _, rfl, rfl, r1.2.ck hW⟩
          | exact ⟨_, _, rfl, rfl, r2.2.ck hW⟩
          | exact ⟨_, _, rfl, rfl, r3.2.ck hW⟩
          | exact ⟨_, _, rfl, rfl, r4.2.ck hW⟩
          | exact ⟨_, _, rfl, rfl, r5.2.ck hW⟩
          | exact ⟨_, _, rfl, rfl, r6.2.ck hW⟩
          | exact ⟨_, _, rfl, rfl, r7.2.ck hW⟩
          | exact ⟨_, _, rfl, rfl, r8.2.ck hW⟩
          | exact ⟨_, _, rfl, rfl, r9.2.ck hW⟩
          | exact ⟨_, _, rfl, rfl, r10.2.ck hW⟩
          | exact ⟨_, _, rfl, rfl, r11.2.ck hW⟩
          | exact ⟨_, _, rfl, rfl, r12.2.ck hW⟩
          | exact ⟨_, _, rfl, rfl, r13.2.ck hW⟩
          | exact ⟨_, _, rfl, rfl, r14.2.ck hW⟩
          | exact ⟨_, _, rfl, rfl, r15.2.ck hW⟩
          | exact ⟨_, _, rfl, rfl, r16.2.ck hW⟩
          | exact ⟨_, _, rfl, rfl, r17.2.ck hW⟩
          | exact ⟨_, _, rfl, rfl, r18.2.ck hW⟩
          | exact ⟨_, _, rfl, rfl, r19.2.ck hW⟩
      · refine x_aload_n hm rfl rfl ?_
        refine x_ldcI hm rfl (v := (-1000001 : Int32)) (by decide +kernel) ?_
        refine x_cVi hm rfl rfl (t7 (by decide +kernel)) (fun v5 M5 r5 => ?_)
        refine x_iret hm rfl rfl (by first | rfl | exact bI_nar | decide) ?_
        first
          | exact ⟨_, _, rfl, rfl, r5.2.ck hW⟩
          | exact ⟨_, _, rfl, rfl, Ck.rf hW⟩
          | exact ⟨_, _, rfl, rfl, (Tw.row (b := 1) (j := 16) (by decide) (by decide) (by decide) hq).ck hW⟩
          | exact ⟨_, _, rfl, rfl, r1.2.ck hW⟩
          | exact ⟨_, _, rfl, rfl, r2.2.ck hW⟩
          | exact ⟨_, _, rfl, rfl, r3.2.ck hW⟩
          | exact ⟨_, _, rfl, rfl, r4.2.ck hW⟩
          | exact ⟨_, _, rfl, rfl, r6.2.ck hW⟩
          | exact ⟨_, _, rfl, rfl, r7.2.ck hW⟩
          | exact ⟨_, _, rfl, rfl, r8.2.ck hW⟩
          | exact ⟨_, _, rfl, rfl, r9.2.ck hW⟩
          | exact ⟨_, _, rfl, rfl, r10.2.ck hW⟩
          | exact ⟨_, _, rfl, rfl, r11.2.ck hW⟩
          | exact ⟨_, _, rfl, rfl, r12.2.ck hW⟩
          | exact ⟨_, _, rfl, rfl, r13.2.ck hW⟩
          | exact ⟨_, _, rfl, rfl, r14.2.ck hW⟩
          | exact ⟨_, _, rfl, rfl, r15.2.ck hW⟩
          | exact ⟨_, _, rfl, rfl, r16.2.ck hW⟩
          | exact ⟨_, _, rfl, rfl, r17.2.ck hW⟩
          | exact ⟨_, _, rfl, rfl, r18.2.ck hW⟩
          | exact ⟨_, _, rfl, rfl, r19.2.ck hW⟩
theorem t115 {a1 a2 : Int32} (hW : Wf M) : ∃ v M', mT X 115 [.ref 0, .int a1, .int a2] (con M) (some (.int v)) (con M') ∧ Cq M M' := by
  refine ti_of (row := _) rfl (Nat.le_of_ble_eq_true rfl) ?_
  have hm : mMet 115 = some _ := rfl
  refine x_iload_n hm rfl rfl ?_
  refine x_iconst hm rfl (v := nI 0) (by decide) ?_
  refine x_bipush hm rfl (v := nI 9) (by decide) ?_
  refine x_callS hm rfl rfl (t6) ?_
  refine x_if_eq hm rfl (t := 20) rfl (fun h1 => ?_) (fun h1 => ?_)
  · refine x_aload_n hm rfl rfl ?_
    refine x_ldcI hm rfl (v := (-1000001 : Int32)) (by decide +kernel) ?_
    refine x_cVi hm rfl rfl (t7 (by decide +kernel)) (fun v2 M2 r2 => ?_)
    refine x_iret hm rfl rfl (by first | rfl | exact bI_nar | decide) ?_
    first
      | exact ⟨_, _, rfl, rfl, r2.2.cq hW⟩
      | exact ⟨_, _, rfl, rfl, r2.cq hW⟩
      | exact ⟨_, _, rfl, rfl, Cq.rf hW⟩
      | exact ⟨_, _, rfl, rfl, r1.2.cq hW⟩
      | exact ⟨_, _, rfl, rfl, r3.2.cq hW⟩
      | exact ⟨_, _, rfl, rfl, r4.2.cq hW⟩
      | exact ⟨_, _, rfl, rfl, r5.2.cq hW⟩
      | exact ⟨_, _, rfl, rfl, r6.2.cq hW⟩
      | exact ⟨_, _, rfl, rfl, r7.2.cq hW⟩
      | exact ⟨_, _, rfl, rfl, r8.2.cq hW⟩
      | exact ⟨_, _, rfl, rfl, r9.2.cq hW⟩
      | exact ⟨_, _, rfl, rfl, r10.2.cq hW⟩
      | exact ⟨_, _, rfl, rfl, r11.2.cq hW⟩
      | exact ⟨_, _, rfl, rfl, r12.2.cq hW⟩
      | exact ⟨_, _, rfl, rfl, r13.2.cq hW⟩
      | exact ⟨_, _, rfl, rfl, r14.2.cq hW⟩
      | exact ⟨_, _, rfl, rfl, r15.2.cq hW⟩
      | exact ⟨_, _, rfl, rfl, r16.2.cq hW⟩
      | exact ⟨_, _, rfl, rfl, r17.2.cq hW⟩
      | exact ⟨_, _, rfl, rfl, r18.2.cq hW⟩
      | exact ⟨_, _, rfl, rfl, r19.2.cq hW⟩
      | exact ⟨_, _, rfl, rfl, r1.cq hW⟩
      | exact ⟨_, _, rfl, rfl, r3.cq hW⟩
      | exact ⟨_, _, rfl, rfl, r4.cq hW⟩
      | exact ⟨_, _, rfl, rfl, r5.cq hW⟩
      | exact ⟨_, _, rfl, rfl, r6.cq hW⟩
      | exact ⟨_, _, rfl, rfl, r7.cq hW⟩
      | exact ⟨_, _, rfl, rfl, r8.cq hW⟩
      | exact ⟨_, _, rfl, rfl, r9.cq hW⟩
      | exact ⟨_, _, rfl, rfl, r10.cq hW⟩
      | exact ⟨_, _, rfl, rfl, r11.cq hW⟩
  · obtain ⟨s, hs, rfl⟩ := le_k (by omega) (bI_ne0 h1)
    refine x_iload_n hm rfl rfl ?_
    refine x_iconst hm rfl (v := nI 0) (by decide) ?_
    refine x_bipush hm rfl (v := nI 6) (by decide) ?_
    refine x_callS hm rfl rfl (t6) ?_
    refine x_if_ne hm rfl (t := 27) rfl (fun h3 => ?_) (fun h3 => ?_)
    · refine x_aload_n hm rfl rfl ?_
      refine x_getf hm rfl (gR rfl rfl) ?_
      refine x_getf hm rfl (gR rfl rfl) ?_
      refine x_iload_n hm rfl rfl ?_
      refine x_iald hm rfl (lI rfl (by omega) (by decide)) ?_
      have hc2 : okx 2 (M 17 s) := by
        have := hW (1 + 16) s
        rw [kdT (b := 1) (j := 16) (by decide) (by decide) (by decide)] at this
        exact this
      generalize M 17 s = c at hc2 ⊢
      refine x_istore_n hm rfl rfl ?_
      refine x_iload_n hm rfl rfl ?_
      refine x_iconst hm rfl (v := (-1 : Int32)) (by decide) ?_
      refine x_icmp_ne hm rfl (t := 49) rfl (fun h4 => ?_) (fun h4 => ?_)
      · obtain ⟨k, hk, rfl⟩ := (ok2 hc2).resolve_left h4
        refine x_aload_n hm rfl rfl ?_
        refine x_getf hm rfl (gR rfl rfl) ?_
        refine x_getf hm rfl (gR rfl rfl) ?_
        refine x_iconst hm rfl (v := nI 0) (by decide) ?_
        refine x_aald hm rfl (lQ _ (by decide) rfl rfl (by omega) (by decide)) ?_
        refine x_iload_n hm rfl rfl ?_
        refine x_iald hm rfl (lI rfl (by omega) (by decide)) ?_
        refine x_iload_n hm rfl rfl ?_
        refine x_cSe hm rfl rfl (t14) (fun v5 r5 => ?_)
        refine x_if_eq hm rfl (t := 71) rfl (fun h6 => ?_) (fun h6 => ?_)
        · refine x_aload_n hm rfl rfl ?_
          refine x_ldcI hm rfl (v := (-1000003 : Int32)) (by decide +kernel) ?_
          refine x_cVi hm rfl rfl (t7 (by decide +kernel)) (fun v7 M7 r7 => ?_)
          refine x_iret hm rfl rfl (by first | rfl | exact bI_nar | decide) ?_
          first
            | exact ⟨_, _, rfl, rfl, r7.2.cq hW⟩
            | exact ⟨_, _, rfl, rfl, r7.cq hW⟩
            | exact ⟨_, _, rfl, rfl, Cq.rf hW⟩
            | exact ⟨_, _, rfl, rfl, r5.2.cq hW⟩
            | exact ⟨_, _, rfl, rfl, r5.cq hW⟩
            | exact ⟨_, _, rfl, rfl, r1.2.cq hW⟩
            | exact ⟨_, _, rfl, rfl, r2.2.cq hW⟩
            | exact ⟨_, _, rfl, rfl, r3.2.cq hW⟩
            | exact ⟨_, _, rfl, rfl, r4.2.cq hW⟩
            | exact ⟨_, _, rfl, rfl, r6.2.cq hW⟩
            | exact ⟨_, _, rfl, rfl, r8.2.cq hW⟩
            | exact ⟨_, _, rfl, rfl, r9.2.cq hW⟩
            | exact ⟨_, _, rfl, rfl, r10.2.cq hW⟩
            | exact ⟨_, _, rfl, rfl, r11.2.cq hW⟩
            | exact ⟨_, _, rfl, rfl, r12.2.cq hW⟩
            | exact ⟨_, _, rfl, rfl, r13.2.cq hW⟩
            | exact ⟨_, _, rfl, rfl, r14.2.cq hW⟩
            | exact ⟨_, _, rfl, rfl, r15.2.cq hW⟩
            | exact ⟨_, _, rfl, rfl, r16.2.cq hW⟩
            | exact ⟨_, _, rfl, rfl, r17.2.cq hW⟩
            | exact ⟨_, _, rfl, rfl, r18.2.cq hW⟩
            | exact ⟨_, _, rfl, rfl, r19.2.cq hW⟩
            | exact ⟨_, _, rfl, rfl, r1.cq hW⟩
            | exact ⟨_, _, rfl, rfl, r2.cq hW⟩
            | exact ⟨_, _, rfl, rfl, r3.cq hW⟩
            | exact ⟨_, _, rfl, rfl, r4.cq hW⟩
            | exact ⟨_, _, rfl, rfl, r6.cq hW⟩
            | exact ⟨_, _, rfl, rfl, r8.cq hW⟩
            | exact ⟨_, _, rfl, rfl, r9.cq hW⟩
            | exact ⟨_, _, rfl, rfl, r10.cq hW⟩
            | exact ⟨_, _, rfl, rfl, r11.cq hW⟩
        · refine x_iload_n hm rfl rfl ?_
          refine x_goto hm rfl (t := 77) rfl ?_
          refine x_iret hm rfl rfl (by first | rfl | exact bI_nar | decide) ?_
          first
            | exact ⟨_, _, rfl, rfl, r5.2.cq hW⟩
            | exact ⟨_, _, rfl, rfl, r5.cq hW⟩
            | exact ⟨_, _, rfl, rfl, Cq.rf hW⟩
            | exact ⟨_, _, rfl, rfl, r1.2.cq hW⟩
            | exact ⟨_, _, rfl, rfl, r2.2.cq hW⟩
            | exact ⟨_, _, rfl, rfl, r3.2.cq hW⟩
            | exact ⟨_, _, rfl, rfl, r4.2.cq hW⟩
            | exact ⟨_, _, rfl, rfl, r6.2.cq hW⟩
            | exact ⟨_, _, rfl, rfl, r7.2.cq hW⟩
            | exact ⟨_, _, rfl, rfl, r8.2.cq hW⟩
            | exact ⟨_, _, rfl, rfl, r9.2.cq hW⟩
            | exact ⟨_, _, rfl, rfl, r10.2.cq hW⟩
            | exact ⟨_, _, rfl, rfl, r11.2.cq hW⟩
            | exact ⟨_, _, rfl, rfl, r12.2.cq hW⟩
            | exact ⟨_, _, rfl, rfl, r13.2.cq hW⟩
            | exact ⟨_, _, rfl, rfl, r14.2.cq hW⟩
            | exact ⟨_, _, rfl, rfl, r15.2.cq hW⟩
            | exact ⟨_, _, rfl, rfl, r16.2.cq hW⟩
            | exact ⟨_, _, rfl, rfl, r17.2.cq hW⟩
            | exact ⟨_, _, rfl, rfl, r18.2.cq hW⟩
            | exact ⟨_, _, rfl, rfl, r19.2.cq hW⟩
            | exact ⟨_, _, rfl, rfl, r1.cq hW⟩
            | exact ⟨_, _, rfl, rfl, r2.cq hW⟩
            | exact ⟨_, _, rfl, rfl, r3.cq hW⟩
            | exact ⟨_, _, rfl, rfl, r4.cq hW⟩
            | exact ⟨_, _, rfl, rfl, r6.cq hW⟩
            | exact ⟨_, _, rfl, rfl, r7.cq hW⟩
            | exact ⟨_, _, rfl, rfl, r8.cq hW⟩
            | exact ⟨_, _, rfl, rfl, r9.cq hW⟩
            | exact ⟨_, _, rfl, rfl, r10.cq hW⟩
            | exact ⟨_, _, rfl, rfl, r11.cq hW⟩
      · refine x_aload_n hm rfl rfl ?_
        refine x_ldcI hm rfl (v := (-1000006 : Int32)) (by decide +kernel) ?_
        refine x_cVi hm rfl rfl (t7 (by decide +kernel)) (fun v8 M8 r8 => ?_)
        refine x_iret hm rfl rfl (by first | rfl | exact bI_nar | decide) ?_
        first
          | exact ⟨_, _, rfl, rfl, r8.2.cq hW⟩
          | exact ⟨_, _, rfl, rfl, r8.cq hW⟩
          | exact ⟨_, _, rfl, rfl, Cq.rf hW⟩
          | exact ⟨_, _, rfl, rfl, r1.2.cq hW⟩
          | exact ⟨_, _, rfl, rfl, r2.2.cq hW⟩
          | exact ⟨_, _, rfl, rfl, r3.2.cq hW⟩
          | exact ⟨_, _, rfl, rfl, r4.2.cq hW⟩
          | exact ⟨_, _, rfl, rfl, r5.2.cq hW⟩
          | exact ⟨_, _, rfl, rfl, r6.2.cq hW⟩
          | exact ⟨_, _, rfl, rfl, r7.2.cq hW⟩
          | exact ⟨_, _, rfl, rfl, r9.2.cq hW⟩
          | exact ⟨_, _, rfl, rfl, r10.2.cq hW⟩
          | exact ⟨_, _, rfl, rfl, r11.2.cq hW⟩
          | exact ⟨_, _, rfl, rfl, r12.2.cq hW⟩
          | exact ⟨_, _, rfl, rfl, r13.2.cq hW⟩
          | exact ⟨_, _, rfl, rfl, r14.2.cq hW⟩
          | exact ⟨_, _, rfl, rfl, r15.2.cq hW⟩
          | exact ⟨_, _, rfl, rfl, r16.2.cq hW⟩
          | exact ⟨_, _, rfl, rfl, r17.2.cq hW⟩
          | exact ⟨_, _, rfl, rfl, r18.2.cq hW⟩
          | exact ⟨_, _, rfl, rfl, r19.2.cq hW⟩
          | exact ⟨_, _, rfl, rfl, r1.cq hW⟩
          | exact ⟨_, _, rfl, rfl, r2.cq hW⟩
          | exact ⟨_, _, rfl, rfl, r3.cq hW⟩
          | exact ⟨_, _, rfl, rfl, r4.cq hW⟩
          | exact ⟨_, _, rfl, rfl, r5.cq hW⟩
          | exact ⟨_, _, rfl, rfl, r6.cq hW⟩
          | exact ⟨_, _, rfl, rfl, r7.cq hW⟩
          | exact ⟨_, _, rfl, rfl, r9.cq hW⟩
          | exact ⟨_, _, rfl, rfl, r10.cq hW⟩
          | exact ⟨_, _, rfl, rfl, r11.cq hW⟩
    · refine x_aload_n hm rfl rfl ?_
      refine x_ldcI hm rfl (v := (-1000001 : Int32)) (by decide +kernel) ?_
      refine x_cVi hm rfl rfl (t7 (by decide +kernel)) (fun v9 M9 r9 => ?_)
      refine x_iret hm rfl rfl (by first | rfl | exact bI_nar | decide) ?_
      first
        | exact ⟨_, _, rfl, rfl, r9.2.cq hW⟩
        | exact ⟨_, _, rfl, rfl, r9.cq hW⟩
        | exact ⟨_, _, rfl, rfl, Cq.rf hW⟩
        | exact ⟨_, _, rfl, rfl, r1.2.cq hW⟩
        | exact ⟨_, _, rfl, rfl, r2.2.cq hW⟩
        | exact ⟨_, _, rfl, rfl, r3.2.cq hW⟩
        | exact ⟨_, _, rfl, rfl, r4.2.cq hW⟩
        | exact ⟨_, _, rfl, rfl, r5.2.cq hW⟩
        | exact ⟨_, _, rfl, rfl, r6.2.cq hW⟩
        | exact ⟨_, _, rfl, rfl, r7.2.cq hW⟩
        | exact ⟨_, _, rfl, rfl, r8.2.cq hW⟩
        | exact ⟨_, _, rfl, rfl, r10.2.cq hW⟩
        | exact ⟨_, _, rfl, rfl, r11.2.cq hW⟩
        | exact ⟨_, _, rfl, rfl, r12.2.cq hW⟩
        | exact ⟨_, _, rfl, rfl, r13.2.cq hW⟩
        | exact ⟨_, _, rfl, rfl, r14.2.cq hW⟩
        | exact ⟨_, _, rfl, rfl, r15.2.cq hW⟩
        | exact ⟨_, _, rfl, rfl, r16.2.cq hW⟩
        | exact ⟨_, _, rfl, rfl, r17.2.cq hW⟩
        | exact ⟨_, _, rfl, rfl, r18.2.cq hW⟩
        | exact ⟨_, _, rfl, rfl, r19.2.cq hW⟩
        | exact ⟨_, _, rfl, rfl, r1.cq hW⟩
        | exact ⟨_, _, rfl, rfl, r2.cq hW⟩
        | exact ⟨_, _, rfl, rfl, r3.cq hW⟩
        | exact ⟨_, _, rfl, rfl, r4.cq hW⟩
        | exact ⟨_, _, rfl, rfl, r5.cq hW⟩
        | exact ⟨_, _, rfl, rfl, r6.cq hW⟩
        | exact ⟨_, _, rfl, rfl, r7.cq hW⟩
        | exact ⟨_, _, rfl, rfl, r8.cq hW⟩
        | exact ⟨_, _, rfl, rfl, r10.cq hW⟩
        | exact ⟨_, _, rfl, rfl, r11.cq hW⟩
theorem t125 (hW : Wf M) : ∃ v M', mT X 125 [.ref 0] (con M) (some (.int v)) (con M') ∧ v = nI 1 ∧ Ck M M' := by
  refine ti_of (row := _) rfl (Nat.le_of_ble_eq_true rfl) ?_
  have hm : mMet 125 = some _ := rfl
  refine x_aload_n hm rfl rfl ?_
  refine x_getf hm rfl (gR rfl rfl) ?_
  refine x_aload_n hm rfl rfl ?_
  refine x_getf hm rfl (gR rfl rfl) ?_
  refine x_cVv hm rfl rfl (t43 (b := 18) (o := 1) (by decide) (by decide) (by decide) hW) (fun M1 r1 => ?_)
  refine x_aload_n hm rfl rfl ?_
  refine x_iconst hm rfl (v := nI 1) (by decide) ?_
  refine x_putf hm rfl (pI rfl rfl (by decide) (by first | exact mFit_int | rfl | decide) rfl) ?_
  refine x_iconst hm rfl (v := nI 1) (by decide) ?_
  refine x_iret hm rfl rfl (by first | rfl | exact bI_nar | decide) ?_
  exact ⟨_, _, rfl, rfl, rfl, (r1.ck hW).trans (Ck.flag (r1.1 hW))⟩
theorem t126  (hW : Wf M) : ∃ v M', mT X 126 [.ref 0] (con M) (some (.int v)) (con M') ∧ Ck M M' := by
  refine ti_of (row := _) rfl (Nat.le_of_ble_eq_true rfl) ?_
  have hm : mMet 126 = some _ := rfl
  refine x_aload_n hm rfl rfl ?_
  refine x_getf hm rfl (gI rfl rfl) ?_
  refine x_if_ne hm rfl (t := 14) rfl (fun h1 => ?_) (fun h1 => ?_)
  · refine x_aload_n hm rfl rfl ?_
    refine x_getf hm rfl (gR rfl rfl) ?_
    refine x_aload_n hm rfl rfl ?_
    refine x_getf hm rfl (gR rfl rfl) ?_
    refine x_cVv hm rfl rfl (t43 (b := 1) (o := 18) (by decide) (by decide) (by decide) hW) (fun M2 r2 => ?_)
    refine x_aload_n hm rfl rfl ?_
    refine x_getf hm rfl (gR rfl rfl) ?_
    refine x_getf hm rfl (gI rfl rfl) ?_
    refine x_iret hm rfl rfl (by first | rfl | exact bI_nar | decide) ?_
    first
      | exact ⟨_, _, rfl, rfl, r2.2.ck hW⟩
      | exact ⟨_, _, rfl, rfl, r2.ck hW⟩
      | exact ⟨_, _, rfl, rfl, Ck.rf hW⟩
      | exact ⟨_, _, rfl, rfl, r1.2.ck hW⟩
      | exact ⟨_, _, rfl, rfl, r3.2.ck hW⟩
      | exact ⟨_, _, rfl, rfl, r4.2.ck hW⟩
      | exact ⟨_, _, rfl, rfl, r5.2.ck hW⟩
      | exact ⟨_, _, rfl, rfl, r6.2.ck hW⟩
      | exact ⟨_, _, rfl, rfl, r7.2.ck hW⟩
      | exact ⟨_, _, rfl, rfl, r8.2.ck hW⟩
      | exact ⟨_, _, rfl, rfl, r9.2.ck hW⟩
      | exact ⟨_, _, rfl, rfl, r10.2.ck hW⟩
      | exact ⟨_, _, rfl, rfl, r11.2.ck hW⟩
      | exact ⟨_, _, rfl, rfl, r12.2.ck hW⟩
      | exact ⟨_, _, rfl, rfl, r13.2.ck hW⟩
      | exact ⟨_, _, rfl, rfl, r14.2.ck hW⟩
      | exact ⟨_, _, rfl, rfl, r15.2.ck hW⟩
      | exact ⟨_, _, rfl, rfl, r16.2.ck hW⟩
      | exact ⟨_, _, rfl, rfl, r17.2.ck hW⟩
      | exact ⟨_, _, rfl, rfl, r18.2.ck hW⟩
      | exact ⟨_, _, rfl, rfl, r19.2.ck hW⟩
      | exact ⟨_, _, rfl, rfl, r1.ck hW⟩
      | exact ⟨_, _, rfl, rfl, r3.ck hW⟩
      | exact ⟨_, _, rfl, rfl, r4.ck hW⟩
      | exact ⟨_, _, rfl, rfl, r5.ck hW⟩
      | exact ⟨_, _, rfl, rfl, r6.ck hW⟩
      | exact ⟨_, _, rfl, rfl, r7.ck hW⟩
      | exact ⟨_, _, rfl, rfl, r8.ck hW⟩
      | exact ⟨_, _, rfl, rfl, r9.ck hW⟩
      | exact ⟨_, _, rfl, rfl, r10.ck hW⟩
      | exact ⟨_, _, rfl, rfl, r11.ck hW⟩
  · refine x_aload_n hm rfl rfl ?_
    refine x_ldcI hm rfl (v := (-1000004 : Int32)) (by decide +kernel) ?_
    refine x_cVi hm rfl rfl (t7 (by decide +kernel)) (fun v3 M3 r3 => ?_)
    refine x_iret hm rfl rfl (by first | rfl | exact bI_nar | decide) ?_
    first
      | exact ⟨_, _, rfl, rfl, r3.2.ck hW⟩
      | exact ⟨_, _, rfl, rfl, r3.ck hW⟩
      | exact ⟨_, _, rfl, rfl, Ck.rf hW⟩
      | exact ⟨_, _, rfl, rfl, r1.2.ck hW⟩
      | exact ⟨_, _, rfl, rfl, r2.2.ck hW⟩
      | exact ⟨_, _, rfl, rfl, r4.2.ck hW⟩
      | exact ⟨_, _, rfl, rfl, r5.2.ck hW⟩
      | exact ⟨_, _, rfl, rfl, r6.2.ck hW⟩
      | exact ⟨_, _, rfl, rfl, r7.2.ck hW⟩
      | exact ⟨_, _, rfl, rfl, r8.2.ck hW⟩
      | exact ⟨_, _, rfl, rfl, r9.2.ck hW⟩
      | exact ⟨_, _, rfl, rfl, r10.2.ck hW⟩
      | exact ⟨_, _, rfl, rfl, r11.2.ck hW⟩
      | exact ⟨_, _, rfl, rfl, r12.2.ck hW⟩
      | exact ⟨_, _, rfl, rfl, r13.2.ck hW⟩
      | exact ⟨_, _, rfl, rfl, r14.2.ck hW⟩
      | exact ⟨_, _, rfl, rfl, r15.2.ck hW⟩
      | exact ⟨_, _, rfl, rfl, r16.2.ck hW⟩
      | exact ⟨_, _, rfl, rfl, r17.2.ck hW⟩
      | exact ⟨_, _, rfl, rfl, r18.2.ck hW⟩
      | exact ⟨_, _, rfl, rfl, r19.2.ck hW⟩
      | exact ⟨_, _, rfl, rfl, r1.ck hW⟩
      | exact ⟨_, _, rfl, rfl, r2.ck hW⟩
      | exact ⟨_, _, rfl, rfl, r4.ck hW⟩
      | exact ⟨_, _, rfl, rfl, r5.ck hW⟩
      | exact ⟨_, _, rfl, rfl, r6.ck hW⟩
      | exact ⟨_, _, rfl, rfl, r7.ck hW⟩
      | exact ⟨_, _, rfl, rfl, r8.ck hW⟩
      | exact ⟨_, _, rfl, rfl, r9.ck hW⟩
      | exact ⟨_, _, rfl, rfl, r10.ck hW⟩
      | exact ⟨_, _, rfl, rfl, r11.ck hW⟩
theorem t127  (hW : Wf M) : ∃ v M', mT X 127 [.ref 0] (con M) (some (.int v)) (con M') ∧ Ck M M' := by
  refine ti_of (row := _) rfl (Nat.le_of_ble_eq_true rfl) ?_
  have hm : mMet 127 = some _ := rfl
  refine x_aload_n hm rfl rfl ?_
  refine x_getf hm rfl (gI rfl rfl) ?_
  refine x_if_eq hm rfl (t := 11) rfl (fun h1 => ?_) (fun h1 => ?_)
  · refine x_iconst hm rfl (v := nI 0) (by decide) ?_
    refine x_istore_n hm rfl rfl ?_
    refine x_aload_n hm rfl rfl ?_
    refine x_iconst hm rfl (v := nI 0) (by decide) ?_
    refine x_putf hm rfl (pI rfl rfl (by decide) (by first | exact mFit_int | rfl | decide) rfl) ?_
    refine x_iload_n hm rfl rfl ?_
    refine x_iret hm rfl rfl (by first | rfl | exact bI_nar | decide) ?_
    exact ⟨_, _, rfl, rfl, Ck.flag hW⟩
  · refine x_iconst hm rfl (v := nI 1) (by decide) ?_
    refine x_goto hm rfl (t := 12) rfl ?_
    refine x_istore_n hm rfl rfl ?_
    refine x_aload_n hm rfl rfl ?_
    refine x_iconst hm rfl (v := nI 0) (by decide) ?_
    refine x_putf hm rfl (pI rfl rfl (by decide) (by first | exact mFit_int | rfl | decide) rfl) ?_
    refine x_iload_n hm rfl rfl ?_
    refine x_iret hm rfl rfl (by first | rfl | exact bI_nar | decide) ?_
    exact ⟨_, _, rfl, rfl, Ck.flag hW⟩
theorem t128 {a1 : Int32} (hW : Wf M) : ∃ v M', mT X 128 [.ref 0, .int a1] (con M) (some (.int v)) (con M') ∧ Cq M M' := by
  refine ti_of (row := _) rfl (Nat.le_of_ble_eq_true rfl) ?_
  have hm : mMet 128 = some _ := rfl
  refine x_iload_n hm rfl rfl ?_
  refine x_ts hm rfl (fun h1 => ⟨115, rfl, ?_⟩) (fun i1 h1 g1 => ?_)
  · refine x_aload_n hm rfl rfl ?_
    refine x_ldcI hm rfl (v := (-1000001 : Int32)) (by decide +kernel) ?_
    refine x_cVi hm rfl rfl (t7 (by decide +kernel)) (fun v2 M2 r2 => ?_)
    refine x_iret hm rfl rfl (by first | rfl | exact bI_nar | decide) ?_
    first
      | exact ⟨_, _, rfl, rfl, r2.2.cq hW⟩
      | exact ⟨_, _, rfl, rfl, r2.cq hW⟩
      | exact ⟨_, _, rfl, rfl, Cq.rf hW⟩
      | exact ⟨_, _, rfl, rfl, r1.2.cq hW⟩
      | exact ⟨_, _, rfl, rfl, r3.2.cq hW⟩
      | exact ⟨_, _, rfl, rfl, r4.2.cq hW⟩
      | exact ⟨_, _, rfl, rfl, r5.2.cq hW⟩
      | exact ⟨_, _, rfl, rfl, r6.2.cq hW⟩
      | exact ⟨_, _, rfl, rfl, r7.2.cq hW⟩
      | exact ⟨_, _, rfl, rfl, r8.2.cq hW⟩
      | exact ⟨_, _, rfl, rfl, r9.2.cq hW⟩
      | exact ⟨_, _, rfl, rfl, r10.2.cq hW⟩
      | exact ⟨_, _, rfl, rfl, r11.2.cq hW⟩
      | exact ⟨_, _, rfl, rfl, r12.2.cq hW⟩
      | exact ⟨_, _, rfl, rfl, r13.2.cq hW⟩
      | exact ⟨_, _, rfl, rfl, r14.2.cq hW⟩
      | exact ⟨_, _, rfl, rfl, r15.2.cq hW⟩
      | exact ⟨_, _, rfl, rfl, r16.2.cq hW⟩
      | exact ⟨_, _, rfl, rfl, r17.2.cq hW⟩
      | exact ⟨_, _, rfl, rfl, r18.2.cq hW⟩
      | exact ⟨_, _, rfl, rfl, r19.2.cq hW⟩
      | exact ⟨_, _, rfl, rfl, r1.cq hW⟩
      | exact ⟨_, _, rfl, rfl, r3.cq hW⟩
      | exact ⟨_, _, rfl, rfl, r4.cq hW⟩
      | exact ⟨_, _, rfl, rfl, r5.cq hW⟩
      | exact ⟨_, _, rfl, rfl, r6.cq hW⟩
      | exact ⟨_, _, rfl, rfl, r7.cq hW⟩
      | exact ⟨_, _, rfl, rfl, r8.cq hW⟩
      | exact ⟨_, _, rfl, rfl, r9.cq hW⟩
      | exact ⟨_, _, rfl, rfl, r10.cq hW⟩
      | exact ⟨_, _, rfl, rfl, r11.cq hW⟩
  · have k1 : i1 = 0 ∨ i1 = 1 ∨ i1 = 2 ∨ i1 = 3 ∨ i1 = 4 ∨ i1 = 5 ∨ i1 = 6 ∨ i1 = 7 := by omega
    rcases k1 with rfl | rfl | rfl | rfl | rfl | rfl | rfl | rfl
    · refine ⟨_, 48, rfl, rfl, ?_⟩
      refine x_aload_n hm rfl rfl ?_
      refine x_getf hm rfl (gR rfl rfl) ?_
      refine x_getf hm rfl (gI rfl rfl) ?_
      refine x_iret hm rfl rfl (by first | rfl | exact bI_nar | decide) ?_
      first
        | exact ⟨_, _, rfl, rfl, Cq.rf hW⟩
        | exact ⟨_, _, rfl, rfl, r1.2.cq hW⟩
        | exact ⟨_, _, rfl, rfl, r2.2.cq hW⟩
        | exact ⟨_, _, rfl, rfl, r3.2.cq hW⟩
        | exact ⟨_, _, rfl, rfl, r4.2.cq hW⟩
        | exact ⟨_, _, rfl, rfl, r5.2.cq hW⟩
        | exact ⟨_, _, rfl, rfl, r6.2.cq hW⟩
        | exact ⟨_, _, rfl, rfl, r7.2.cq hW⟩
        | exact ⟨_, _, rfl, rfl, r8.2.cq hW⟩
        | exact ⟨_, _, rfl, rfl, r9.2.cq hW⟩
        | exact ⟨_, _, rfl, rfl, r10.2.cq hW⟩
        | exact ⟨_, _, rfl, rfl, r11.2.cq hW⟩
        | exact ⟨_, _, rfl, rfl, r12.2.cq hW⟩
        | exact ⟨_, _, rfl, rfl, r13.2.cq hW⟩
        | exact ⟨_, _, rfl, rfl, r14.2.cq hW⟩
        | exact ⟨_, _, rfl, rfl, r15.2.cq hW⟩
        | exact ⟨_, _, rfl, rfl, r16.2.cq hW⟩
        | exact ⟨_, _, rfl, rfl, r17.2.cq hW⟩
        | exact ⟨_, _, rfl, rfl, r18.2.cq hW⟩
        | exact ⟨_, _, rfl, rfl, r19.2.cq hW⟩
        | exact ⟨_, _, rfl, rfl, r1.cq hW⟩
        | exact ⟨_, _, rfl, rfl, r2.cq hW⟩
        | exact ⟨_, _, rfl, rfl, r3.cq hW⟩
        | exact ⟨_, _, rfl, rfl, r4.cq hW⟩
        | exact ⟨_, _, rfl, rfl, r5.cq hW⟩
        | exact ⟨_, _, rfl, rfl, r6.cq hW⟩
        | exact ⟨_, _, rfl, rfl, r7.cq hW⟩
        | exact ⟨_, _, rfl, rfl, r8.cq hW⟩
        | exact ⟨_, _, rfl, rfl, r9.cq hW⟩
        | exact ⟨_, _, rfl, rfl, r10.cq hW⟩
        | exact ⟨_, _, rfl, rfl, r11.cq hW⟩
    · refine ⟨_, 56, rfl, rfl, ?_⟩
      refine x_aload_n hm rfl rfl ?_
      refine x_getf hm rfl (gR rfl rfl) ?_
      refine x_getf hm rfl (gI rfl rfl) ?_
      refine x_iret hm rfl rfl (by first | rfl | exact bI_nar | decide) ?_
      first
        | exact ⟨_, _, rfl, rfl, Cq.rf hW⟩
        | exact ⟨_, _, rfl, rfl, r1.2.cq hW⟩
        | exact ⟨_, _, rfl, rfl, r2.2.cq hW⟩
        | exact ⟨_, _, rfl, rfl, r3.2.cq hW⟩
        | exact ⟨_, _, rfl, rfl, r4.2.cq hW⟩
        | exact ⟨_, _, rfl, rfl, r5.2.cq hW⟩
        | exact ⟨_, _, rfl, rfl, r6.2.cq hW⟩
        | exact ⟨_, _, rfl, rfl, r7.2.cq hW⟩
        | exact ⟨_, _, rfl, rfl, r8.2.cq hW⟩
        | exact ⟨_, _, rfl, rfl, r9.2.cq hW⟩
        | exact ⟨_, _, rfl, rfl, r10.2.cq hW⟩
        | exact ⟨_, _, rfl, rfl, r11.2.cq hW⟩
        | exact ⟨_, _, rfl, rfl, r12.2.cq hW⟩
        | exact ⟨_, _, rfl, rfl, r13.2.cq hW⟩
        | exact ⟨_, _, rfl, rfl, r14.2.cq hW⟩
        | exact ⟨_, _, rfl, rfl, r15.2.cq hW⟩
        | exact ⟨_, _, rfl, rfl, r16.2.cq hW⟩
        | exact ⟨_, _, rfl, rfl, r17.2.cq hW⟩
        | exact ⟨_, _, rfl, rfl, r18.2.cq hW⟩
        | exact ⟨_, _, rfl, rfl, r19.2.cq hW⟩
        | exact ⟨_, _, rfl, rfl, r1.cq hW⟩
        | exact ⟨_, _, rfl, rfl, r2.cq hW⟩
        | exact ⟨_, _, rfl, rfl, r3.cq hW⟩
        | exact ⟨_, _, rfl, rfl, r4.cq hW⟩
        | exact ⟨_, _, rfl, rfl, r5.cq hW⟩
        | exact ⟨_, _, rfl, rfl, r6.cq hW⟩
        | exact ⟨_, _, rfl, rfl, r7.cq hW⟩
        | exact ⟨_, _, rfl, rfl, r8.cq hW⟩
        | exact ⟨_, _, rfl, rfl, r9.cq hW⟩
        | exact ⟨_, _, rfl, rfl, r10.cq hW⟩
        | exact ⟨_, _, rfl, rfl, r11.cq hW⟩
    · refine ⟨_, 64, rfl, rfl, ?_⟩
      refine x_aload_n hm rfl rfl ?_
      refine x_getf hm rfl (gR rfl rfl) ?_
      refine x_getf hm rfl (gI rfl rfl) ?_
      refine x_iret hm rfl rfl (by first | rfl | exact bI_nar | decide) ?_
      first
        | exact ⟨_, _, rfl, rfl, Cq.rf hW⟩
        | exact ⟨_, _, rfl, rfl, r1.2.cq hW⟩
        | exact ⟨_, _, rfl, rfl, r2.2.cq hW⟩
        | exact ⟨_, _, rfl, rfl, r3.2.cq hW⟩
        | exact ⟨_, _, rfl, rfl, r4.2.cq hW⟩
        | exact ⟨_, _, rfl, rfl, r5.2.cq hW⟩
        | exact ⟨_, _, rfl, rfl, r6.2.cq hW⟩
        | exact ⟨_, _, rfl, rfl, r7.2.cq hW⟩
        | exact ⟨_, _, rfl, rfl, r8.2.cq hW⟩
        | exact ⟨_, _, rfl, rfl, r9.2.cq hW⟩
        | exact ⟨_, _, rfl, rfl, r10.2.cq hW⟩
        | exact ⟨_, _, rfl, rfl, r11.2.cq hW⟩
        | exact ⟨_, _, rfl, rfl, r12.2.cq hW⟩
        | exact ⟨_, _, rfl, rfl, r13.2.cq hW⟩
        | exact ⟨_, _, rfl, rfl, r14.2.cq hW⟩
        | exact ⟨_, _, rfl, rfl, r15.2.cq hW⟩
        | exact ⟨_, _, rfl, rfl, r16.2.cq hW⟩
        | exact ⟨_, _, rfl, rfl, r17.2.cq hW⟩
        | exact ⟨_, _, rfl, rfl, r18.2.cq hW⟩
        | exact ⟨_, _, rfl, rfl, r19.2.cq hW⟩
        | exact ⟨_, _, rfl, rfl, r1.cq hW⟩
        | exact ⟨_, _, rfl, rfl, r2.cq hW⟩
        | exact ⟨_, _, rfl, rfl, r3.cq hW⟩
        | exact ⟨_, _, rfl, rfl, r4.cq hW⟩
        | exact ⟨_, _, rfl, rfl, r5.cq hW⟩
        | exact ⟨_, _, rfl, rfl, r6.cq hW⟩
        | exact ⟨_, _, rfl, rfl, r7.cq hW⟩
        | exact ⟨_, _, rfl, rfl, r8.cq hW⟩
        | exact ⟨_, _, rfl, rfl, r9.cq hW⟩
        | exact ⟨_, _, rfl, rfl, r10.cq hW⟩
        | exact ⟨_, _, rfl, rfl, r11.cq hW⟩
    · refine ⟨_, 72, rfl, rfl, ?_⟩
      refine x_aload_n hm rfl rfl ?_
      refine x_getf hm rfl (gR rfl rfl) ?_
      refine x_cVe hm rfl rfl (t35 (by decide) hW) (fun v3 r3 => ?_)
      refine x_cSe hm rfl rfl (t36) (fun v4 r4 => ?_)
      refine x_iret hm rfl rfl (by first | rfl | exact bI_nar | decide) ?_
      first
        | exact ⟨_, _, rfl, rfl, r4.2.cq hW⟩
        | exact ⟨_, _, rfl, rfl, r4.cq hW⟩
        | exact ⟨_, _, rfl, rfl, Cq.rf hW⟩
        | exact ⟨_, _, rfl, rfl, r3.2.cq hW⟩
        | exact ⟨_, _, rfl, rfl, r3.cq hW⟩
        | exact ⟨_, _, rfl, rfl, r1.2.cq hW⟩
        | exact ⟨_, _, rfl, rfl, r2.2.cq hW⟩
        | exact ⟨_, _, rfl, rfl, r5.2.cq hW⟩
        | exact ⟨_, _, rfl, rfl, r6.2.cq hW⟩
        | exact ⟨_, _, rfl, rfl, r7.2.cq hW⟩
        | exact ⟨_, _, rfl, rfl, r8.2.cq hW⟩
        | exact ⟨_, _, rfl, rfl, r9.2.cq hW⟩
        | exact ⟨_, _, rfl, rfl, r10.2.cq hW⟩
        | exact ⟨_, _, rfl, rfl, r11.2.cq hW⟩
        | exact ⟨_, _, rfl, rfl, r12.2.cq hW⟩
        | exact ⟨_, _, rfl, rfl, r13.2.cq hW⟩
        | exact ⟨_, _, rfl, rfl, r14.2.cq hW⟩
        | exact ⟨_, _, rfl, rfl, r15.2.cq hW⟩
        | exact ⟨_, _, rfl, rfl, r16.2.cq hW⟩
        | exact ⟨_, _, rfl, rfl, r17.2.cq hW⟩
        | exact ⟨_, _, rfl, rfl, r18.2.cq hW⟩
        | exact ⟨_, _, rfl, rfl, r19.2.cq hW⟩
        | exact ⟨_, _, rfl, rfl, r1.cq hW⟩
        | exact ⟨_, _, rfl, rfl, r2.cq hW⟩
        | exact ⟨_, _, rfl, rfl, r5.cq hW⟩
        | exact ⟨_, _, rfl, rfl, r6.cq hW⟩
        | exact ⟨_, _, rfl, rfl, r7.cq hW⟩
        | exact ⟨_, _, rfl, rfl, r8.cq hW⟩
        | exact ⟨_, _, rfl, rfl, r9.cq hW⟩
        | exact ⟨_, _, rfl, rfl, r10.cq hW⟩
        | exact ⟨_, _, rfl, rfl, r11.cq hW⟩
    · refine ⟨_, 83, rfl, rfl, ?_⟩
      refine x_aload_n hm rfl rfl ?_
      refine x_getf hm rfl (gR rfl rfl) ?_
      refine x_cVe hm rfl rfl (t38 (by decide) hW) (fun v5 r5 => ?_)
      refine x_iret hm rfl rfl (by first | rfl | exact bI_nar | decide) ?_
      first
        | exact ⟨_, _, rfl, rfl, r5.2.cq hW⟩
        | exact ⟨_, _, rfl, rfl, r5.cq hW⟩
        | exact ⟨_, _, rfl, rfl, Cq.rf hW⟩
        | exact ⟨_, _, rfl, rfl, r1.2.cq hW⟩
        | exact ⟨_, _, rfl, rfl, r2.2.cq hW⟩
        | exact ⟨_, _, rfl, rfl, r3.2.cq hW⟩
        | exact ⟨_, _, rfl, rfl, r4.2.cq hW⟩
        | exact ⟨_, _, rfl, rfl, r6.2.cq hW⟩
        | exact ⟨_, _, rfl, rfl, r7.2.cq hW⟩
        | exact ⟨_, _, rfl, rfl, r8.2.cq hW⟩
        | exact ⟨_, _, rfl, rfl, r9.2.cq hW⟩
        | exact ⟨_, _, rfl, rfl, r10.2.cq hW⟩
        | exact ⟨_, _, rfl, rfl, r11.2.cq hW⟩
        | exact ⟨_, _, rfl, rfl, r12.2.cq hW⟩
        | exact ⟨_, _, rfl, rfl, r13.2.cq hW⟩
        | exact ⟨_, _, rfl, rfl, r14.2.cq hW⟩
        | exact ⟨_, _, rfl, rfl, r15.2.cq hW⟩
        | exact ⟨_, _, rfl, rfl, r16.2.cq hW⟩
        | exact ⟨_, _, rfl, rfl, r17.2.cq hW⟩
        | exact ⟨_, _, rfl, rfl, r18.2.cq hW⟩
        | exact ⟨_, _, rfl, rfl, r19.2.cq hW⟩
        | exact ⟨_, _, rfl, rfl, r1.cq hW⟩
        | exact ⟨_, _, rfl, rfl, r2.cq hW⟩
        | exact ⟨_, _, rfl, rfl, r3.cq hW⟩
        | exact ⟨_, _, rfl, rfl, r4.cq hW⟩
        | exact ⟨_, _, rfl, rfl, r6.cq hW⟩
        | exact ⟨_, _, rfl, rfl, r7.cq hW⟩
        | exact ⟨_, _, rfl, rfl, r8.cq hW⟩
        | exact ⟨_, _, rfl, rfl, r9.cq hW⟩
        | exact ⟨_, _, rfl, rfl, r10.cq hW⟩
        | exact ⟨_, _, rfl, rfl, r11.cq hW⟩
    · refine ⟨_, 91, rfl, rfl, ?_⟩
      refine x_aload_n hm rfl rfl ?_
      refine x_getf hm rfl (gR rfl rfl) ?_
      refine x_getf hm rfl (gI rfl rfl) ?_
      refine x_iret hm rfl rfl (by first | rfl | exact bI_nar | decide) ?_
      first
        | exact ⟨_, _, rfl, rfl, Cq.rf hW⟩
        | exact ⟨_, _, rfl, rfl, r1.2.cq hW⟩
        | exact ⟨_, _, rfl, rfl, r2.2.cq hW⟩
        | exact ⟨_, _, rfl, rfl, r3.2.cq hW⟩
        | exact ⟨_, _, rfl, rfl, r4.2.cq hW⟩
        | exact ⟨_, _, rfl, rfl, r5.2.cq hW⟩
        | exact ⟨_, _, rfl, rfl, r6.2.cq hW⟩
        | exact ⟨_, _, rfl, rfl, r7.2.cq hW⟩
        | exact ⟨_, _, rfl, rfl, r8.2.cq hW⟩
        | exact ⟨_, _, rfl, rfl, r9.2.cq hW⟩
        | exact ⟨_, _, rfl, rfl, r10.2.cq hW⟩
        | exact ⟨_, _, rfl, rfl, r11.2.cq hW⟩
        | exact ⟨_, _, rfl, rfl, r12.2.cq hW⟩
        | exact ⟨_, _, rfl, rfl, r13.2.cq hW⟩
        | exact ⟨_, _, rfl, rfl, r14.2.cq hW⟩
        | exact ⟨_, _, rfl, rfl, r15.2.cq hW⟩
        | exact ⟨_, _, rfl, rfl, r16.2.cq hW⟩
        | exact ⟨_, _, rfl, rfl, r17.2.cq hW⟩
        | exact ⟨_, _, rfl, rfl, r18.2.cq hW⟩
        | exact ⟨_, _, rfl, rfl, r19.2.cq hW⟩
        | exact ⟨_, _, rfl, rfl, r1.cq hW⟩
        | exact ⟨_, _, rfl, rfl, r2.cq hW⟩
        | exact ⟨_, _, rfl, rfl, r3.cq hW⟩
        | exact ⟨_, _, rfl, rfl, r4.cq hW⟩
        | exact ⟨_, _, rfl, rfl, r5.cq hW⟩
        | exact ⟨_, _, rfl, rfl, r6.cq hW⟩
        | exact ⟨_, _, rfl, rfl, r7.cq hW⟩
        | exact ⟨_, _, rfl, rfl, r8.cq hW⟩
        | exact ⟨_, _, rfl, rfl, r9.cq hW⟩
        | exact ⟨_, _, rfl, rfl, r10.cq hW⟩
        | exact ⟨_, _, rfl, rfl, r11.cq hW⟩
    · refine ⟨_, 99, rfl, rfl, ?_⟩
      refine x_aload_n hm rfl rfl ?_
      refine x_getf hm rfl (gR rfl rfl) ?_
      refine x_getf hm rfl (gI rfl rfl) ?_
      refine x_iret hm rfl rfl (by first | rfl | exact bI_nar | decide) ?_
      first
        | exact ⟨_, _, rfl, rfl, Cq.rf hW⟩
        | exact ⟨_, _, rfl, rfl, r1.2.cq hW⟩
        | exact ⟨_, _, rfl, rfl, r2.2.cq hW⟩
        | exact ⟨_, _, rfl, rfl, r3.2.cq hW⟩
        | exact ⟨_, _, rfl, rfl, r4.2.cq hW⟩
        | exact ⟨_, _, rfl, rfl, r5.2.cq hW⟩
        | exact ⟨_, _, rfl, rfl, r6.2.cq hW⟩
        | exact ⟨_, _, rfl, rfl, r7.2.cq hW⟩
        | exact ⟨_, _, rfl, rfl, r8.2.cq hW⟩
        | exact ⟨_, _, rfl, rfl, r9.2.cq hW⟩
        | exact ⟨_, _, rfl, rfl, r10.2.cq hW⟩
        | exact ⟨_, _, rfl, rfl, r11.2.cq hW⟩
        | exact ⟨_, _, rfl, rfl, r12.2.cq hW⟩
        | exact ⟨_, _, rfl, rfl, r13.2.cq hW⟩
        | exact ⟨_, _, rfl, rfl, r14.2.cq hW⟩
        | exact ⟨_, _, rfl, rfl, r15.2.cq hW⟩
        | exact ⟨_, _, rfl, rfl, r16.2.cq hW⟩
        | exact ⟨_, _, rfl, rfl, r17.2.cq hW⟩
        | exact ⟨_, _, rfl, rfl, r18.2.cq hW⟩
        | exact ⟨_, _, rfl, rfl, r19.2.cq hW⟩
        | exact ⟨_, _, rfl, rfl, r1.cq hW⟩
        | exact ⟨_, _, rfl, rfl, r2.cq hW⟩
        | exact ⟨_, _, rfl, rfl, r3.cq hW⟩
        | exact ⟨_, _, rfl, rfl, r4.cq hW⟩
        | exact ⟨_, _, rfl, rfl, r5.cq hW⟩
        | exact ⟨_, _, rfl, rfl, r6.cq hW⟩
        | exact ⟨_, _, rfl, rfl, r7.cq hW⟩
        | exact ⟨_, _, rfl, rfl, r8.cq hW⟩
        | exact ⟨_, _, rfl, rfl, r9.cq hW⟩
        | exact ⟨_, _, rfl, rfl, r10.cq hW⟩
        | exact ⟨_, _, rfl, rfl, r11.cq hW⟩
    · refine ⟨_, 107, rfl, rfl, ?_⟩
      refine x_aload_n hm rfl rfl ?_
      refine x_getf hm rfl (gR rfl rfl) ?_
      refine x_cVe hm rfl rfl (t129 (by decide) hW) (fun v6 r6 => ?_)
      refine x_iret hm rfl rfl (by first | rfl | exact bI_nar | decide) ?_
      first
        | exact ⟨_, _, rfl, rfl, r6.2.cq hW⟩
        | exact ⟨_, _, rfl, rfl, r6.cq hW⟩
        | exact ⟨_, _, rfl, rfl, Cq.rf hW⟩
        | exact ⟨_, _, rfl, rfl, r1.2.cq hW⟩
        | exact ⟨_, _, rfl, rfl, r2.2.cq hW⟩
        | exact ⟨_, _, rfl, rfl, r3.2.cq hW⟩
        | exact ⟨_, _, rfl, rfl, r4.2.cq hW⟩
        | exact ⟨_, _, rfl, rfl, r5.2.cq hW⟩
        | exact ⟨_, _, rfl, rfl, r7.2.cq hW⟩
        | exact ⟨_, _, rfl, rfl, r8.2.cq hW⟩
        | exact ⟨_, _, rfl, rfl, r9.2.cq hW⟩
        | exact ⟨_, _, rfl, rfl, r10.2.cq hW⟩
        | exact ⟨_, _, rfl, rfl, r11.2.cq hW⟩
        | exact ⟨_, _, rfl, rfl, r12.2.cq hW⟩
        | exact ⟨_, _, rfl, rfl, r13.2.cq hW⟩
        | exact ⟨_, _, rfl, rfl, r14.2.cq hW⟩
        | exact ⟨_, _, rfl, rfl, r15.2.cq hW⟩
        | exact ⟨_, _, rfl, rfl, r16.2.cq hW⟩
        | exact ⟨_, _, rfl, rfl, r17.2.cq hW⟩
        | exact ⟨_, _, rfl, rfl, r18.2.cq hW⟩
        | exact ⟨_, _, rfl, rfl, r19.2.cq hW⟩
        | exact ⟨_, _, rfl, rfl, r1.cq hW⟩
        | exact ⟨_, _, rfl, rfl, r2.cq hW⟩
        | exact ⟨_, _, rfl, rfl, r3.cq hW⟩
        | exact ⟨_, _, rfl, rfl, r4.cq hW⟩
        | exact ⟨_, _, rfl, rfl, r5.cq hW⟩
        | exact ⟨_, _, rfl, rfl, r7.cq hW⟩
        | exact ⟨_, _, rfl, rfl, r8.cq hW⟩
        | exact ⟨_, _, rfl, rfl, r9.cq hW⟩
        | exact ⟨_, _, rfl, rfl, r10.cq hW⟩
        | exact ⟨_, _, rfl, rfl, r11.cq hW⟩
theorem st_k0 {v : Int32} (h : ¬ v < 0) (h2 : v ≤ nI 6) : ∃ k, k ≤ 6 ∧ v = nI k := by
  obtain ⟨z, hz, rfl⟩ := jI_of h
  exact ⟨z, (jI_le hz (by decide)).mp h2, rfl⟩
theorem l130 {a1 : Int32} (hW : Wf M) : ∀ (n k : Nat) (s : Int32), 7 - k < n → k ≤ 7 → mEv X (QI (fun _ M' => Cq M M')) 130 32 [some (.ref 0), some (.int a1), some (.int s), some (.int (nI k))] [] (con M) := by
  have hm : mMet 130 = some _ := rfl
  intro n
  induction n with
  | zero =>
    intro k s hkn hkb
    omega
  | succ n ih =>
    intro k s hkn hkb
    refine x_iload_n hm rfl rfl ?_
    refine x_bipush hm rfl (v := nI 7) (by decide) ?_
    refine x_icmp_ge hm rfl (t := 53) rfl (fun h1 => ?_) (fun h1 => ?_)
    · refine x_iload_n hm rfl rfl ?_
      refine x_iret hm rfl rfl (by first | rfl | exact bI_nar | decide) ?_
      first
        | exact ⟨_, _, rfl, rfl, Cq.rf hW⟩
        | exact ⟨_, _, rfl, rfl, r1.2.cq hW⟩
        | exact ⟨_, _, rfl, rfl, r2.2.cq hW⟩
        | exact ⟨_, _, rfl, rfl, r3.2.cq hW⟩
        | exact ⟨_, _, rfl, rfl, r4.2.cq hW⟩
        | exact ⟨_, _, rfl, rfl, r5.2.cq hW⟩
        | exact ⟨_, _, rfl, rfl, r6.2.cq hW⟩
        | exact ⟨_, _, rfl, rfl, r7.2.cq hW⟩
        | exact ⟨_, _, rfl, rfl, r8.2.cq hW⟩
        | exact ⟨_, _, rfl, rfl, r9.2.cq hW⟩
        | exact ⟨_, _, rfl, rfl, r10.2.cq hW⟩
        | exact ⟨_, _, rfl, rfl, r11.2.cq hW⟩
        | exact ⟨_, _, rfl, rfl, r12.2.cq hW⟩
        | exact ⟨_, _, rfl, rfl, r13.2.cq hW⟩
        | exact ⟨_, _, rfl, rfl, r14.2.cq hW⟩
        | exact ⟨_, _, rfl, rfl, r15.2.cq hW⟩
        | exact ⟨_, _, rfl, rfl, r16.2.cq hW⟩
        | exact ⟨_, _, rfl, rfl, r17.2.cq hW⟩
        | exact ⟨_, _, rfl, rfl, r18.2.cq hW⟩
        | exact ⟨_, _, rfl, rfl, r19.2.cq hW⟩
        | exact ⟨_, _, rfl, rfl, r1.cq hW⟩
        | exact ⟨_, _, rfl, rfl, r2.cq hW⟩
        | exact ⟨_, _, rfl, rfl, r3.cq hW⟩
        | exact ⟨_, _, rfl, rfl, r4.cq hW⟩
        | exact ⟨_, _, rfl, rfl, r5.cq hW⟩
        | exact ⟨_, _, rfl, rfl, r6.cq hW⟩
        | exact ⟨_, _, rfl, rfl, r7.cq hW⟩
        | exact ⟨_, _, rfl, rfl, r8.cq hW⟩
        | exact ⟨_, _, rfl, rfl, r9.cq hW⟩
        | exact ⟨_, _, rfl, rfl, r10.cq hW⟩
        | exact ⟨_, _, rfl, rfl, r11.cq hW⟩
    · have hk : k < 7 := Nat.lt_of_not_le fun h => h1 (nI_le h (by omega))
      refine x_iload_n hm rfl rfl ?_
      refine x_aload_n hm rfl rfl ?_
      refine x_getf hm rfl (gR rfl rfl) ?_
      refine x_iload_n hm rfl rfl ?_
      refine x_iald hm rfl (lI rfl (by omega) (by decide)) ?_
      refine x_iadd hm rfl ?_
      refine x_istore_n hm rfl rfl ?_
      refine x_iinc hm rfl rfl (v := nI 1) (by decide) rfl ?_
      rw [jI_add]
      refine x_goto hm rfl (t := 32) rfl ?_
      exact ih _ _ (by omega) (by omega)
theorem t130 {a1 : Int32} (hW : Wf M) : ∃ v M', mT X 130 [.ref 0, .int a1] (con M) (some (.int v)) (con M') ∧ Cq M M' := by
  refine ti_of (row := _) rfl (Nat.le_of_ble_eq_true rfl) ?_
  have hm : mMet 130 = some _ := rfl
  refine x_iload_n hm rfl rfl ?_
  refine x_iconst hm rfl (v := (-1 : Int32)) (by decide) ?_
  refine x_bipush hm rfl (v := nI 6) (by decide) ?_
  refine x_callS hm rfl rfl (t6) ?_
  refine x_if_ne hm rfl (t := 17) rfl (fun h1 => ?_) (fun h1 => ?_)
  · have hb1 := bI_ne0 h1
    refine x_iload_n hm rfl rfl ?_
    refine x_if_lt hm rfl (t := 28) rfl (fun h2 => ?_) (fun h2 => ?_)
    · refine x_iconst hm rfl (v := nI 0) (by decide) ?_
      refine x_istore_n hm rfl rfl ?_
      refine x_iconst hm rfl (v := nI 0) (by decide) ?_
      refine x_istore_n hm rfl rfl ?_
      exact l130 hW _ 0 _ (Nat.lt_succ_self _) (Nat.zero_le _)
    · obtain ⟨k, hk, rfl⟩ := st_k0 h2 hb1.2
      refine x_aload_n hm rfl rfl ?_
      refine x_getf hm rfl (gR rfl rfl) ?_
      refine x_iload_n hm rfl rfl ?_
      refine x_iald hm rfl (lI rfl (by omega) (by decide)) ?_
      refine x_iret hm rfl rfl (by first | rfl | exact bI_nar | decide) ?_
      first
        | exact ⟨_, _, rfl, rfl, Cq.rf hW⟩
        | exact ⟨_, _, rfl, rfl, r1.2.cq hW⟩
        | exact ⟨_, _, rfl, rfl, r2.2.cq hW⟩
        | exact ⟨_, _, rfl, rfl, r3.2.cq hW⟩
        | exact ⟨_, _, rfl, rfl, r4.2.cq hW⟩
        | exact ⟨_, _, rfl, rfl, r5.2.cq hW⟩
        | exact ⟨_, _, rfl, rfl, r6.2.cq hW⟩
        | exact ⟨_, _, rfl, rfl, r7.2.cq hW⟩
        | exact ⟨_, _, rfl, rfl, r8.2.cq hW⟩
        | exact ⟨_, _, rfl, rfl, r9.2.cq hW⟩
        | exact ⟨_, _, rfl, rfl, r10.2.cq hW⟩
        | exact ⟨_, _, rfl, rfl, r11.2.cq hW⟩
        | exact ⟨_, _, rfl, rfl, r12.2.cq hW⟩
        | exact ⟨_, _, rfl, rfl, r13.2.cq hW⟩
        | exact ⟨_, _, rfl, rfl, r14.2.cq hW⟩
        | exact ⟨_, _, rfl, rfl, r15.2.cq hW⟩
        | exact ⟨_, _, rfl, rfl, r16.2.cq hW⟩
        | exact ⟨_, _, rfl, rfl, r17.2.cq hW⟩
        | exact ⟨_, _, rfl, rfl, r18.2.cq hW⟩
        | exact ⟨_, _, rfl, rfl, r19.2.cq hW⟩
        | exact ⟨_, _, rfl, rfl, r1.cq hW⟩
        | exact ⟨_, _, rfl, rfl, r2.cq hW⟩
        | exact ⟨_, _, rfl, rfl, r3.cq hW⟩
        | exact ⟨_, _, rfl, rfl, r4.cq hW⟩
        | exact ⟨_, _, rfl, rfl, r5.cq hW⟩
        | exact ⟨_, _, rfl, rfl, r6.cq hW⟩
        | exact ⟨_, _, rfl, rfl, r7.cq hW⟩
        | exact ⟨_, _, rfl, rfl, r8.cq hW⟩
        | exact ⟨_, _, rfl, rfl, r9.cq hW⟩
        | exact ⟨_, _, rfl, rfl, r10.cq hW⟩
        | exact ⟨_, _, rfl, rfl, r11.cq hW⟩
  · refine x_aload_n hm rfl rfl ?_
    refine x_ldcI hm rfl (v := (-1000001 : Int32)) (by decide +kernel) ?_
    refine x_cVi hm rfl rfl (t7 (by decide +kernel)) (fun v3 M3 r3 => ?_)
    refine x_iret hm rfl rfl (by first | rfl | exact bI_nar | decide) ?_
    first
      | exact ⟨_, _, rfl, rfl, r3.2.cq hW⟩
      | exact ⟨_, _, rfl, rfl, r3.cq hW⟩
      | exact ⟨_, _, rfl, rfl, Cq.rf hW⟩
      | exact ⟨_, _, rfl, rfl, r1.2.cq hW⟩
      | exact ⟨_, _, rfl, rfl, r2.2.cq hW⟩
      | exact ⟨_, _, rfl, rfl, r4.2.cq hW⟩
      | exact ⟨_, _, rfl, rfl, r5.2.cq hW⟩
      | exact ⟨_, _, rfl, rfl, r6.2.cq hW⟩
      | exact ⟨_, _, rfl, rfl, r7.2.cq hW⟩
      | exact ⟨_, _, rfl, rfl, r8.2.cq hW⟩
      | exact ⟨_, _, rfl, rfl, r9.2.cq hW⟩
      | exact ⟨_, _, rfl, rfl, r10.2.cq hW⟩
      | exact ⟨_, _, rfl, rfl, r11.2.cq hW⟩
      | exact ⟨_, _, rfl, rfl, r12.2.cq hW⟩
      | exact ⟨_, _, rfl, rfl, r13.2.cq hW⟩
      | exact ⟨_, _, rfl, rfl, r14.2.cq hW⟩
      | exact ⟨_, _, rfl, rfl, r15.2.cq hW⟩
      | exact ⟨_, _, rfl, rfl, r16.2.cq hW⟩
      | exact ⟨_, _, rfl, rfl, r17.2.cq hW⟩
      | exact ⟨_, _, rfl, rfl, r18.2.cq hW⟩
      | exact ⟨_, _, rfl, rfl, r19.2.cq hW⟩
      | exact ⟨_, _, rfl, rfl, r1.cq hW⟩
      | exact ⟨_, _, rfl, rfl, r2.cq hW⟩
      | exact ⟨_, _, rfl, rfl, r4.cq hW⟩
      | exact ⟨_, _, rfl, rfl, r5.cq hW⟩
      | exact ⟨_, _, rfl, rfl, r6.cq hW⟩
      | exact ⟨_, _, rfl, rfl, r7.cq hW⟩
      | exact ⟨_, _, rfl, rfl, r8.cq hW⟩
      | exact ⟨_, _, rfl, rfl, r9.cq hW⟩
      | exact ⟨_, _, rfl, rfl, r10.cq hW⟩
      | exact ⟨_, _, rfl, rfl, r11.cq hW⟩
theorem l82 {a : Nat} {c : Int32} (hW : Wf M) (ha : a ≤ 1000) : ∀ (n k : Nat) (M1 : mM), a - k < n → k ≤ a → Tw 1 M M1 → mEv X (QI (fun _ M' => Tw 1 M M')) 82 48 [some (.ref 0), some (.int (nI a)), some (.int c), some (.int (nI k))] [] (con M1) := by
  have hm : mMet 82 = some _ := rfl
  intro n
  induction n with
  | zero =>
    intro k M1 hkn hkb hT
    omega
  | succ n ih =>
    intro k M1 hkn hkb hT
    refine x_iload_n hm rfl rfl ?_
    refine x_iload_n hm rfl rfl ?_
    refine x_icmp_ge hm rfl (t := 74) rfl (fun h1 => ?_) (fun h1 => ?_)
    · refine x_iload_n hm rfl rfl ?_
      refine x_aload_n hm rfl rfl ?_
      refine x_getf hm rfl (gR rfl rfl) ?_
      refine x_cVe hm rfl rfl (t38 (by decide) (hT.1 hW)) (fun v2 r2 => ?_)
      refine x_isub hm rfl ?_
      refine x_iret hm rfl rfl (by first | rfl | exact bI_nar | decide) ?_
      exact ⟨_, _, rfl, rfl, hT⟩
    · have hk : k < a := Nat.lt_of_not_le fun h => h1 (nI_le h (by omega))
      refine x_aload_n hm rfl rfl ?_
      refine x_getf hm rfl (gR rfl rfl) ?_
      refine x_cVv hm rfl rfl (t83 (by decide) (hT.1 hW)) (fun M3 r3 => ?_)
      refine x_aload_n hm rfl rfl ?_
      refine x_getf hm rfl (gR rfl rfl) ?_
      refine x_iconst hm rfl (v := nI 1) (by decide) ?_
      refine x_cVv hm rfl rfl (t30 (by decide) (by decide) (r3.1 (hT.1 hW))) (fun M4 r4 => ?_)
      refine x_iinc hm rfl rfl (v := nI 1) (by decide) rfl ?_
      rw [jI_add]
      refine x_goto hm rfl (t := 48) rfl ?_
      first
        | exact ih _ _ (by omega) (by omega) ((hT.trans r3).trans r4)
        | exact ih _ _ (by omega) (by omega) ((hT.trans r2).trans r3)
        | exact ih _ _ (by omega) (by omega) ((hT.trans r4).trans r5)
theorem ev_ckT {m pc : Nat} {L : mLoc} {st : List Value} {D : mHp} (hW : Wf M) (h : mEv X (QI (fun _ M' => Tw 1 M M')) m pc L st D) : mEv X (QI (fun _ M' => Ck M M')) m pc L st D := ev_mono h (fun r D' ⟨v, M2, g1, g2, g3⟩ => ⟨v, M2, g1, g2, g3.ck hW⟩)
theorem t82 {a1 : Int32} (hW : Wf M) : ∃ v M', mT X 82 [.ref 0, .int a1] (con M) (some (.int v)) (con M') ∧ Ck M M' := by
  refine ti_of (row := _) rfl (Nat.le_of_ble_eq_true rfl) ?_
  have hm : mMet 82 = some _ := rfl
  refine x_iload_n hm rfl rfl ?_
  refine x_iconst hm rfl (v := nI 1) (by decide) ?_
  refine x_bipush hm rfl (v := nI 20) (by decide) ?_
  refine x_callS hm rfl rfl (t6) ?_
  refine x_if_ne hm rfl (t := 17) rfl (fun h1 => ?_) (fun h1 => ?_)
  · obtain ⟨a, ha, -, rfl⟩ := le1_k (by omega) (bI_ne0 h1)
    refine x_aload_n hm rfl rfl ?_
    refine x_getf hm rfl (gR rfl rfl) ?_
    refine x_getf hm rfl (gI rfl rfl) ?_
    refine x_iload_n hm rfl rfl ?_
    refine x_iadd hm rfl ?_
    refine x_ldcI hm rfl (v := nI 99999) (by decide +kernel) ?_
    refine x_icmp_le hm rfl (t := 38) rfl (fun h2 => ?_) (fun h2 => ?_)
    · refine x_aload_n hm rfl rfl ?_
      refine x_getf hm rfl (gR rfl rfl) ?_
      refine x_cVe hm rfl rfl (t38 (by decide) hW) (fun v3 r3 => ?_)
      refine x_istore_n hm rfl rfl ?_
      refine x_iconst hm rfl (v := nI 0) (by decide) ?_
      refine x_istore_n hm rfl rfl ?_
      exact ev_ckT hW (l82 hW (by omega) _ 0 _ (Nat.lt_succ_self _) (Nat.zero_le _) Tw.rf)
    · refine x_aload_n hm rfl rfl ?_
      refine x_ldcI hm rfl (v := (-1000005 : Int32)) (by decide +kernel) ?_
      refine x_cVi hm rfl rfl (t7 (by decide +kernel)) (fun v4 M4 r4 => ?_)
      refine x_iret hm rfl rfl (by first | rfl | exact bI_nar | decide) ?_
      first
        | exact ⟨_, _, rfl, rfl, r4.2.ck hW⟩
        | exact ⟨_, _, rfl, rfl, r4.ck hW⟩
        | exact ⟨_, _, rfl, rfl, Ck.rf hW⟩
        | exact ⟨_, _, rfl, rfl, r1.2.ck hW⟩
        | exact ⟨_, _, rfl, rfl, r2.2.ck hW⟩
        | exact ⟨_, _, rfl, rfl, r3.2.ck hW⟩
        | exact ⟨_, _, rfl, rfl, r5.2.ck hW⟩
        | exact ⟨_, _, rfl, rfl, r6.2.ck hW⟩
        | exact ⟨_, _, rfl, rfl, r7.2.ck hW⟩
        | exact ⟨_, _, rfl, rfl, r8.2.ck hW⟩
        | exact ⟨_, _, rfl, rfl, r9.2.ck hW⟩
        | exact ⟨_, _, rfl, rfl, r10.2.ck hW⟩
        | exact ⟨_, _, rfl, rfl, r11.2.ck hW⟩
        | exact ⟨_, _, rfl, rfl, r12.2.ck hW⟩
        | exact ⟨_, _, rfl, rfl, r13.2.ck hW⟩
        | exact ⟨_, _, rfl, rfl, r14.2.ck hW⟩
        | exact ⟨_, _, rfl, rfl, r15.2.ck hW⟩
        | exact ⟨_, _, rfl, rfl, r16.2.ck hW⟩
        | exact ⟨_, _, rfl, rfl, r17.2.ck hW⟩
        | exact ⟨_, _, rfl, rfl, r18.2.ck hW⟩
        | exact ⟨_, _, rfl, rfl, r19.2.ck hW⟩
        | exact ⟨_, _, rfl, rfl, r1.ck hW⟩
        | exact ⟨_, _, rfl, rfl, r2.ck hW⟩
        | exact ⟨_, _, rfl, rfl, r3.ck hW⟩
        | exact ⟨_, _, rfl, rfl, r5.ck hW⟩
        | exact ⟨_, _, rfl, rfl, r6.ck hW⟩
        | exact ⟨_, _, rfl, rfl, r7.ck hW⟩
        | exact ⟨_, _, rfl, rfl, r8.ck hW⟩
        | exact ⟨_, _, rfl, rfl, r9.ck hW⟩
        | exact ⟨_, _, rfl, rfl, r10.ck hW⟩
        | exact ⟨_, _, rfl, rfl, r11.ck hW⟩
  · refine x_aload_n hm rfl rfl ?_
    refine x_ldcI hm rfl (v := (-1000001 : Int32)) (by decide +kernel) ?_
    refine x_cVi hm rfl rfl (t7 (by decide +kernel)) (fun v5 M5 r5 => ?_)
    refine x_iret hm rfl rfl (by first | rfl | exact bI_nar | decide) ?_
    first
      | exact ⟨_, _, rfl, rfl, r5.2.ck hW⟩
      | exact ⟨_, _, rfl, rfl, r5.ck hW⟩
      | exact ⟨_, _, rfl, rfl, Ck.rf hW⟩
      | exact ⟨_, _, rfl, rfl, r1.2.ck hW⟩
      | exact ⟨_, _, rfl, rfl, r2.2.ck hW⟩
      | exact ⟨_, _, rfl, rfl, r3.2.ck hW⟩
      | exact ⟨_, _, rfl, rfl, r4.2.ck hW⟩
      | exact ⟨_, _, rfl, rfl, r6.2.ck hW⟩
      | exact ⟨_, _, rfl, rfl, r7.2.ck hW⟩
      | exact ⟨_, _, rfl, rfl, r8.2.ck hW⟩
      | exact ⟨_, _, rfl, rfl, r9.2.ck hW⟩
      | exact ⟨_, _, rfl, rfl, r10.2.ck hW⟩
      | exact ⟨_, _, rfl, rfl, r11.2.ck hW⟩
      | exact ⟨_, _, rfl, rfl, r12.2.ck hW⟩
      | exact ⟨_, _, rfl, rfl, r13.2.ck hW⟩
      | exact ⟨_, _, rfl, rfl, r14.2.ck hW⟩
      | exact ⟨_, _, rfl, rfl, r15.2.ck hW⟩
      | exact ⟨_, _, rfl, rfl, r16.2.ck hW⟩
      | exact ⟨_, _, rfl, rfl, r17.2.ck hW⟩
      | exact ⟨_, _, rfl, rfl, r18.2.ck hW⟩
      | exact ⟨_, _, rfl, rfl, r19.2.ck hW⟩
      | exact ⟨_, _, rfl, rfl, r1.ck hW⟩
      | exact ⟨_, _, rfl, rfl, r2.ck hW⟩
      | exact ⟨_, _, rfl, rfl, r3.ck hW⟩
      | exact ⟨_, _, rfl, rfl, r4.ck hW⟩
      | exact ⟨_, _, rfl, rfl, r6.ck hW⟩
      | exact ⟨_, _, rfl, rfl, r7.ck hW⟩
      | exact ⟨_, _, rfl, rfl, r8.ck hW⟩
      | exact ⟨_, _, rfl, rfl, r9.ck hW⟩
      | exact ⟨_, _, rfl, rfl, r10.ck hW⟩
      | exact ⟨_, _, rfl, rfl, r11.ck hW⟩
theorem half_k : ∀ b, b ≤ 16 → ¬ nI b ≤ nI 1 → 1 ≤ b / 2 ∧ b / 2 < b ∧ nI b / nI 2 = nI (b / 2) := by decide +kernel
theorem l84b {a : Nat} {w x : Int32} {y : Int32} (hW : Wf M) (ha : a ≤ 1000) : ∀ (n k : Nat) (g : Int64), a - k < n → k ≤ a → mEv X (QL (fun _ M' => Cq M M')) 84 76 [some (.ref 0), some (.int (nI a)), some (.int w), some (.int x), some (.int y), some (.long g), none, some (.int (nI k))] [] (con M) := by
  have hm : mMet 84 = some _ := rfl
  intro n
  induction n with
  | zero =>
    intro k g hkn hkb
    omega
  | succ n ih =>
    intro k g hkn hkb
    refine x_iload hm rfl rfl ?_
    refine x_iload_n hm rfl rfl ?_
    refine x_icmp_ge hm rfl (t := 105) rfl (fun h1 => ?_) (fun h1 => ?_)
    · refine x_lload hm rfl rfl ?_
      refine x_lret hm rfl rfl ?_
      exact ⟨_, _, rfl, rfl, Cq.rf hW⟩
    · have hk : k < a := Nat.lt_of_not_le fun h => h1 (nI_le h (by omega))
      refine x_lload hm rfl rfl ?_
      refine x_iload_n hm rfl rfl ?_
      refine x_if_ne hm rfl (t := 93) rfl (fun h2 => ?_) (fun h2 => ?_)
      · refine x_iload hm rfl rfl ?_
        refine x_i2l hm rfl ?_
        refine x_lmul hm rfl ?_
        refine x_lstore hm rfl rfl ?_
        refine x_iinc hm rfl rfl (v := nI 1) (by decide) rfl ?_
        rw [jI_add]
        refine x_goto hm rfl (t := 76) rfl ?_
        exact ih _ _ (by omega) (by omega)
      · refine x_iload_n hm rfl rfl ?_
        refine x_i2l hm rfl ?_
        refine x_goto hm rfl (t := 96) rfl ?_
        refine x_lmul hm rfl ?_
        refine x_lstore hm rfl rfl ?_
        refine x_iinc hm rfl rfl (v := nI 1) (by decide) rfl ?_
        rw [jI_add]
        refine x_goto hm rfl (t := 76) rfl ?_
        exact ih _ _ (by omega) (by omega)
theorem l84a {a : Nat} {w : Int32} (hW : Wf M) (ha : a ≤ 1000) : ∀ (n b : Nat) (y : Int32), b < n → b ≤ 16 → mEv X (QL (fun _ M' => Cq M M')) 84 45 [some (.ref 0), some (.int (nI a)), some (.int w), some (.int y), some (.int (nI b)), none, none, none] [] (con M) := by
  have hm : mMet 84 = some _ := rfl
  intro n
  induction n with
  | zero =>
    intro b y hb hb16
    omega
  | succ n ih =>
    intro b y hb hb16
    refine x_iload hm rfl rfl ?_
    refine x_iconst hm rfl (v := nI 1) (by decide) ?_
    refine x_icmp_le hm rfl (t := 70) rfl (fun h1 => ?_) (fun h1 => ?_)
    · refine x_lconst hm rfl rfl ?_
      refine x_lstore hm rfl rfl ?_
      refine x_iconst hm rfl (v := nI 0) (by decide) ?_
      refine x_istore hm rfl rfl ?_
      exact l84b hW ha _ 0 _ (Nat.lt_succ_self _) (Nat.zero_le _)
    · obtain ⟨o1, o2, o3⟩ := half_k b hb16 h1
      refine x_iload_n hm rfl rfl ?_
      refine x_iconst hm rfl (v := nI 2) (by decide) ?_
      refine x_irem hm rfl (by decide) ?_
      refine x_if_ne hm rfl (t := 70) rfl (fun h2 => ?_) (fun h2 => ?_)
      · refine x_lconst hm rfl rfl ?_
        refine x_lstore hm rfl rfl ?_
        refine x_iconst hm rfl (v := nI 0) (by decide) ?_
        refine x_istore hm rfl rfl ?_
        exact l84b hW ha _ 0 _ (Nat.lt_succ_self _) (Nat.zero_le _)
      · refine x_iload_n hm rfl rfl ?_
        refine x_iconst hm rfl (v := nI 2) (by decide) ?_
        refine x_idiv hm rfl (by decide) ?_
        refine x_istore_n hm rfl rfl ?_
        refine x_iload hm rfl rfl ?_
        refine x_iconst hm rfl (v := nI 2) (by decide) ?_
        refine x_idiv hm rfl (by decide) ?_
        rw [o3]
        refine x_istore hm rfl rfl ?_
        refine x_goto hm rfl (t := 45) rfl ?_
        exact ih _ _ (by omega) (by omega)
theorem t84 {a1 a2 : Int32} (hW : Wf M) : ∃ v M', mT X 84 [.ref 0, .int a1, .int a2] (con M) (some (.long v)) (con M') ∧ Cq M M' := by
  refine tl_of (row := _) rfl (Nat.le_of_ble_eq_true rfl) ?_
  have hm : mMet 84 = some _ := rfl
  refine x_iload_n hm rfl rfl ?_
  refine x_iconst hm rfl (v := nI 0) (by decide) ?_
  refine x_bipush hm rfl (v := nI 14) (by decide) ?_
  refine x_callS hm rfl rfl (t6) ?_
  refine x_if_eq hm rfl (t := 19) rfl (fun h1 => ?_) (fun h1 => ?_)
  · refine x_aload_n hm rfl rfl ?_
    refine x_ldcI hm rfl (v := (-1000001 : Int32)) (by decide +kernel) ?_
    refine x_cVi hm rfl rfl (t7 (by decide +kernel)) (fun v2 M2 r2 => ?_)
    refine x_i2l hm rfl ?_
    refine x_lret hm rfl rfl ?_
    first
      | exact ⟨_, _, rfl, rfl, r2.2.cq hW⟩
      | exact ⟨_, _, rfl, rfl, Cq.rf hW⟩
      | exact ⟨_, _, rfl, rfl, r1.2.cq hW⟩
      | exact ⟨_, _, rfl, rfl, r3.2.cq hW⟩
      | exact ⟨_, _, rfl, rfl, r4.2.cq hW⟩
      | exact ⟨_, _, rfl, rfl, r5.2.cq hW⟩
      | exact ⟨_, _, rfl, rfl, r6.2.cq hW⟩
      | exact ⟨_, _, rfl, rfl, r7.2.cq hW⟩
      | exact ⟨_, _, rfl, rfl, r8.2.cq hW⟩
      | exact ⟨_, _, rfl, rfl, r9.2.cq hW⟩
      | exact ⟨_, _, rfl, rfl, r10.2.cq hW⟩
      | exact ⟨_, _, rfl, rfl, r11.2.cq hW⟩
  · obtain ⟨a, ha, rfl⟩ := le_k (by omega) (bI_ne0 h1)
    refine x_iload_n hm rfl rfl ?_
    refine x_iconst hm rfl (v := nI 0) (by decide) ?_
    refine x_iconst hm rfl (v := nI 1) (by decide) ?_
    refine x_callS hm rfl rfl (t6) ?_
    refine x_if_ne hm rfl (t := 27) rfl (fun h3 => ?_) (fun h3 => ?_)
    · refine x_bipush hm rfl (v := nI 16) (by decide) ?_
      refine x_aload_n hm rfl rfl ?_
      refine x_getf hm rfl (gR rfl rfl) ?_
      refine x_cVe hm rfl rfl (t85 (by decide) hW) (fun v4 r4 => ?_)
      refine x_cSe hm rfl rfl (t36) (fun v5 r5 => ?_)
      refine x_isub hm rfl ?_
      refine x_istore_n hm rfl rfl ?_
      refine x_bipush hm rfl (v := nI 16) (by decide) ?_
      refine x_istore hm rfl rfl ?_
      exact l84a hW (by omega) _ 16 _ (Nat.lt_succ_self _) (by decide)
    · refine x_aload_n hm rfl rfl ?_
      refine x_ldcI hm rfl (v := (-1000001 : Int32)) (by decide +kernel) ?_
      refine x_cVi hm rfl rfl (t7 (by decide +kernel)) (fun v6 M6 r6 => ?_)
      refine x_i2l hm rfl ?_
      refine x_lret hm rfl rfl ?_
      first
        | exact ⟨_, _, rfl, rfl, r6.2.cq hW⟩
        | exact ⟨_, _, rfl, rfl, Cq.rf hW⟩
        | exact ⟨_, _, rfl, rfl, r1.2.cq hW⟩
        | exact ⟨_, _, rfl, rfl, r2.2.cq hW⟩
        | exact ⟨_, _, rfl, rfl, r3.2.cq hW⟩
        | exact ⟨_, _, rfl, rfl, r4.2.cq hW⟩
        | exact ⟨_, _, rfl, rfl, r5.2.cq hW⟩
        | exact ⟨_, _, rfl, rfl, r7.2.cq hW⟩
        | exact ⟨_, _, rfl, rfl, r8.2.cq hW⟩
        | exact ⟨_, _, rfl, rfl, r9.2.cq hW⟩
        | exact ⟨_, _, rfl, rfl, r10.2.cq hW⟩
        | exact ⟨_, _, rfl, rfl, r11.2.cq hW⟩
theorem t88 {c : Nat} {v : Int32} (hc : M 52 1 = nI c) (h : c < 120) : ∃ M', mT X 88 [.ref 52, .int v] (con M) none (con M') ∧ M' = mput (mput M 53 c v.toInt8.toInt32) 52 1 (nI (c + 1)) := by
  refine tv_of (row := _) rfl (Nat.le_of_ble_eq_true rfl) ?_
  have hm : mMet 88 = some _ := rfl
  refine x_aload_n hm rfl rfl ?_
  refine x_getf hm rfl (gR rfl rfl) ?_
  refine x_aload_n hm rfl rfl ?_
  refine x_getf hm rfl (gI rfl rfl) ?_
  rw [hc]
  refine x_iload_n hm rfl rfl ?_
  refine x_bast hm rfl (sB rfl (by omega) (by decide)) ?_
  refine x_aload_n hm rfl rfl ?_
  refine x_dup hm rfl rfl ?_
  refine x_getf hm rfl (gI rfl rfl) ?_
  rw [mput_ne (a := 53) (i := 52) (by decide), hc]
  refine x_iconst hm rfl (v := nI 1) (by decide) ?_
  refine x_iadd hm rfl ?_
  rw [jI_add]
  refine x_putf hm rfl (pI rfl rfl (by decide) (by first | exact mFit_int | rfl | decide) rfl) ?_
  refine x_ret hm rfl rfl ?_
  exact ⟨_, rfl, rfl, rfl⟩
theorem Ck.tape {v : Int32} {x : Nat} (hW : Wf M) : Ck M (mput M 53 x v) := ⟨hW.put0 (by simp [kd]), fun a ha => mpo (by omega)⟩
theorem l87 {b nn : Int32} : ∀ (n j c : Nat) (M1 : mM), j < n → c + j ≤ 120 → M1 52 1 = nI c → Ck M M1 → mEv X (QI (fun _ M' => Ck M M')) 87 41 [some (.ref 0), some (.int b), some (.int nn), some (.int (nI j + (-1)))] [] (con M1) := by
  have hm : mMet 87 = some _ := rfl
  intro n
  induction n with
  | zero =>
    intro j c M1 hj hc hc1 hS
    omega
  | succ n ih =>
    intro j c M1 hj hc hc1 hS
    refine x_iload_n hm rfl rfl ?_
    refine x_if_lt hm rfl (t := 65) rfl (fun h1 => ?_) (fun h1 => ?_)
    · refine x_aload_n hm rfl rfl ?_
      refine x_getf hm rfl (gR rfl rfl) ?_
      refine x_getf hm rfl (gI rfl rfl) ?_
      refine x_iret hm rfl rfl (by first | rfl | exact bI_nar | decide) ?_
      exact ⟨_, _, rfl, rfl, hS⟩
    · obtain ⟨i, rfl⟩ : ∃ i, j = i + 1 := by
        cases j with
        | zero => exact absurd (by decide) h1
        | succ i => exact ⟨i, rfl⟩
      refine x_aload_n hm rfl rfl ?_
      refine x_getf hm rfl (gR rfl rfl) ?_
      refine x_iload_n hm rfl rfl ?_
      refine x_bipush hm rfl (v := nI 8) (by decide) ?_
      refine x_iload_n hm rfl rfl ?_
      refine x_imul hm rfl ?_
      refine x_ishr hm rfl ?_
      refine x_i2b hm rfl ?_
      refine x_cVv hm rfl rfl (t88 hc1 (by omega)) (fun M2 r2 => ?_)
      refine x_iinc hm rfl rfl (v := (-1 : Int32)) (by decide) rfl ?_
      rw [dec1]
      refine x_goto hm rfl (t := 41) rfl ?_
      subst r2
      exact ih _ (c + 1) _ (by omega) (by omega) mp0 (hS.trans ((Ck.tape hS.1).trans (Ck.reader (Ck.tape hS.1).1 (okI4 (by omega)))))
theorem t87 {a1 a2 : Int32} (hW : Wf M) : ∃ v M', mT X 87 [.ref 0, .int a1, .int a2] (con M) (some (.int v)) (con M') ∧ Ck M M' := by
  refine ti_of (row := _) rfl (Nat.le_of_ble_eq_true rfl) ?_
  have hm : mMet 87 = some _ := rfl
  obtain ⟨c, hc, hc9⟩ := ok4 (show okx 4 (M 52 1) from hW 52 1)
  refine x_iload_n hm rfl rfl ?_
  refine x_iconst hm rfl (v := nI 1) (by decide) ?_
  refine x_iconst hm rfl (v := nI 4) (by decide) ?_
  refine x_callS hm rfl rfl (t6) ?_
  refine x_if_ne hm rfl (t := 16) rfl (fun h1 => ?_) (fun h1 => ?_)
  · obtain ⟨a, ha, ha1, rfl⟩ := le1_k (by omega) (bI_ne0 h1)
    refine x_aload_n hm rfl rfl ?_
    refine x_getf hm rfl (gR rfl rfl) ?_
    refine x_getf hm rfl (gI rfl rfl) ?_
    rw [hc9]
    refine x_iload_n hm rfl rfl ?_
    refine x_iadd hm rfl ?_
    rw [jI_add]
    refine x_bipush hm rfl (v := nI 120) (by decide) ?_
    refine x_icmp_le hm rfl (t := 37) rfl (fun h2 => ?_) (fun h2 => ?_)
    · have hle : c + a ≤ 120 := (jI_le (by omega) (by decide)).mp h2
      refine x_iload_n hm rfl rfl ?_
      refine x_iconst hm rfl (v := nI 1) (by decide) ?_
      refine x_isub hm rfl ?_
      rw [sub1]
      refine x_istore_n hm rfl rfl ?_
      exact l87 _ a c _ (Nat.lt_succ_self _) hle hc9 (Ck.rf hW)
    · refine x_aload_n hm rfl rfl ?_
      refine x_ldcI hm rfl (v := (-1000002 : Int32)) (by decide +kernel) ?_
      refine x_cVi hm rfl rfl (t7 (by decide +kernel)) (fun v3 M3 r3 => ?_)
      refine x_iret hm rfl rfl (by first | rfl | exact bI_nar | decide) ?_
      first
        | exact ⟨_, _, rfl, rfl, r3.2.ck hW⟩
        | exact ⟨_, _, rfl, rfl, r3.ck hW⟩
        | exact ⟨_, _, rfl, rfl, Ck.rf hW⟩
        | exact ⟨_, _, rfl, rfl, r1.2.ck hW⟩
        | exact ⟨_, _, rfl, rfl, r2.2.ck hW⟩
        | exact ⟨_, _, rfl, rfl, r4.2.ck hW⟩
        | exact ⟨_, _, rfl, rfl, r5.2.ck hW⟩
        | exact ⟨_, _, rfl, rfl, r6.2.ck hW⟩
        | exact ⟨_, _, rfl, rfl, r7.2.ck hW⟩
        | exact ⟨_, _, rfl, rfl, r8.2.ck hW⟩
        | exact ⟨_, _, rfl, rfl, r9.2.ck hW⟩
        | exact ⟨_, _, rfl, rfl, r10.2.ck hW⟩
        | exact ⟨_, _, rfl, rfl, r11.2.ck hW⟩
        | exact ⟨_, _, rfl, rfl, r12.2.ck hW⟩
        | exact ⟨_, _, rfl, rfl, r13.2.ck hW⟩
        | exact ⟨_, _, rfl, rfl, r14.2.ck hW⟩
        | exact ⟨_, _, rfl, rfl, r15.2.ck hW⟩
        | exact ⟨_, _, rfl, rfl, r16.2.ck hW⟩
        | exact ⟨_, _, rfl, rfl, r17.2.ck hW⟩
        | exact ⟨_, _, rfl, rfl, r18.2.ck hW⟩
        | exact ⟨_, _, rfl, rfl, r19.2.ck hW⟩
        | exact ⟨_, _, rfl, rfl, r1.ck hW⟩
        | exact ⟨_, _, rfl, rfl, r2.ck hW⟩
        | exact ⟨_, _, rfl, rfl, r4.ck hW⟩
        | exact ⟨_, _, rfl, rfl, r5.ck hW⟩
        | exact ⟨_, _, rfl, rfl, r6.ck hW⟩
        | exact ⟨_, _, rfl, rfl, r7.ck hW⟩
        | exact ⟨_, _, rfl, rfl, r8.ck hW⟩
        | exact ⟨_, _, rfl, rfl, r9.ck hW⟩
        | exact ⟨_, _, rfl, rfl, r10.ck hW⟩
        | exact ⟨_, _, rfl, rfl, r11.ck hW⟩
  · refine x_aload_n hm rfl rfl ?_
    refine x_ldcI hm rfl (v := (-1000001 : Int32)) (by decide +kernel) ?_
    refine x_cVi hm rfl rfl (t7 (by decide +kernel)) (fun v4 M4 r4 => ?_)
    refine x_iret hm rfl rfl (by first | rfl | exact bI_nar | decide) ?_
    first
      | exact ⟨_, _, rfl, rfl, r4.2.ck hW⟩
      | exact ⟨_, _, rfl, rfl, r4.ck hW⟩
      | exact ⟨_, _, rfl, rfl, Ck.rf hW⟩
      | exact ⟨_, _, rfl, rfl, r1.2.ck hW⟩
      | exact ⟨_, _, rfl, rfl, r2.2.ck hW⟩
      | exact ⟨_, _, rfl, rfl, r3.2.ck hW⟩
      | exact ⟨_, _, rfl, rfl, r5.2.ck hW⟩
      | exact ⟨_, _, rfl, rfl, r6.2.ck hW⟩
      | exact ⟨_, _, rfl, rfl, r7.2.ck hW⟩
      | exact ⟨_, _, rfl, rfl, r8.2.ck hW⟩
      | exact ⟨_, _, rfl, rfl, r9.2.ck hW⟩
      | exact ⟨_, _, rfl, rfl, r10.2.ck hW⟩
      | exact ⟨_, _, rfl, rfl, r11.2.ck hW⟩
      | exact ⟨_, _, rfl, rfl, r12.2.ck hW⟩
      | exact ⟨_, _, rfl, rfl, r13.2.ck hW⟩
      | exact ⟨_, _, rfl, rfl, r14.2.ck hW⟩
      | exact ⟨_, _, rfl, rfl, r15.2.ck hW⟩
      | exact ⟨_, _, rfl, rfl, r16.2.ck hW⟩
      | exact ⟨_, _, rfl, rfl, r17.2.ck hW⟩
      | exact ⟨_, _, rfl, rfl, r18.2.ck hW⟩
      | exact ⟨_, _, rfl, rfl, r19.2.ck hW⟩
      | exact ⟨_, _, rfl, rfl, r1.ck hW⟩
      | exact ⟨_, _, rfl, rfl, r2.ck hW⟩
      | exact ⟨_, _, rfl, rfl, r3.ck hW⟩
      | exact ⟨_, _, rfl, rfl, r5.ck hW⟩
      | exact ⟨_, _, rfl, rfl, r6.ck hW⟩
      | exact ⟨_, _, rfl, rfl, r7.ck hW⟩
      | exact ⟨_, _, rfl, rfl, r8.ck hW⟩
      | exact ⟨_, _, rfl, rfl, r9.ck hW⟩
      | exact ⟨_, _, rfl, rfl, r10.ck hW⟩
      | exact ⟨_, _, rfl, rfl, r11.ck hW⟩
end CG
