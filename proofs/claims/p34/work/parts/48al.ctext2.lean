section CU
variable {X : mSc} {Q : Option Value → mHp → Prop} {M : mM}
theorem t91 {c nt np : Nat} (hc1 : M 52 1 = nI c) (hc : c ≤ 120) (hnt : M 1 3 = nI nt) (hnp : M 1 4 = nI np) (hn8 : nt ≤ 8) (hp8 : np ≤ 8) : ∃ v M', mT X 91 [.ref 52, .ref 1] (con M) (some (.int v)) (con M') ∧ ∃ nt np, nt ≤ 8 ∧ np ≤ 8 ∧ Cp c nt np M M' := by
  refine ti_of (row := _) rfl (Nat.le_of_ble_eq_true rfl) ?_
  have hm : mMet 91 = some _ := rfl
  refine x_aload_n hm rfl rfl ?_
  refine x_iconst hm rfl (v := (-1 : Int32)) (by decide) ?_
  refine x_putf hm rfl (pI rfl rfl (by decide) (by first | exact mFit_int | rfl | decide) rfl) ?_
  refine x_aload_n hm rfl rfl ?_
  refine x_iconst hm rfl (v := nI 0) (by decide) ?_
  refine x_putf hm rfl (pI rfl rfl (by decide) (by first | exact mFit_int | rfl | decide) rfl) ?_
  refine x_aload_n hm rfl rfl ?_
  have hL : Lc M (mput (mput M 52 6 (-1)) 52 4 (nI 0)) := (Lc.put (by decide) (by decide)).trans (Lc.put (by decide) (by decide))
  obtain ⟨M2, g1, g2, g3⟩ := u92 (X := X) (M := mput (mput M 52 6 (-1)) 52 4 (nI 0)) (e := 0) (c := c) mp0 ((hL 52 1 (by omega)).trans hc1) (Nat.zero_le _) hc
  have hL2 := hL.trans g2
  refine x_callV hm rfl rfl g1 ?_
  refine x_iconst hm rfl (v := nI 0) (by decide) ?_
  refine x_istore_n hm rfl rfl ?_
  refine x_iconst hm rfl (v := nI 1) (by decide) ?_
  refine x_istore_n hm rfl rfl ?_
  exact l91 (M0 := M) _ 0 nt np _ _ _ (Nat.lt_succ_self _) (by decide) hn8 hp8 ⟨hL2.bq, g3, (hL2 1 3 (by omega)).trans hnt, (hL2 1 4 (by omega)).trans hnp⟩
theorem t90  (hW : Wf M) : ∃ v M', mT X 90 [.ref 0] (con M) (some (.int v)) (con M') ∧ Ck M M' := by
  refine ti_of (row := _) rfl (Nat.le_of_ble_eq_true rfl) ?_
  have hm : mMet 90 = some _ := rfl
  obtain ⟨c, hc, hc9⟩ := ok4 (show okx 4 (M 52 1) from hW 52 1)
  obtain ⟨nt, hn8, hnt⟩ := hW.ct (b := 1) (by decide)
  obtain ⟨np, hp8, hnp⟩ := hW.cpn (b := 1) (by decide)
  refine x_aload_n hm rfl rfl ?_
  refine x_getf hm rfl (gR rfl rfl) ?_
  refine x_getf hm rfl (gI rfl rfl) ?_
  rw [hnt]
  refine x_istore_n hm rfl rfl ?_
  refine x_aload_n hm rfl rfl ?_
  refine x_getf hm rfl (gR rfl rfl) ?_
  refine x_getf hm rfl (gI rfl rfl) ?_
  rw [hnp]
  refine x_istore_n hm rfl rfl ?_
  refine x_aload_n hm rfl rfl ?_
  refine x_getf hm rfl (gR rfl rfl) ?_
  refine x_aload_n hm rfl rfl ?_
  refine x_getf hm rfl (gR rfl rfl) ?_
  refine x_cVi hm rfl rfl (t91 hc9 hc hnt hnp hn8 hp8) (fun v1 M1 r1 => ?_)
  first
    | obtain ⟨nt2, np2, e1, e2, hC⟩ := r8
    | obtain ⟨nt2, np2, e1, e2, hC⟩ := r7
    | obtain ⟨nt2, np2, e1, e2, hC⟩ := r6
    | obtain ⟨nt2, np2, e1, e2, hC⟩ := r5
    | obtain ⟨nt2, np2, e1, e2, hC⟩ := r4
    | obtain ⟨nt2, np2, e1, e2, hC⟩ := r3
    | obtain ⟨nt2, np2, e1, e2, hC⟩ := r2
    | obtain ⟨nt2, np2, e1, e2, hC⟩ := r1
  have hk1 := hC.1.ck hW
  have hk2 := ((hC.1.trans (Bq.fld (b := 1) (x := 3) (Or.inl rfl) (okI1 hn8))).trans (Bq.fld (b := 1) (x := 4) (Or.inl rfl) (okI1 hp8))).ck hW
  refine x_istore_n hm rfl rfl ?_
  refine x_aload_n hm rfl rfl ?_
  refine x_getf hm rfl (gR rfl rfl) ?_
  refine x_getf hm rfl (gI rfl rfl) ?_
  refine x_iconst hm rfl (v := (-1 : Int32)) (by decide) ?_
  refine x_icmp_eq hm rfl (t := 55) rfl (fun h2 => ?_) (fun h2 => ?_)
  · refine x_aload_n hm rfl rfl ?_
    refine x_getf hm rfl (gR rfl rfl) ?_
    refine x_iconst hm rfl (v := nI 0) (by decide) ?_
    refine x_putf hm rfl (pI rfl rfl (by decide) (by first | exact mFit_int | rfl | decide) rfl) ?_
    refine x_aload_n hm rfl rfl ?_
    refine x_getf hm rfl (gR rfl rfl) ?_
    refine x_getf hm rfl (gI rfl rfl) ?_
    refine x_iconst hm rfl (v := (-1 : Int32)) (by decide) ?_
    refine x_icmp_ne hm rfl (t := 78) rfl (fun h3 => ?_) (fun h3 => ?_)
    · refine x_iconst hm rfl (v := (-1 : Int32)) (by decide) ?_
      refine x_aload_n hm rfl rfl ?_
      refine x_getf hm rfl (gR rfl rfl) ?_
      refine x_getf hm rfl (gI rfl rfl) ?_
      refine x_isub hm rfl ?_
      refine x_iret hm rfl rfl (by first | rfl | exact bI_nar | decide) ?_
      first
        | exact ⟨_, _, rfl, rfl, hk1.trans (Ck.reader hk1.1 (okI4 (k := 0) (by decide)))⟩
        | exact ⟨_, _, rfl, rfl, hk2.trans (Ck.reader hk2.1 (okI4 (k := 0) (by decide)))⟩
    · refine x_iload_n hm rfl rfl ?_
      refine x_goto hm rfl (t := 87) rfl ?_
      refine x_iret hm rfl rfl (by first | rfl | exact bI_nar | decide) ?_
      first
        | exact ⟨_, _, rfl, rfl, hk1.trans (Ck.reader hk1.1 (okI4 (k := 0) (by decide)))⟩
        | exact ⟨_, _, rfl, rfl, hk2.trans (Ck.reader hk2.1 (okI4 (k := 0) (by decide)))⟩
  · refine x_aload_n hm rfl rfl ?_
    refine x_getf hm rfl (gR rfl rfl) ?_
    refine x_iload_n hm rfl rfl ?_
    refine x_putf hm rfl (pI rfl rfl (by decide) (by first | exact mFit_int | rfl | decide) rfl) ?_
    refine x_aload_n hm rfl rfl ?_
    refine x_getf hm rfl (gR rfl rfl) ?_
    refine x_iload_n hm rfl rfl ?_
    refine x_putf hm rfl (pI rfl rfl (by decide) (by first | exact mFit_int | rfl | decide) rfl) ?_
    refine x_aload_n hm rfl rfl ?_
    refine x_getf hm rfl (gR rfl rfl) ?_
    refine x_iconst hm rfl (v := nI 0) (by decide) ?_
    refine x_putf hm rfl (pI rfl rfl (by decide) (by first | exact mFit_int | rfl | decide) rfl) ?_
    refine x_aload_n hm rfl rfl ?_
    refine x_getf hm rfl (gR rfl rfl) ?_
    refine x_getf hm rfl (gI rfl rfl) ?_
    refine x_iconst hm rfl (v := (-1 : Int32)) (by decide) ?_
    refine x_icmp_ne hm rfl (t := 78) rfl (fun h4 => ?_) (fun h4 => ?_)
    · refine x_iconst hm rfl (v := (-1 : Int32)) (by decide) ?_
      refine x_aload_n hm rfl rfl ?_
      refine x_getf hm rfl (gR rfl rfl) ?_
      refine x_getf hm rfl (gI rfl rfl) ?_
      refine x_isub hm rfl ?_
      refine x_iret hm rfl rfl (by first | rfl | exact bI_nar | decide) ?_
      first
        | exact ⟨_, _, rfl, rfl, hk1.trans (Ck.reader hk1.1 (okI4 (k := 0) (by decide)))⟩
        | exact ⟨_, _, rfl, rfl, hk2.trans (Ck.reader hk2.1 (okI4 (k := 0) (by decide)))⟩
    · refine x_iload_n hm rfl rfl ?_
      refine x_goto hm rfl (t := 87) rfl ?_
      refine x_iret hm rfl rfl (by first | rfl | exact bI_nar | decide) ?_
      first
        | exact ⟨_, _, rfl, rfl, hk1.trans (Ck.reader hk1.1 (okI4 (k := 0) (by decide)))⟩
        | exact ⟨_, _, rfl, rfl, hk2.trans (Ck.reader hk2.1 (okI4 (k := 0) (by decide)))⟩
end CU
