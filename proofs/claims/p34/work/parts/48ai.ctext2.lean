section CU
variable {X : mSc} {Q : Option Value → mHp → Prop} {M : mM}
theorem l91t {c nt np i : Nat} {M0 : mM} {v : Int32} {x4 : Option Value} (hnt : nt ≤ 8) (hnp : np ≤ 8) (hC : Cp c nt np M0 M) (hout : ∀ (nt np : Nat) (v : Int32) (x4 : Option Value) (M : mM), nt ≤ 8 → np ≤ 8 → Cp c nt np M0 M → mEv X (QI (fun _ M' => ∃ nt np, nt ≤ 8 ∧ np ≤ 8 ∧ Cp c nt np M0 M')) 91 18 [some (.ref 52), some (.ref 1), some (.int (nI (i + 1))), some (.int v), x4] [] (con M)) : mEv X (QI (fun _ M' => ∃ nt np, nt ≤ 8 ∧ np ≤ 8 ∧ Cp c nt np M0 M')) 91 89 [some (.ref 52), some (.ref 1), some (.int (nI i)), some (.int v), x4] [] (con M) := by
  have hm : mMet 91 = some _ := rfl
  refine x_iinc hm rfl rfl (v := nI 1) (by decide) rfl ?_
  rw [jI_add]
  refine x_aload_n hm rfl rfl ?_
  refine x_getf hm rfl (gI rfl rfl) ?_
  refine x_iconst hm rfl (v := (-1 : Int32)) (by decide) ?_
  refine x_icmp_ne hm rfl (t := 112) rfl (fun h1 => ?_) (fun h1 => ?_)
  · refine x_iconst hm rfl (v := nI 0) (by decide) ?_
    refine x_istore_n hm rfl rfl ?_
    refine x_iload_n hm rfl rfl ?_
    refine x_if_eq hm rfl (t := 122) rfl (fun h2 => ?_) (fun h2 => ?_)
    · refine x_goto hm rfl (t := 18) rfl ?_
      first
        | exact hout _ _ _ _ _ hnt hnp hC
        | exact hout _ _ _ _ _ hnt hnp r1
        | exact hout _ _ _ _ _ hnt hnp r2
        | exact hout _ _ _ _ _ hnt hnp r3
        | exact hout _ _ _ _ _ hnt hnp r4
        | exact hout _ _ _ _ _ hnt hnp r5
        | exact hout _ _ _ _ _ hnt hnp r6
        | exact hout _ _ _ _ _ hnt hnp r7
        | exact hout _ _ _ _ _ hnt hnp r8
        | exact hout _ _ _ _ _ hnt hnp r9
        | exact hout _ _ _ _ _ hnt hnp r10
        | exact hout _ _ _ _ _ hnt hnp r11
    · refine x_aload_n hm rfl rfl ?_
      refine x_cVv hm rfl rfl (w92 (by assumption)) (fun M3 r3 => ?_)
      refine x_goto hm rfl (t := 18) rfl ?_
      first
        | exact hout _ _ _ _ _ hnt hnp r3
        | exact hout _ _ _ _ _ hnt hnp hC
        | exact hout _ _ _ _ _ hnt hnp r1
        | exact hout _ _ _ _ _ hnt hnp r2
        | exact hout _ _ _ _ _ hnt hnp r4
        | exact hout _ _ _ _ _ hnt hnp r5
        | exact hout _ _ _ _ _ hnt hnp r6
        | exact hout _ _ _ _ _ hnt hnp r7
        | exact hout _ _ _ _ _ hnt hnp r8
        | exact hout _ _ _ _ _ hnt hnp r9
        | exact hout _ _ _ _ _ hnt hnp r10
        | exact hout _ _ _ _ _ hnt hnp r11
  · refine x_aload_n hm rfl rfl ?_
    refine x_getf hm rfl (gI rfl rfl) ?_
    refine x_iconst hm rfl (v := nI 3) (by decide) ?_
    refine x_icmp_ne hm rfl (t := 112) rfl (fun h4 => ?_) (fun h4 => ?_)
    · refine x_iconst hm rfl (v := nI 0) (by decide) ?_
      refine x_istore_n hm rfl rfl ?_
      refine x_iload_n hm rfl rfl ?_
      refine x_if_eq hm rfl (t := 122) rfl (fun h5 => ?_) (fun h5 => ?_)
      · refine x_goto hm rfl (t := 18) rfl ?_
        first
          | exact hout _ _ _ _ _ hnt hnp hC
          | exact hout _ _ _ _ _ hnt hnp r1
          | exact hout _ _ _ _ _ hnt hnp r2
          | exact hout _ _ _ _ _ hnt hnp r3
          | exact hout _ _ _ _ _ hnt hnp r4
          | exact hout _ _ _ _ _ hnt hnp r5
          | exact hout _ _ _ _ _ hnt hnp r6
          | exact hout _ _ _ _ _ hnt hnp r7
          | exact hout _ _ _ _ _ hnt hnp r8
          | exact hout _ _ _ _ _ hnt hnp r9
          | exact hout _ _ _ _ _ hnt hnp r10
          | exact hout _ _ _ _ _ hnt hnp r11
      · refine x_aload_n hm rfl rfl ?_
        refine x_cVv hm rfl rfl (w92 (by assumption)) (fun M6 r6 => ?_)
        refine x_goto hm rfl (t := 18) rfl ?_
        first
          | exact hout _ _ _ _ _ hnt hnp r6
          | exact hout _ _ _ _ _ hnt hnp hC
          | exact hout _ _ _ _ _ hnt hnp r1
          | exact hout _ _ _ _ _ hnt hnp r2
          | exact hout _ _ _ _ _ hnt hnp r3
          | exact hout _ _ _ _ _ hnt hnp r4
          | exact hout _ _ _ _ _ hnt hnp r5
          | exact hout _ _ _ _ _ hnt hnp r7
          | exact hout _ _ _ _ _ hnt hnp r8
          | exact hout _ _ _ _ _ hnt hnp r9
          | exact hout _ _ _ _ _ hnt hnp r10
          | exact hout _ _ _ _ _ hnt hnp r11
    · refine x_iconst hm rfl (v := nI 1) (by decide) ?_
      refine x_goto hm rfl (t := 113) rfl ?_
      refine x_istore_n hm rfl rfl ?_
      refine x_iload_n hm rfl rfl ?_
      refine x_if_eq hm rfl (t := 122) rfl (fun h7 => ?_) (fun h7 => ?_)
      · refine x_goto hm rfl (t := 18) rfl ?_
        first
          | exact hout _ _ _ _ _ hnt hnp hC
          | exact hout _ _ _ _ _ hnt hnp r1
          | exact hout _ _ _ _ _ hnt hnp r2
          | exact hout _ _ _ _ _ hnt hnp r3
          | exact hout _ _ _ _ _ hnt hnp r4
          | exact hout _ _ _ _ _ hnt hnp r5
          | exact hout _ _ _ _ _ hnt hnp r6
          | exact hout _ _ _ _ _ hnt hnp r7
          | exact hout _ _ _ _ _ hnt hnp r8
          | exact hout _ _ _ _ _ hnt hnp r9
          | exact hout _ _ _ _ _ hnt hnp r10
          | exact hout _ _ _ _ _ hnt hnp r11
      · refine x_aload_n hm rfl rfl ?_
        refine x_cVv hm rfl rfl (w92 (by assumption)) (fun M8 r8 => ?_)
        refine x_goto hm rfl (t := 18) rfl ?_
        first
          | exact hout _ _ _ _ _ hnt hnp r8
          | exact hout _ _ _ _ _ hnt hnp hC
          | exact hout _ _ _ _ _ hnt hnp r1
          | exact hout _ _ _ _ _ hnt hnp r2
          | exact hout _ _ _ _ _ hnt hnp r3
          | exact hout _ _ _ _ _ hnt hnp r4
          | exact hout _ _ _ _ _ hnt hnp r5
          | exact hout _ _ _ _ _ hnt hnp r6
          | exact hout _ _ _ _ _ hnt hnp r7
          | exact hout _ _ _ _ _ hnt hnp r9
          | exact hout _ _ _ _ _ hnt hnp r10
          | exact hout _ _ _ _ _ hnt hnp r11
end CU
