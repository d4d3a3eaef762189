section CU
variable {X : mSc} {Q : Option Value → mHp → Prop} {M : mM}
theorem l91 {c : Nat} {M0 : mM} : ∀ (n i nt np : Nat) (v : Int32) (x4 : Option Value) (M : mM), 122 - i < n → i ≤ 121 → nt ≤ 8 → np ≤ 8 → Cp c nt np M0 M → mEv X (QI (fun _ M' => ∃ nt np, nt ≤ 8 ∧ np ≤ 8 ∧ Cp c nt np M0 M')) 91 18 [some (.ref 52), some (.ref 1), some (.int (nI i)), some (.int v), x4] [] (con M) := by
  have hm : mMet 91 = some _ := rfl
  intro n
  induction n with
  | zero =>
    intro i nt np v x4 M hin hi hnt hnp hC
    omega
  | succ n ih =>
    intro i nt np v x4 M hin hi hnt hnp hC
    refine x_iload_n hm rfl rfl ?_
    refine x_if_eq hm rfl (t := 125) rfl (fun h1 => ?_) (fun h1 => ?_)
    · exact l91e hnt hnp hC
    · refine x_iload_n hm rfl rfl ?_
      refine x_bipush hm rfl (v := nI 120) (by decide) ?_
      refine x_icmp_gt hm rfl (t := 125) rfl (fun h2 => ?_) (fun h2 => ?_)
      · exact l91e hnt hnp hC
      · have hi120 : i ≤ 120 := Nat.le_of_not_lt fun h => h2 (nI_lt h (by omega))
        have hout := fun nt np v x4 M h1 h2 h3 => ih (i + 1) nt np v x4 M (by omega) (by omega) h1 h2 h3
        refine x_aload_n hm rfl rfl ?_
        refine x_cVe hm rfl rfl (w95 (by assumption)) (fun v3 r3 => ?_)
        refine x_istore hm rfl rfl ?_
        refine x_iload hm rfl rfl ?_
        refine x_iconst hm rfl (v := (-1 : Int32)) (by decide) ?_
        refine x_icmp_eq hm rfl (t := 59) rfl (fun h4 => ?_) (fun h4 => ?_)
        · refine x_aload_n hm rfl rfl ?_
          refine x_ldcS hm rfl ?_
          refine x_cVe hm rfl rfl (w97 (by decide) (by assumption)) (fun v5 r5 => ?_)
          refine x_if_eq hm rfl (t := 85) rfl (fun h6 => ?_) (fun h6 => ?_)
          · refine x_aload_n hm rfl rfl ?_
            refine x_cVv hm rfl rfl (w112 (by assumption)) (fun M7 r7 => ?_)
            first
              | exact l91t hnt hnp r7 hout
              | exact l91t hnt (Nat.succ_le_of_lt hlt) r7 hout
              | exact l91t (Nat.succ_le_of_lt hlt) hnp r7 hout
              | exact l91t hnt hnp r5 hout
              | exact l91t hnt (Nat.succ_le_of_lt hlt) r5 hout
              | exact l91t (Nat.succ_le_of_lt hlt) hnp r5 hout
              | exact l91t hnt hnp r3 hout
              | exact l91t hnt (Nat.succ_le_of_lt hlt) r3 hout
              | exact l91t (Nat.succ_le_of_lt hlt) hnp r3 hout
              | exact l91t hnt hnp r39 hout
              | exact l91t hnt (Nat.succ_le_of_lt hlt) r39 hout
              | exact l91t (Nat.succ_le_of_lt hlt) hnp r39 hout
              | exact l91t hnt hnp r38 hout
              | exact l91t hnt (Nat.succ_le_of_lt hlt) r38 hout
              | exact l91t (Nat.succ_le_of_lt hlt) hnp r38 hout
              | exact l91t hnt hnp r37 hout
              | exact l91t hnt (Nat.succ_le_of_lt hlt) r37 hout
              | exact l91t (Nat.succ_le_of_lt hlt) hnp r37 hout
              | exact l91t hnt hnp r36 hout
              | exact l91t hnt (Nat.succ_le_of_lt hlt) r36 hout
              | exact l91t (Nat.succ_le_of_lt hlt) hnp r36 hout
              | exact l91t hnt hnp r35 hout
              | exact l91t hnt (Nat.succ_le_of_lt hlt) r35 hout
              | exact l91t (Nat.succ_le_of_lt hlt) hnp r35 hout
              | exact l91t hnt hnp r34 hout
              | exact l91t hnt (Nat.succ_le_of_lt hlt) r34 hout
              | exact l91t (Nat.succ_le_of_lt hlt) hnp r34 hout
              | exact l91t hnt hnp r33 hout
              | exact l91t hnt (Nat.succ_le_of_lt hlt) r33 hout
              | exact l91t (Nat.succ_le_of_lt hlt) hnp r33 hout
              | exact l91t hnt hnp r32 hout
              | exact l91t hnt (Nat.succ_le_of_lt hlt) r32 hout
              | exact l91t (Nat.succ_le_of_lt hlt) hnp r32 hout
              | exact l91t hnt hnp r31 hout
              | exact l91t hnt (Nat.succ_le_of_lt hlt) r31 hout
              | exact l91t (Nat.succ_le_of_lt hlt) hnp r31 hout
              | exact l91t hnt hnp r30 hout
              | exact l91t hnt (Nat.succ_le_of_lt hlt) r30 hout
              | exact l91t (Nat.succ_le_of_lt hlt) hnp r30 hout
              | exact l91t hnt hnp r29 hout
              | exact l91t hnt (Nat.succ_le_of_lt hlt) r29 hout
              | exact l91t (Nat.succ_le_of_lt hlt) hnp r29 hout
              | exact l91t hnt hnp r28 hout
              | exact l91t hnt (Nat.succ_le_of_lt hlt) r28 hout
              | exact l91t (Nat.succ_le_of_lt hlt) hnp r28 hout
              | exact l91t hnt hnp r27 hout
              | exact l91t hnt (Nat.succ_le_of_lt hlt) r27 hout
              | exact l91t (Nat.succ_le_of_lt hlt) hnp r27 hout
              | exact l91t hnt hnp r26 hout
              | exact l91t hnt (Nat.succ_le_of_lt hlt) r26 hout
              | exact l91t (Nat.succ_le_of_lt hlt) hnp r26 hout
              | exact l91t hnt hnp r25 hout
              | exact l91t hnt (Nat.succ_le_of_lt hlt) r25 hout
              | exact l91t (Nat.succ_le_of_lt hlt) hnp r25 hout
              | exact l91t hnt hnp r24 hout
              | exact l91t hnt (Nat.succ_le_of_lt hlt) r24 hout
              | exact l91t (Nat.succ_le_of_lt hlt) hnp r24 hout
              | exact l91t hnt hnp r23 hout
              | exact l91t hnt (Nat.succ_le_of_lt hlt) r23 hout
              | exact l91t (Nat.succ_le_of_lt hlt) hnp r23 hout
              | exact l91t hnt hnp r22 hout
              | exact l91t hnt (Nat.succ_le_of_lt hlt) r22 hout
              | exact l91t (Nat.succ_le_of_lt hlt) hnp r22 hout
              | exact l91t hnt hnp r21 hout
              | exact l91t hnt (Nat.succ_le_of_lt hlt) r21 hout
              | exact l91t (Nat.succ_le_of_lt hlt) hnp r21 hout
              | exact l91t hnt hnp r20 hout
              | exact l91t hnt (Nat.succ_le_of_lt hlt) r20 hout
              | exact l91t (Nat.succ_le_of_lt hlt) hnp r20 hout
              | exact l91t hnt hnp r19 hout
              | exact l91t hnt (Nat.succ_le_of_lt hlt) r19 hout
              | exact l91t (Nat.succ_le_of_lt hlt) hnp r19 hout
              | exact l91t hnt hnp r18 hout
              | exact l91t hnt (Nat.succ_le_of_lt hlt) r18 hout
              | exact l91t (Nat.succ_le_of_lt hlt) hnp r18 hout
              | exact l91t hnt hnp r17 hout
              | exact l91t hnt (Nat.succ_le_of_lt hlt) r17 hout
              | exact l91t (Nat.succ_le_of_lt hlt) hnp r17 hout
              | exact l91t hnt hnp r16 hout
              | exact l91t hnt (Nat.succ_le_of_lt hlt) r16 hout
              | exact l91t (Nat.succ_le_of_lt hlt) hnp r16 hout
              | exact l91t hnt hnp r15 hout
              | exact l91t hnt (Nat.succ_le_of_lt hlt) r15 hout
              | exact l91t (Nat.succ_le_of_lt hlt) hnp r15 hout
              | exact l91t hnt hnp r14 hout
              | exact l91t hnt (Nat.succ_le_of_lt hlt) r14 hout
              | exact l91t (Nat.succ_le_of_lt hlt) hnp r14 hout
              | exact l91t hnt hnp r13 hout
              | exact l91t hnt (Nat.succ_le_of_lt hlt) r13 hout
              | exact l91t (Nat.succ_le_of_lt hlt) hnp r13 hout
              | exact l91t hnt hnp r12 hout
              | exact l91t hnt (Nat.succ_le_of_lt hlt) r12 hout
              | exact l91t (Nat.succ_le_of_lt hlt) hnp r12 hout
              | exact l91t hnt hnp r11 hout
              | exact l91t hnt (Nat.succ_le_of_lt hlt) r11 hout
              | exact l91t (Nat.succ_le_of_lt hlt) hnp r11 hout
              | exact l91t hnt hnp r10 hout
              | exact l91t hnt (Nat.succ_le_of_lt hlt) r10 hout
              | exact l91t (Nat.succ_le_of_lt hlt) hnp r10 hout
              | exact l91t hnt hnp r9 hout
              | exact l91t hnt (Nat.succ_le_of_lt hlt) r9 hout
              | exact l91t (Nat.succ_le_of_lt hlt) hnp r9 hout
              | exact l91t hnt hnp r8 hout
              | exact l91t hnt (Nat.succ_le_of_lt hlt) r8 hout
              | exact l91t (Nat.succ_le_of_lt hlt) hnp r8 hout
              | exact l91t hnt hnp r6 hout
              | exact l91t hnt (Nat.succ_le_of_lt hlt) r6 hout
              | exact l91t (Nat.succ_le_of_lt hlt) hnp r6 hout
              | exact l91t hnt hnp r4 hout
              | exact l91t hnt (Nat.succ_le_of_lt hlt) r4 hout
              | exact l91t (Nat.succ_le_of_lt hlt) hnp r4 hout
              | exact l91t hnt hnp r2 hout
              | exact l91t hnt (Nat.succ_le_of_lt hlt) r2 hout
              | exact l91t (Nat.succ_le_of_lt hlt) hnp r2 hout
              | exact l91t hnt hnp r1 hout
              | exact l91t hnt (Nat.succ_le_of_lt hlt) r1 hout
              | exact l91t (Nat.succ_le_of_lt hlt) hnp r1 hout
          · refine x_aload_n hm rfl rfl ?_
            refine x_getf hm rfl (gI rfl rfl) ?_
            rw [hC.2.2.1]
            refine x_bipush hm rfl (v := nI 8) (by decide) ?_
            refine x_icmp_ge hm rfl (t := 85) rfl (fun h8 => ?_) (fun h8 => ?_)
            · refine x_aload_n hm rfl rfl ?_
              refine x_cVv hm rfl rfl (w112 (by assumption)) (fun M9 r9 => ?_)
              first
                | exact l91t hnt hnp r9 hout
                | exact l91t hnt (Nat.succ_le_of_lt hlt) r9 hout
                | exact l91t (Nat.succ_le_of_lt hlt) hnp r9 hout
                | exact l91t hnt hnp r5 hout
                | exact l91t hnt (Nat.succ_le_of_lt hlt) r5 hout
                | exact l91t (Nat.succ_le_of_lt hlt) hnp r5 hout
                | exact l91t hnt hnp r3 hout
                | exact l91t hnt (Nat.succ_le_of_lt hlt) r3 hout
                | exact l91t (Nat.succ_le_of_lt hlt) hnp r3 hout
                | exact l91t hnt hnp r39 hout
                | exact l91t hnt (Nat.succ_le_of_lt hlt) r39 hout
                | exact l91t (Nat.succ_le_of_lt hlt) hnp r39 hout
                | exact l91t hnt hnp r38 hout
                | exact l91t hnt (Nat.succ_le_of_lt hlt) r38 hout
                | exact l91t (Nat.succ_le_of_lt hlt) hnp r38 hout
                | exact l91t hnt hnp r37 hout
                | exact l91t hnt (Nat.succ_le_of_lt hlt) r37 hout
                | exact l91t (Nat.succ_le_of_lt hlt) hnp r37 hout
                | exact l91t hnt hnp r36 hout
                | exact l91t hnt (Nat.succ_le_of_lt hlt) r36 hout
                | exact l91t (Nat.succ_le_of_lt hlt) hnp r36 hout
                | exact l91t hnt hnp r35 hout
                | exact l91t hnt (Nat.succ_le_of_lt hlt) r35 hout
                | exact l91t (Nat.succ_le_of_lt hlt) hnp r35 hout
                | exact l91t hnt hnp r34 hout
                | exact l91t hnt (Nat.succ_le_of_lt hlt) r34 hout
                | exact l91t (Nat.succ_le_of_lt hlt) hnp r34 hout
                | exact l91t hnt hnp r33 hout
                | exact l91t hnt (Nat.succ_le_of_lt hlt) r33 hout
                | exact l91t (Nat.succ_le_of_lt hlt) hnp r33 hout
                | exact l91t hnt hnp r32 hout
                | exact l91t hnt (Nat.succ_le_of_lt hlt) r32 hout
                | exact l91t (Nat.succ_le_of_lt hlt) hnp r32 hout
                | exact l91t hnt hnp r31 hout
                | exact l91t hnt (Nat.succ_le_of_lt hlt) r31 hout
                | exact l91t (Nat.succ_le_of_lt hlt) hnp r31 hout
                | exact l91t hnt hnp r30 hout
                | exact l91t hnt (Nat.succ_le_of_lt hlt) r30 hout
                | exact l91t (Nat.succ_le_of_lt hlt) hnp r30 hout
                | exact l91t hnt hnp r29 hout
                | exact l91t hnt (Nat.succ_le_of_lt hlt) r29 hout
                | exact l91t (Nat.succ_le_of_lt hlt) hnp r29 hout
                | exact l91t hnt hnp r28 hout
                | exact l91t hnt (Nat.succ_le_of_lt hlt) r28 hout
                | exact l91t (Nat.succ_le_of_lt hlt) hnp r28 hout
                | exact l91t hnt hnp r27 hout
                | exact l91t hnt (Nat.succ_le_of_lt hlt) r27 hout
                | exact l91t (Nat.succ_le_of_lt hlt) hnp r27 hout
                | exact l91t hnt hnp r26 hout
                | exact l91t hnt (Nat.succ_le_of_lt hlt) r26 hout
                | exact l91t (Nat.succ_le_of_lt hlt) hnp r26 hout
                | exact l91t hnt hnp r25 hout
                | exact l91t hnt (Nat.succ_le_of_lt hlt) r25 hout
                | exact l91t (Nat.succ_le_of_lt hlt) hnp r25 hout
                | exact l91t hnt hnp r24 hout
                | exact l91t hnt (Nat.succ_le_of_lt hlt) r24 hout
                | exact l91t (Nat.succ_le_of_lt hlt) hnp r24 hout
                | exact l91t hnt hnp r23 hout
                | exact l91t hnt (Nat.succ_le_of_lt hlt) r23 hout
                | exact l91t (Nat.succ_le_of_lt hlt) hnp r23 hout
                | exact l91t hnt hnp r22 hout
                | exact l91t hnt (Nat.succ_le_of_lt hlt) r22 hout
                | exact l91t (Nat.succ_le_of_lt hlt) hnp r22 hout
                | exact l91t hnt hnp r21 hout
                | exact l91t hnt (Nat.succ_le_of_lt hlt) r21 hout
                | exact l91t (Nat.succ_le_of_lt hlt) hnp r21 hout
                | exact l91t hnt hnp r20 hout
                | exact l91t hnt (Nat.succ_le_of_lt hlt) r20 hout
                | exact l91t (Nat.succ_le_of_lt hlt) hnp r20 hout
                | exact l91t hnt hnp r19 hout
                | exact l91t hnt (Nat.succ_le_of_lt hlt) r19 hout
                | exact l91t (Nat.succ_le_of_lt hlt) hnp r19 hout
                | exact l91t hnt hnp r18 hout
                | exact l91t hnt (Nat.succ_le_of_lt hlt) r18 hout
                | exact l91t (Nat.succ_le_of_lt hlt) hnp r18 hout
                | exact l91t hnt hnp r17 hout
                | exact l91t hnt (Nat.succ_le_of_lt hlt) r17 hout
                | exact l91t (Nat.succ_le_of_lt hlt) hnp r17 hout
                | exact l91t hnt hnp r16 hout
                | exact l91t hnt (Nat.succ_le_of_lt hlt) r16 hout
                | exact l91t (Nat.succ_le_of_lt hlt) hnp r16 hout
                | exact l91t hnt hnp r15 hout
                | exact l91t hnt (Nat.succ_le_of_lt hlt) r15 hout
                | exact l91t (Nat.succ_le_of_lt hlt) hnp r15 hout
                | exact l91t hnt hnp r14 hout
                | exact l91t hnt (Nat.succ_le_of_lt hlt) r14 hout
                | exact l91t (Nat.succ_le_of_lt hlt) hnp r14 hout
                | exact l91t hnt hnp r13 hout
                | exact l91t hnt (Nat.succ_le_of_lt hlt) r13 hout
                | exact l91t (Nat.succ_le_of_lt hlt) hnp r13 hout
                | exact l91t hnt hnp r12 hout
                | exact l91t hnt (Nat.succ_le_of_lt hlt) r12 hout
                | exact l91t (Nat.succ_le_of_lt hlt) hnp r12 hout
                | exact l91t hnt hnp r11 hout
                | exact l91t hnt (Nat.succ_le_of_lt hlt) r11 hout
                | exact l91t (Nat.succ_le_of_lt hlt) hnp r11 hout
                | exact l91t hnt hnp r10 hout
                | exact l91t hnt (Nat.succ_le_of_lt hlt) r10 hout
                | exact l91t (Nat.succ_le_of_lt hlt) hnp r10 hout
                | exact l91t hnt hnp r8 hout
                | exact l91t hnt (Nat.succ_le_of_lt hlt) r8 hout
                | exact l91t (Nat.succ_le_of_lt hlt) hnp r8 hout
                | exact l91t hnt hnp r7 hout
                | exact l91t hnt (Nat.succ_le_of_lt hlt) r7 hout
                | exact l91t (Nat.succ_le_of_lt hlt) hnp r7 hout
                | exact l91t hnt hnp r6 hout
                | exact l91t hnt (Nat.succ_le_of_lt hlt) r6 hout
                | exact l91t (Nat.succ_le_of_lt hlt) hnp r6 hout
                | exact l91t hnt hnp r4 hout
                | exact l91t hnt (Nat.succ_le_of_lt hlt) r4 hout
                | exact l91t (Nat.succ_le_of_lt hlt) hnp r4 hout
                | exact l91t hnt hnp r2 hout
                | exact l91t hnt (Nat.succ_le_of_lt hlt) r2 hout
                | exact l91t (Nat.succ_le_of_lt hlt) hnp r2 hout
                | exact l91t hnt hnp r1 hout
                | exact l91t hnt (Nat.succ_le_of_lt hlt) r1 hout
                | exact l91t (Nat.succ_le_of_lt hlt) hnp r1 hout
            · have hlt : nt < 8 := Nat.lt_of_not_le fun q => h8 (nI_le q (by omega))
              refine x_aload_n hm rfl rfl ?_
              refine x_aload_n hm rfl rfl ?_
              refine x_cVv hm rfl rfl (t113 hC hlt (by omega)) (fun M10 r10 => ?_)
              refine x_goto hm rfl (t := 89) rfl ?_
              first
                | exact l91t hnt hnp r10 hout
                | exact l91t hnt (Nat.succ_le_of_lt hlt) r10 hout
                | exact l91t (Nat.succ_le_of_lt hlt) hnp r10 hout
                | exact l91t hnt hnp r5 hout
                | exact l91t hnt (Nat.succ_le_of_lt hlt) r5 hout
                | exact l91t (Nat.succ_le_of_lt hlt) hnp r5 hout
                | exact l91t hnt hnp r3 hout
                | exact l91t hnt (Nat.succ_le_of_lt hlt) r3 hout
                | exact l91t (Nat.succ_le_of_lt hlt) hnp r3 hout
                | exact l91t hnt hnp r39 hout
                | exact l91t hnt (Nat.succ_le_of_lt hlt) r39 hout
                | exact l91t (Nat.succ_le_of_lt hlt) hnp r39 hout
                | exact l91t hnt hnp r38 hout
                | exact l91t hnt (Nat.succ_le_of_lt hlt) r38 hout
                | exact l91t (Nat.succ_le_of_lt hlt) hnp r38 hout
                | exact l91t hnt hnp r37 hout
                | exact l91t hnt (Nat.succ_le_of_lt hlt) r37 hout
                | exact l91t (Nat.succ_le_of_lt hlt) hnp r37 hout
                | exact l91t hnt hnp r36 hout
                | exact l91t hnt (Nat.succ_le_of_lt hlt) r36 hout
                | exact l91t (Nat.succ_le_of_lt hlt) hnp r36 hout
                | exact l91t hnt hnp r35 hout
                | exact l91t hnt (Nat.succ_le_of_lt hlt) r35 hout
                | exact l91t (Nat.succ_le_of_lt hlt) hnp r35 hout
                | exact l91t hnt hnp r34 hout
                | exact l91t hnt (Nat.succ_le_of_lt hlt) r34 hout
                | exact l91t (Nat.succ_le_of_lt hlt) hnp r34 hout
                | exact l91t hnt hnp r33 hout
                | exact l91t hnt (Nat.succ_le_of_lt hlt) r33 hout
                | exact l91t (Nat.succ_le_of_lt hlt) hnp r33 hout
                | exact l91t hnt hnp r32 hout
                | exact l91t hnt (Nat.succ_le_of_lt hlt) r32 hout
                | exact l91t (Nat.succ_le_of_lt hlt) hnp r32 hout
                | exact l91t hnt hnp r31 hout
                | exact l91t hnt (Nat.succ_le_of_lt hlt) r31 hout
                | exact l91t (Nat.succ_le_of_lt hlt) hnp r31 hout
                | exact l91t hnt hnp r30 hout
                | exact l91t hnt (Nat.succ_le_of_lt hlt) r30 hout
                | exact l91t (Nat.succ_le_of_lt hlt) hnp r30 hout
                | exact l91t hnt hnp r29 hout
                | exact l91t hnt (Nat.succ_le_of_lt hlt) r29 hout
                | exact l91t (Nat.succ_le_of_lt hlt) hnp r29 hout
                | exact l91t hnt hnp r28 hout
                | exact l91t hnt (Nat.succ_le_of_lt hlt) r28 hout
                | exact l91t (Nat.succ_le_of_lt hlt) hnp r28 hout
                | exact l91t hnt hnp r27 hout
                | exact l91t hnt (Nat.succ_le_of_lt hlt) r27 hout
                | exact l91t (Nat.succ_le_of_lt hlt) hnp r27 hout
                | exact l91t hnt hnp r26 hout
                | exact l91t hnt (Nat.succ_le_of_lt hlt) r26 hout
                | exact l91t (Nat.succ_le_of_lt hlt) hnp r26 hout
                | exact l91t hnt hnp r25 hout
                | exact l91t hnt (Nat.succ_le_of_lt hlt) r25 hout
                | exact l91t (Nat.succ_le_of_lt hlt) hnp r25 hout
                | exact l91t hnt hnp r24 hout
                | exact l91t hnt (Nat.succ_le_of_lt hlt) r24 hout
                | exact l91t (Nat.succ_le_of_lt hlt) hnp r24 hout
                | exact l91t hnt hnp r23 hout
                | exact l91t hnt (Nat.succ_le_of_lt hlt) r23 hout
                | exact l91t (Nat.succ_le_of_lt hlt) hnp r23 hout
                | exact l91t hnt hnp r22 hout
                | exact l91t hnt (Nat.succ_le_of_lt hlt) r22 hout
                | exact l91t (Nat.succ_le_of_lt hlt) hnp r22 hout
                | exact l91t hnt hnp r21 hout
                | exact l91t hnt (Nat.succ_le_of_lt hlt) r21 hout
                | exact l91t (Nat.succ_le_of_lt hlt) hnp r21 hout
                | exact l91t hnt hnp r20 hout
                | exact l91t hnt (Nat.succ_le_of_lt hlt) r20 hout
                | exact l91t (Nat.succ_le_of_lt hlt) hnp r20 hout
                | exact l91t hnt hnp r19 hout
                | exact l91t hnt (Nat.succ_le_of_lt hlt) r19 hout
                | exact l91t (Nat.succ_le_of_lt hlt) hnp r19 hout
                | exact l91t hnt hnp r18 hout
                | exact l91t hnt (Nat.succ_le_of_lt hlt) r18 hout
                | exact l91t (Nat.succ_le_of_lt hlt) hnp r18 hout
                | exact l91t hnt hnp r17 hout
                | exact l91t hnt (Nat.succ_le_of_lt hlt) r17 hout
                | exact l91t (Nat.succ_le_of_lt hlt) hnp r17 hout
                | exact l91t hnt hnp r16 hout
                | exact l91t hnt (Nat.succ_le_of_lt hlt) r16 hout
                | exact l91t (Nat.succ_le_of_lt hlt) hnp r16 hout
                | exact l91t hnt hnp r15 hout
                | exact l91t hnt (Nat.succ_le_of_lt hlt) r15 hout
                | exact l91t (Nat.succ_le_of_lt hlt) hnp r15 hout
                | exact l91t hnt hnp r14 hout
                | exact l91t hnt (Nat.succ_le_of_lt hlt) r14 hout
                | exact l91t (Nat.succ_le_of_lt hlt) hnp r14 hout
                | exact l91t hnt hnp r13 hout
                | exact l91t hnt (Nat.succ_le_of_lt hlt) r13 hout
                | exact l91t (Nat.succ_le_of_lt hlt) hnp r13 hout
                | exact l91t hnt hnp r12 hout
                | exact l91t hnt (Nat.succ_le_of_lt hlt) r12 hout
                | exact l91t (Nat.succ_le_of_lt hlt) hnp r12 hout
                | exact l91t hnt hnp r11 hout
                | exact l91t hnt (Nat.succ_le_of_lt hlt) r11 hout
                | exact l91t (Nat.succ_le_of_lt hlt) hnp r11 hout
                | exact l91t hnt hnp r9 hout
                | exact l91t hnt (Nat.succ_le_of_lt hlt) r9 hout
                | exact l91t (Nat.succ_le_of_lt hlt) hnp r9 hout
                | exact l91t hnt hnp r8 hout
                | exact l91t hnt (Nat.succ_le_of_lt hlt) r8 hout
                | exact l91t (Nat.succ_le_of_lt hlt) hnp r8 hout
                | exact l91t hnt hnp r7 hout
                | exact l91t hnt (Nat.succ_le_of_lt hlt) r7 hout
                | exact l91t (Nat.succ_le_of_lt hlt) hnp r7 hout
                | exact l91t hnt hnp r6 hout
                | exact l91t hnt (Nat.succ_le_of_lt hlt) r6 hout
                | exact l91t (Nat.succ_le_of_lt hlt) hnp r6 hout
                | exact l91t hnt hnp r4 hout
                | exact l91t hnt (Nat.succ_le_of_lt hlt) r4 hout
                | exact l91t (Nat.succ_le_of_lt hlt) hnp r4 hout
                | exact l91t hnt hnp r2 hout
                | exact l91t hnt (Nat.succ_le_of_lt hlt) r2 hout
                | exact l91t (Nat.succ_le_of_lt hlt) hnp r2 hout
                | exact l91t hnt hnp r1 hout
                | exact l91t hnt (Nat.succ_le_of_lt hlt) r1 hout
                | exact l91t (Nat.succ_le_of_lt hlt) hnp r1 hout
        · refine x_aload_n hm rfl rfl ?_
          refine x_getf hm rfl (gI rfl rfl) ?_
          rw [hC.2.2.2]
          refine x_bipush hm rfl (v := nI 8) (by decide) ?_
          refine x_icmp_ge hm rfl (t := 59) rfl (fun h11 => ?_) (fun h11 => ?_)
          · refine x_aload_n hm rfl rfl ?_
            refine x_ldcS hm rfl ?_
            refine x_cVe hm rfl rfl (w97 (by decide) (by assumption)) (fun v12 r12 => ?_)
            refine x_if_eq hm rfl (t := 85) rfl (fun h13 => ?_) (fun h13 => ?_)
            · refine x_aload_n hm rfl rfl ?_
              refine x_cVv hm rfl rfl (w112 (by assumption)) (fun M14 r14 => ?_)
              first
                | exact l91t hnt hnp r14 hout
                | exact l91t hnt (Nat.succ_le_of_lt hlt) r14 hout
                | exact l91t (Nat.succ_le_of_lt hlt) hnp r14 hout
                | exact l91t hnt hnp r12 hout
                | exact l91t hnt (Nat.succ_le_of_lt hlt) r12 hout
                | exact l91t (Nat.succ_le_of_lt hlt) hnp r12 hout
                | exact l91t hnt hnp r3 hout
                | exact l91t hnt (Nat.succ_le_of_lt hlt) r3 hout
                | exact l91t (Nat.succ_le_of_lt hlt) hnp r3 hout
                | exact l91t hnt hnp r39 hout
                | exact l91t hnt (Nat.succ_le_of_lt hlt) r39 hout
                | exact l91t (Nat.succ_le_of_lt hlt) hnp r39 hout
                | exact l91t hnt hnp r38 hout
                | exact l91t hnt (Nat.succ_le_of_lt hlt) r38 hout
                | exact l91t (Nat.succ_le_of_lt hlt) hnp r38 hout
                | exact l91t hnt hnp r37 hout
                | exact l91t hnt (Nat.succ_le_of_lt hlt) r37 hout
                | exact l91t (Nat.succ_le_of_lt hlt) hnp r37 hout
                | exact l91t hnt hnp r36 hout
                | exact l91t hnt (Nat.succ_le_of_lt hlt) r36 hout
                | exact l91t (Nat.succ_le_of_lt hlt) hnp r36 hout
                | exact l91t hnt hnp r35 hout
                | exact l91t hnt (Nat.succ_le_of_lt hlt) r35 hout
                | exact l91t (Nat.succ_le_of_lt hlt) hnp r35 hout
                | exact l91t hnt hnp r34 hout
                | exact l91t hnt (Nat.succ_le_of_lt hlt) r34 hout
                | exact l91t (Nat.succ_le_of_lt hlt) hnp r34 hout
                | exact l91t hnt hnp r33 hout
                | exact l91t hnt (Nat.succ_le_of_lt hlt) r33 hout
                | exact l91t (Nat.succ_le_of_lt hlt) hnp r33 hout
                | exact l91t hnt hnp r32 hout
                | exact l91t hnt (Nat.succ_le_of_lt hlt) r32 hout
                | exact l91t (Nat.succ_le_of_lt hlt) hnp r32 hout
                | exact l91t hnt hnp r31 hout
                | exact l91t hnt (Nat.succ_le_of_lt hlt) r31 hout
                | exact l91t (Nat.succ_le_of_lt hlt) hnp r31 hout
                | exact l91t hnt hnp r30 hout
                | exact l91t hnt (Nat.succ_le_of_lt hlt) r30 hout
                | exact l91t (Nat.succ_le_of_lt hlt) hnp r30 hout
                | exact l91t hnt hnp r29 hout
                | exact l91t hnt (Nat.succ_le_of_lt hlt) r29 hout
                | exact l91t (Nat.succ_le_of_lt hlt) hnp r29 hout
                | exact l91t hnt hnp r28 hout
                | exact l91t hnt (Nat.succ_le_of_lt hlt) r28 hout
                | exact l91t (Nat.succ_le_of_lt hlt) hnp r28 hout
                | exact l91t hnt hnp r27 hout
                | exact l91t hnt (Nat.succ_le_of_lt hlt) r27 hout
                | exact l91t (Nat.succ_le_of_lt hlt) hnp r27 hout
                | exact l91t hnt hnp r26 hout
                | exact l91t hnt (Nat.succ_le_of_lt hlt) r26 hout
                | exact l91t (Nat.succ_le_of_lt hlt) hnp r26 hout
                | exact l91t hnt hnp r25 hout
                | exact l91t hnt (Nat.succ_le_of_lt hlt) r25 hout
                | exact l91t (Nat.succ_le_of_lt hlt) hnp r25 hout
                | exact l91t hnt hnp r24 hout
                | exact l91t hnt (Nat.succ_le_of_lt hlt) r24 hout
                | exact l91t (Nat.succ_le_of_lt hlt) hnp r24 hout
                | exact l91t hnt hnp r23 hout
                | exact l91t hnt (Nat.succ_le_of_lt hlt) r23 hout
                | exact l91t (Nat.succ_le_of_lt hlt) hnp r23 hout
                | exact l91t hnt hnp r22 hout
                | exact l91t hnt (Nat.succ_le_of_lt hlt) r22 hout
                | exact l91t (Nat.succ_le_of_lt hlt) hnp r22 hout
                | exact l91t hnt hnp r21 hout
                | exact l91t hnt (Nat.succ_le_of_lt hlt) r21 hout
                | exact l91t (Nat.succ_le_of_lt hlt) hnp r21 hout
                | exact l91t hnt hnp r20 hout
                | exact l91t hnt (Nat.succ_le_of_lt hlt) r20 hout
                | exact l91t (Nat.succ_le_of_lt hlt) hnp r20 hout
                | exact l91t hnt hnp r19 hout
                | exact l91t hnt (Nat.succ_le_of_lt hlt) r19 hout
                | exact l91t (Nat.succ_le_of_lt hlt) hnp r19 hout
                | exact l91t hnt hnp r18 hout
                | exact l91t hnt (Nat.succ_le_of_lt hlt) r18 hout
                | exact l91t (Nat.succ_le_of_lt hlt) hnp r18 hout
                | exact l91t hnt hnp r17 hout
                | exact l91t hnt (Nat.succ_le_of_lt hlt) r17 hout
                | exact l91t (Nat.succ_le_of_lt hlt) hnp r17 hout
                | exact l91t hnt hnp r16 hout
                | exact l91t hnt (Nat.succ_le_of_lt hlt) r16 hout
                | exact l91t (Nat.succ_le_of_lt hlt) hnp r16 hout
                | exact l91t hnt hnp r15 hout
                | exact l91t hnt (Nat.succ_le_of_lt hlt) r15 hout
                | exact l91t (Nat.succ_le_of_lt hlt) hnp r15 hout
                | exact l91t hnt hnp r13 hout
                | exact l91t hnt (Nat.succ_le_of_lt hlt) r13 hout
                | exact l91t (Nat.succ_le_of_lt hlt) hnp r13 hout
                | exact l91t hnt hnp r11 hout
                | exact l91t hnt (Nat.succ_le_of_lt hlt) r11 hout
                | exact l91t (Nat.succ_le_of_lt hlt) hnp r11 hout
                | exact l91t hnt hnp r10 hout
                | exact l91t hnt (Nat.succ_le_of_lt hlt) r10 hout
                | exact l91t (Nat.succ_le_of_lt hlt) hnp r10 hout
                | exact l91t hnt hnp r9 hout
                | exact l91t hnt (Nat.succ_le_of_lt hlt) r9 hout
                | exact l91t (Nat.succ_le_of_lt hlt) hnp r9 hout
                | exact l91t hnt hnp r8 hout
                | exact l91t hnt (Nat.succ_le_of_lt hlt) r8 hout
                | exact l91t (Nat.succ_le_of_lt hlt) hnp r8 hout
                | exact l91t hnt hnp r7 hout
                | exact l91t hnt (Nat.succ_le_of_lt hlt) r7 hout
                | exact l91t (Nat.succ_le_of_lt hlt) hnp r7 hout
                | exact l91t hnt hnp r6 hout
                | exact l91t hnt (Nat.succ_le_of_lt hlt) r6 hout
                | exact l91t (Nat.succ_le_of_lt hlt) hnp r6 hout
                | exact l91t hnt hnp r5 hout
                | exact l91t hnt (Nat.succ_le_of_lt hlt) r5 hout
                | exact l91t (Nat.succ_le_of_lt hlt) hnp r5 hout
                | exact l91t hnt hnp r4 hout
                | exact l91t hnt (Nat.succ_le_of_lt hlt) r4 hout
                | exact l91t (Nat.succ_le_of_lt hlt) hnp r4 hout
                | exact l91t hnt hnp r2 hout
                | exact l91t hnt (Nat.succ_le_of_lt hlt) r2 hout
                | exact l91t (Nat.succ_le_of_lt hlt) hnp r2 hout
                | exact l91t hnt hnp r1 hout
                | exact l91t hnt (Nat.succ_le_of_lt hlt) r1 hout
                | exact l91t (Nat.succ_le_of_lt hlt) hnp r1 hout
            · refine x_aload_n hm rfl rfl ?_
              refine x_getf hm rfl (gI rfl rfl) ?_
              rw [hC.2.2.1]
              refine x_bipush hm rfl (v := nI 8) (by decide) ?_
              refine x_icmp_ge hm rfl (t := 85) rfl (fun h15 => ?_) (fun h15 => ?_)
              · refine x_aload_n hm rfl rfl ?_
                refine x_cVv hm rfl rfl (w112 (by assumption)) (fun M16 r16 => ?_)
                first
                  | exact l91t hnt hnp r16 hout
                  | exact l91t hnt (Nat.succ_le_of_lt hlt) r16 hout
                  | exact l91t (Nat.succ_le_of_lt hlt) hnp r16 hout
                  | exact l91t hnt hnp r12 hout
                  | exact l91t hnt (Nat.succ_le_of_lt hlt) r12 hout
                  | exact l91t (Nat.succ_le_of_lt hlt) hnp r12 hout
                  | exact l91t hnt hnp r3 hout
                  | exact l91t hnt (Nat.succ_le_of_lt hlt) r3 hout
                  | exact l91t (Nat.succ_le_of_lt hlt) hnp r3 hout
                  | exact l91t hnt hnp r39 hout
                  | exact l91t hnt (Nat.succ_le_of_lt hlt) r39 hout
                  | exact l91t (Nat.succ_le_of_lt hlt) hnp r39 hout
                  | exact l91t hnt hnp r38 hout
                  | exact l91t hnt (Nat.succ_le_of_lt hlt) r38 hout
                  | exact l91t (Nat.succ_le_of_lt hlt) hnp r38 hout
                  | exact l91t hnt hnp r37 hout
                  | exact l91t hnt (Nat.succ_le_of_lt hlt) r37 hout
                  | exact l91t (Nat.succ_le_of_lt hlt) hnp r37 hout
                  | exact l91t hnt hnp r36 hout
                  | exact l91t hnt (Nat.succ_le_of_lt hlt) r36 hout
                  | exact l91t (Nat.succ_le_of_lt hlt) hnp r36 hout
                  | exact l91t hnt hnp r35 hout
                  | exact l91t hnt (Nat.succ_le_of_lt hlt) r35 hout
                  | exact l91t (Nat.succ_le_of_lt hlt) hnp r35 hout
                  | exact l91t hnt hnp r34 hout
                  | exact l91t hnt (Nat.succ_le_of_lt hlt) r34 hout
                  | exact l91t (Nat.succ_le_of_lt hlt) hnp r34 hout
                  | exact l91t hnt hnp r33 hout
                  | exact l91t hnt (Nat.succ_le_of_lt hlt) r33 hout
                  | exact l91t (Nat.succ_le_of_lt hlt) hnp r33 hout
                  | exact l91t hnt hnp r32 hout
                  | exact l91t hnt (Nat.succ_le_of_lt hlt) r32 hout
                  | exact l91t (Nat.succ_le_of_lt hlt) hnp r32 hout
                  | exact l91t hnt hnp r31 hout
                  | exact l91t hnt (Nat.succ_le_of_lt hlt) r31 hout
                  | exact l91t (Nat.succ_le_of_lt hlt) hnp r31 hout
                  | exact l91t hnt hnp r30 hout
                  | exact l91t hnt (Nat.succ_le_of_lt hlt) r30 hout
                  | exact l91t (Nat.succ_le_of_lt hlt) hnp r30 hout
                  | exact l91t hnt hnp r29 hout
                  | exact l91t hnt (Nat.succ_le_of_lt hlt) r29 hout
                  | exact l91t (Nat.succ_le_of_lt hlt) hnp r29 hout
                  | exact l91t hnt hnp r28 hout
                  | exact l91t hnt (Nat.succ_le_of_lt hlt) r28 hout
                  | exact l91t (Nat.succ_le_of_lt hlt) hnp r28 hout
                  | exact l91t hnt hnp r27 hout
                  | exact l91t hnt (Nat.succ_le_of_lt hlt) r27 hout
                  | exact l91t (Nat.succ_le_of_lt hlt) hnp r27 hout
                  | exact l91t hnt hnp r26 hout
                  | exact l91t hnt (Nat.succ_le_of_lt hlt) r26 hout
                  | exact l91t (Nat.succ_le_of_lt hlt) hnp r26 hout
                  | exact l91t hnt hnp r25 hout
                  | exact l91t hnt (Nat.succ_le_of_lt hlt) r25 hout
                  | exact l91t (Nat.succ_le_of_lt hlt) hnp r25 hout
                  | exact l91t hnt hnp r24 hout
                  | exact l91t hnt (Nat.succ_le_of_lt hlt) r24 hout
                  | exact l91t (Nat.succ_le_of_lt hlt) hnp r24 hout
                  | exact l91t hnt hnp r23 hout
                  | exact l91t hnt (Nat.succ_le_of_lt hlt) r23 hout
                  | exact l91t (Nat.succ_le_of_lt hlt) hnp r23 hout
                  | exact l91t hnt hnp r22 hout
                  | exact l91t hnt (Nat.succ_le_of_lt hlt) r22 hout
                  | exact l91t (Nat.succ_le_of_lt hlt) hnp r22 hout
                  | exact l91t hnt hnp r21 hout
                  | exact l91t hnt (Nat.succ_le_of_lt hlt) r21 hout
                  | exact l91t (Nat.succ_le_of_lt hlt) hnp r21 hout
                  | exact l91t hnt hnp r20 hout
                  | exact l91t hnt (Nat.succ_le_of_lt hlt) r20 hout
                  | exact l91t (Nat.succ_le_of_lt hlt) hnp r20 hout
                  | exact l91t hnt hnp r19 hout
                  | exact l91t hnt (Nat.succ_le_of_lt hlt) r19 hout
                  | exact l91t (Nat.succ_le_of_lt hlt) hnp r19 hout
                  | exact l91t hnt hnp r18 hout
                  | exact l91t hnt (Nat.succ_le_of_lt hlt) r18 hout
                  | exact l91t (Nat.succ_le_of_lt hlt) hnp r18 hout
                  | exact l91t hnt hnp r17 hout
                  | exact l91t hnt (Nat.succ_le_of_lt hlt) r17 hout
                  | exact l91t (Nat.succ_le_of_lt hlt) hnp r17 hout
                  | exact l91t hnt hnp r15 hout
                  | exact l91t hnt (Nat.succ_le_of_lt hlt) r15 hout
                  | exact l91t (Nat.succ_le_of_lt hlt) hnp r15 hout
                  | exact l91t hnt hnp r14 hout
                  | exact l91t hnt (Nat.succ_le_of_lt hlt) r14 hout
                  | exact l91t (Nat.succ_le_of_lt hlt) hnp r14 hout
                  | exact l91t hnt hnp r13 hout
                  | exact l91t hnt (Nat.succ_le_of_lt hlt) r13 hout
                  | exact l91t (Nat.succ_le_of_lt hlt) hnp r13 hout
                  | exact l91t hnt hnp r11 hout
                  | exact l91t hnt (Nat.succ_le_of_lt hlt) r11 hout
                  | exact l91t (Nat.succ_le_of_lt hlt) hnp r11 hout
                  | exact l91t hnt hnp r10 hout
                  | exact l91t hnt (Nat.succ_le_of_lt hlt) r10 hout
                  | exact l91t (Nat.succ_le_of_lt hlt) hnp r10 hout
                  | exact l91t hnt hnp r9 hout
                  | exact l91t hnt (Nat.succ_le_of_lt hlt) r9 hout
                  | exact l91t (Nat.succ_le_of_lt hlt) hnp r9 hout
                  | exact l91t hnt hnp r8 hout
                  | exact l91t hnt (Nat.succ_le_of_lt hlt) r8 hout
                  | exact l91t (Nat.succ_le_of_lt hlt) hnp r8 hout
                  | exact l91t hnt hnp r7 hout
                  | exact l91t hnt (Nat.succ_le_of_lt hlt) r7 hout
                  | exact l91t (Nat.succ_le_of_lt hlt) hnp r7 hout
                  | exact l91t hnt hnp r6 hout
                  | exact l91t hnt (Nat.succ_le_of_lt hlt) r6 hout
                  | exact l91t (Nat.succ_le_of_lt hlt) hnp r6 hout
                  | exact l91t hnt hnp r5 hout
                  | exact l91t hnt (Nat.succ_le_of_lt hlt) r5 hout
                  | exact l91t (Nat.succ_le_of_lt hlt) hnp r5 hout
                  | exact l91t hnt hnp r4 hout
                  | exact l91t hnt (Nat.succ_le_of_lt hlt) r4 hout
                  | exact l91t (Nat.succ_le_of_lt hlt) hnp r4 hout
                  | exact l91t hnt hnp r2 hout
                  | exact l91t hnt (Nat.succ_le_of_lt hlt) r2 hout
                  | exact l91t (Nat.succ_le_of_lt hlt) hnp r2 hout
                  | exact l91t hnt hnp r1 hout
                  | exact l91t hnt (Nat.succ_le_of_lt hlt) r1 hout
                  | exact l91t (Nat.succ_le_of_lt hlt) hnp r1 hout
              · have hlt : nt < 8 := Nat.lt_of_not_le fun q => h15 (nI_le q (by omega))
                refine x_aload_n hm rfl rfl ?_
                refine x_aload_n hm rfl rfl ?_
                refine x_cVv hm rfl rfl (t113 hC hlt (by omega)) (fun M17 r17 => ?_)
                refine x_goto hm rfl (t := 89) rfl ?_
                first
                  | exact l91t hnt hnp r17 hout
                  | exact l91t hnt (Nat.succ_le_of_lt hlt) r17 hout
                  | exact l91t (Nat.succ_le_of_lt hlt) hnp r17 hout
                  | exact l91t hnt hnp r12 hout
                  | exact l91t hnt (Nat.succ_le_of_lt hlt) r12 hout
                  | exact l91t (Nat.succ_le_of_lt hlt) hnp r12 hout
                  | exact l91t hnt hnp r3 hout
                  | exact l91t hnt (Nat.succ_le_of_lt hlt) r3 hout
                  | exact l91t (Nat.succ_le_of_lt hlt) hnp r3 hout
                  | exact l91t hnt hnp r39 hout
                  | exact l91t hnt (Nat.succ_le_of_lt hlt) r39 hout
                  | exact l91t (Nat.succ_le_of_lt hlt) hnp r39 hout
                  | exact l91t hnt hnp r38 hout
                  | exact l91t hnt (Nat.succ_le_of_lt hlt) r38 hout
                  | exact l91t (Nat.succ_le_of_lt hlt) hnp r38 hout
                  | exact l91t hnt hnp r37 hout
                  | exact l91t hnt (Nat.succ_le_of_lt hlt) r37 hout
                  | exact l91t (Nat.succ_le_of_lt hlt) hnp r37 hout
                  | exact l91t hnt hnp r36 hout
                  | exact l91t hnt (Nat.succ_le_of_lt hlt) r36 hout
                  | exact l91t (Nat.succ_le_of_lt hlt) hnp r36 hout
                  | exact l91t hnt hnp r35 hout
                  | exact l91t hnt (Nat.succ_le_of_lt hlt) r35 hout
                  | exact l91t (Nat.succ_le_of_lt hlt) hnp r35 hout
                  | exact l91t hnt hnp r34 hout
                  | exact l91t hnt (Nat.succ_le_of_lt hlt) r34 hout
                  | exact l91t (Nat.succ_le_of_lt hlt) hnp r34 hout
                  | exact l91t hnt hnp r33 hout
                  | exact l91t hnt (Nat.succ_le_of_lt hlt) r33 hout
                  | exact l91t (Nat.succ_le_of_lt hlt) hnp r33 hout
                  | exact l91t hnt hnp r32 hout
                  | exact l91t hnt (Nat.succ_le_of_lt hlt) r32 hout
                  | exact l91t (Nat.succ_le_of_lt hlt) hnp r32 hout
                  | exact l91t hnt hnp r31 hout
                  | exact l91t hnt (Nat.succ_le_of_lt hlt) r31 hout
                  | exact l91t (Nat.succ_le_of_lt hlt) hnp r31 hout
                  | exact l91t hnt hnp r30 hout
                  | exact l91t hnt (Nat.succ_le_of_lt hlt) r30 hout
                  | exact l91t (Nat.succ_le_of_lt hlt) hnp r30 hout
                  | exact l91t hnt hnp r29 hout
                  | exact l91t hnt (Nat.succ_le_of_lt hlt) r29 hout
                  | exact l91t (Nat.succ_le_of_lt hlt) hnp r29 hout
                  | exact l91t hnt hnp r28 hout
                  | exact l91t hnt (Nat.succ_le_of_lt hlt) r28 hout
                  | exact l91t (Nat.succ_le_of_lt hlt) hnp r28 hout
                  | exact l91t hnt hnp r27 hout
                  | exact l91t hnt (Nat.succ_le_of_lt hlt) r27 hout
                  | exact l91t (Nat.succ_le_of_lt hlt) hnp r27 hout
                  | exact l91t hnt hnp r26 hout
                  | exact l91t hnt (Nat.succ_le_of_lt hlt) r26 hout
                  | exact l91t (Nat.succ_le_of_lt hlt) hnp r26 hout
                  | exact l91t hnt hnp r25 hout
                  | exact l91t hnt (Nat.succ_le_of_lt hlt) r25 hout
                  | exact l91t (Nat.succ_le_of_lt hlt) hnp r25 hout
                  | exact l91t hnt hnp r24 hout
                  | exact l91t hnt (Nat.succ_le_of_lt hlt) r24 hout
                  | exact l91t (Nat.succ_le_of_lt hlt) hnp r24 hout
                  | exact l91t hnt hnp r23 hout
                  | exact l91t hnt (Nat.succ_le_of_lt hlt) r23 hout
                  | exact l91t (Nat.succ_le_of_lt hlt) hnp r23 hout
                  | exact l91t hnt hnp r22 hout
                  | exact l91t hnt (Nat.succ_le_of_lt hlt) r22 hout
                  | exact l91t (Nat.succ_le_of_lt hlt) hnp r22 hout
                  | exact l91t hnt hnp r21 hout
                  | exact l91t hnt (Nat.succ_le_of_lt hlt) r21 hout
                  | exact l91t (Nat.succ_le_of_lt hlt) hnp r21 hout
                  | exact l91t hnt hnp r20 hout
                  | exact l91t hnt (Nat.succ_le_of_lt hlt) r20 hout
                  | exact l91t (Nat.succ_le_of_lt hlt) hnp r20 hout
                  | exact l91t hnt hnp r19 hout
                  | exact l91t hnt (Nat.succ_le_of_lt hlt) r19 hout
                  | exact l91t (Nat.succ_le_of_lt hlt) hnp r19 hout
                  | exact l91t hnt hnp r18 hout
                  | exact l91t hnt (Nat.succ_le_of_lt hlt) r18 hout
                  | exact l91t (Nat.succ_le_of_lt hlt) hnp r18 hout
                  | exact l91t hnt hnp r16 hout
                  | exact l91t hnt (Nat.succ_le_of_lt hlt) r16 hout
                  | exact l91t (Nat.succ_le_of_lt hlt) hnp r16 hout
                  | exact l91t hnt hnp r15 hout
                  | exact l91t hnt (Nat.succ_le_of_lt hlt) r15 hout
                  | exact l91t (Nat.succ_le_of_lt hlt) hnp r15 hout
                  | exact l91t hnt hnp r14 hout
                  | exact l91t hnt (Nat.succ_le_of_lt hlt) r14 hout
                  | exact l91t (Nat.succ_le_of_lt hlt) hnp r14 hout
                  | exact l91t hnt hnp r13 hout
                  | exact l91t hnt (Nat.succ_le_of_lt hlt) r13 hout
                  | exact l91t (Nat.succ_le_of_lt hlt) hnp r13 hout
                  | exact l91t hnt hnp r11 hout
                  | exact l91t hnt (Nat.succ_le_of_lt hlt) r11 hout
                  | exact l91t (Nat.succ_le_of_lt hlt) hnp r11 hout
                  | exact l91t hnt hnp r10 hout
                  | exact l91t hnt (Nat.succ_le_of_lt hlt) r10 hout
                  | exact l91t (Nat.succ_le_of_lt hlt) hnp r10 hout
                  | exact l91t hnt hnp r9 hout
                  | exact l91t hnt (Nat.succ_le_of_lt hlt) r9 hout
                  | exact l91t (Nat.succ_le_of_lt hlt) hnp r9 hout
                  | exact l91t hnt hnp r8 hout
                  | exact l91t hnt (Nat.succ_le_of_lt hlt) r8 hout
                  | exact l91t (Nat.succ_le_of_lt hlt) hnp r8 hout
                  | exact l91t hnt hnp r7 hout
                  | exact l91t hnt (Nat.succ_le_of_lt hlt) r7 hout
                  | exact l91t (Nat.succ_le_of_lt hlt) hnp r7 hout
                  | exact l91t hnt hnp r6 hout
                  | exact l91t hnt (Nat.succ_le_of_lt hlt) r6 hout
                  | exact l91t (Nat.succ_le_of_lt hlt) hnp r6 hout
                  | exact l91t hnt hnp r5 hout
                  | exact l91t hnt (Nat.succ_le_of_lt hlt) r5 hout
                  | exact l91t (Nat.succ_le_of_lt hlt) hnp r5 hout
                  | exact l91t hnt hnp r4 hout
                  | exact l91t hnt (Nat.succ_le_of_lt hlt) r4 hout
                  | exact l91t (Nat.succ_le_of_lt hlt) hnp r4 hout
                  | exact l91t hnt hnp r2 hout
                  | exact l91t hnt (Nat.succ_le_of_lt hlt) r2 hout
                  | exact l91t (Nat.succ_le_of_lt hlt) hnp r2 hout
                  | exact l91t hnt hnp r1 hout
                  | exact l91t hnt (Nat.succ_le_of_lt hlt) r1 hout
                  | exact l91t (Nat.succ_le_of_lt hlt) hnp r1 hout
          · have hlt : np < 8 := Nat.lt_of_not_le fun q => h11 (nI_le q (by omega))
            refine x_aload_n hm rfl rfl ?_
            refine x_aload_n hm rfl rfl ?_
            refine x_iload hm rfl rfl ?_
            refine x_cVv hm rfl rfl (t109 hC hlt) (fun M18 r18 => ?_)
            refine x_goto hm rfl (t := 89) rfl ?_
            first
              | exact l91t hnt hnp r18 hout
              | exact l91t hnt (Nat.succ_le_of_lt hlt) r18 hout
              | exact l91t (Nat.succ_le_of_lt hlt) hnp r18 hout
              | exact l91t hnt hnp r3 hout
              | exact l91t hnt (Nat.succ_le_of_lt hlt) r3 hout
              | exact l91t (Nat.succ_le_of_lt hlt) hnp r3 hout
              | exact l91t hnt hnp r39 hout
              | exact l91t hnt (Nat.succ_le_of_lt hlt) r39 hout
              | exact l91t (Nat.succ_le_of_lt hlt) hnp r39 hout
              | exact l91t hnt hnp r38 hout
              | exact l91t hnt (Nat.succ_le_of_lt hlt) r38 hout
              | exact l91t (Nat.succ_le_of_lt hlt) hnp r38 hout
              | exact l91t hnt hnp r37 hout
              | exact l91t hnt (Nat.succ_le_of_lt hlt) r37 hout
              | exact l91t (Nat.succ_le_of_lt hlt) hnp r37 hout
              | exact l91t hnt hnp r36 hout
              | exact l91t hnt (Nat.succ_le_of_lt hlt) r36 hout
              | exact l91t (Nat.succ_le_of_lt hlt) hnp r36 hout
              | exact l91t hnt hnp r35 hout
              | exact l91t hnt (Nat.succ_le_of_lt hlt) r35 hout
              | exact l91t (Nat.succ_le_of_lt hlt) hnp r35 hout
              | exact l91t hnt hnp r34 hout
              | exact l91t hnt (Nat.succ_le_of_lt hlt) r34 hout
              | exact l91t (Nat.succ_le_of_lt hlt) hnp r34 hout
              | exact l91t hnt hnp r33 hout
              | exact l91t hnt (Nat.succ_le_of_lt hlt) r33 hout
              | exact l91t (Nat.succ_le_of_lt hlt) hnp r33 hout
              | exact l91t hnt hnp r32 hout
              | exact l91t hnt (Nat.succ_le_of_lt hlt) r32 hout
              | exact l91t (Nat.succ_le_of_lt hlt) hnp r32 hout
              | exact l91t hnt hnp r31 hout
              | exact l91t hnt (Nat.succ_le_of_lt hlt) r31 hout
              | exact l91t (Nat.succ_le_of_lt hlt) hnp r31 hout
              | exact l91t hnt hnp r30 hout
              | exact l91t hnt (Nat.succ_le_of_lt hlt) r30 hout
              | exact l91t (Nat.succ_le_of_lt hlt) hnp r30 hout
              | exact l91t hnt hnp r29 hout
              | exact l91t hnt (Nat.succ_le_of_lt hlt) r29 hout
              | exact l91t (Nat.succ_le_of_lt hlt) hnp r29 hout
              | exact l91t hnt hnp r28 hout
              | exact l91t hnt (Nat.succ_le_of_lt hlt) r28 hout
              | exact l91t (Nat.succ_le_of_lt hlt) hnp r28 hout
              | exact l91t hnt hnp r27 hout
              | exact l91t hnt (Nat.succ_le_of_lt hlt) r27 hout
              | exact l91t (Nat.succ_le_of_lt hlt) hnp r27 hout
              | exact l91t hnt hnp r26 hout
              | exact l91t hnt (Nat.succ_le_of_lt hlt) r26 hout
              | exact l91t (Nat.succ_le_of_lt hlt) hnp r26 hout
              | exact l91t hnt hnp r25 hout
              | exact l91t hnt (Nat.succ_le_of_lt hlt) r25 hout
              | exact l91t (Nat.succ_le_of_lt hlt) hnp r25 hout
              | exact l91t hnt hnp r24 hout
              | exact l91t hnt (Nat.succ_le_of_lt hlt) r24 hout
              | exact l91t (Nat.succ_le_of_lt hlt) hnp r24 hout
              | exact l91t hnt hnp r23 hout
              | exact l91t hnt (Nat.succ_le_of_lt hlt) r23 hout
              | exact l91t (Nat.succ_le_of_lt hlt) hnp r23 hout
              | exact l91t hnt hnp r22 hout
              | exact l91t hnt (Nat.succ_le_of_lt hlt) r22 hout
              | exact l91t (Nat.succ_le_of_lt hlt) hnp r22 hout
              | exact l91t hnt hnp r21 hout
              | exact l91t hnt (Nat.succ_le_of_lt hlt) r21 hout
              | exact l91t (Nat.succ_le_of_lt hlt) hnp r21 hout
              | exact l91t hnt hnp r20 hout
              | exact l91t hnt (Nat.succ_le_of_lt hlt) r20 hout
              | exact l91t (Nat.succ_le_of_lt hlt) hnp r20 hout
              | exact l91t hnt hnp r19 hout
              | exact l91t hnt (Nat.succ_le_of_lt hlt) r19 hout
              | exact l91t (Nat.succ_le_of_lt hlt) hnp r19 hout
              | exact l91t hnt hnp r17 hout
              | exact l91t hnt (Nat.succ_le_of_lt hlt) r17 hout
              | exact l91t (Nat.succ_le_of_lt hlt) hnp r17 hout
              | exact l91t hnt hnp r16 hout
              | exact l91t hnt (Nat.succ_le_of_lt hlt) r16 hout
              | exact l91t (Nat.succ_le_of_lt hlt) hnp r16 hout
              | exact l91t hnt hnp r15 hout
              | exact l91t hnt (Nat.succ_le_of_lt hlt) r15 hout
              | exact l91t (Nat.succ_le_of_lt hlt) hnp r15 hout
              | exact l91t hnt hnp r14 hout
              | exact l91t hnt (Nat.succ_le_of_lt hlt) r14 hout
              | exact l91t (Nat.succ_le_of_lt hlt) hnp r14 hout
              | exact l91t hnt hnp r13 hout
              | exact l91t hnt (Nat.succ_le_of_lt hlt) r13 hout
              | exact l91t (Nat.succ_le_of_lt hlt) hnp r13 hout
              | exact l91t hnt hnp r12 hout
              | exact l91t hnt (Nat.succ_le_of_lt hlt) r12 hout
              | exact l91t (Nat.succ_le_of_lt hlt) hnp r12 hout
              | exact l91t hnt hnp r11 hout
              | exact l91t hnt (Nat.succ_le_of_lt hlt) r11 hout
              | exact l91t (Nat.succ_le_of_lt hlt) hnp r11 hout
              | exact l91t hnt hnp r10 hout
              | exact l91t hnt (Nat.succ_le_of_lt hlt) r10 hout
              | exact l91t (Nat.succ_le_of_lt hlt) hnp r10 hout
              | exact l91t hnt hnp r9 hout
              | exact l91t hnt (Nat.succ_le_of_lt hlt) r9 hout
              | exact l91t (Nat.succ_le_of_lt hlt) hnp r9 hout
              | exact l91t hnt hnp r8 hout
              | exact l91t hnt (Nat.succ_le_of_lt hlt) r8 hout
              | exact l91t (Nat.succ_le_of_lt hlt) hnp r8 hout
              | exact l91t hnt hnp r7 hout
              | exact l91t hnt (Nat.succ_le_of_lt hlt) r7 hout
              | exact l91t (Nat.succ_le_of_lt hlt) hnp r7 hout
              | exact l91t hnt hnp r6 hout
              | exact l91t hnt (Nat.succ_le_of_lt hlt) r6 hout
              | exact l91t (Nat.succ_le_of_lt hlt) hnp r6 hout
              | exact l91t hnt hnp r5 hout
              | exact l91t hnt (Nat.succ_le_of_lt hlt) r5 hout
              | exact l91t (Nat.succ_le_of_lt hlt) hnp r5 hout
              | exact l91t hnt hnp r4 hout
              | exact l91t hnt (Nat.succ_le_of_lt hlt) r4 hout
              | exact l91t (Nat.succ_le_of_lt hlt) hnp r4 hout
              | exact l91t hnt hnp r2 hout
              | exact l91t hnt (Nat.succ_le_of_lt hlt) r2 hout
              | exact l91t (Nat.succ_le_of_lt hlt) hnp r2 hout
              | exact l91t hnt hnp r1 hout
              | exact l91t hnt (Nat.succ_le_of_lt hlt) r1 hout
              | exact l91t (Nat.succ_le_of_lt hlt) hnp r1 hout
end CU
