/-! ===== the reference: copy ===== -/
section RQ
variable {X : mSc} {Q : Option Value → mHp → Prop} {M : mM}
theorem lg_add {i n : Nat} (hi : i < 2147483648) (hn : n < 2147483648) : ((nI i).toInt64 + (nI n).toInt64).toInt = (i : Int) + n := by
  rw [Int64.toInt_add, Int32.toInt_toInt64, Int32.toInt_toInt64, jI_int hi, jI_int hn, Int.bmod_def]
  omega
theorem cpl {i n z : Nat} (hi : i < 2147483648) (hn : n < 2147483648) (hz : z ≤ 40) (h : lg_cmp ((nI i).toInt64 + (nI n).toInt64) (nI z).toInt64 ≤ 0) : i + n ≤ z := by
  have h1 := Int64.le_iff_toInt_le.mp ((lg_cmp_le _ _).mp h)
  rw [lg_add hi hn, Int32.toInt_toInt64, jI_int (by omega)] at h1
  omega
theorem cpg {i n z : Nat} (hi : i < 2147483648) (hn : n < 2147483648) (hz : z ≤ 40) (h : ¬ 0 < lg_cmp ((nI i).toInt64 + (nI n).toInt64) (nI z).toInt64) : i + n ≤ z := cpl hi hn hz (Int32.not_lt.mp h)
theorem l237b {s t i j n : Nat} (hs : s ≤ 3) (ht : t ≤ 3) (hi : i + n ≤ 40) (hj : j + n ≤ 40) : ∀ (q k : Nat) (M1 : mM), n - k < q → k ≤ n → Sf M M1 → mEv X (QI (fun _ M' => Sf M M')) 237 165 [some (.ref 66), some (.int (nI s)), some (.int (nI i)), some (.int (nI t)), some (.int (nI j)), some (.int (nI n)), some (.int (nI k))] [] (con M1) := by
  have hm : mMet 237 = some _ := rfl
  intro q
  induction q with
  | zero =>
    intro k M1 hkn hkb hS
    omega
  | succ q ih =>
    intro k M1 hkn hkb hS
    refine x_iload hm rfl rfl ?_
    refine x_iload hm rfl rfl ?_
    refine x_icmp_ge hm rfl (t := 200) rfl (fun h1 => ?_) (fun h1 => ?_)
    · refine x_iload hm rfl rfl ?_
      refine x_iret hm rfl rfl (by first | rfl | exact bI_nar | decide) ?_
      exact ⟨_, _, rfl, rfl, hS⟩
    · have hk : k < n := Nat.lt_of_not_le fun h => h1 (nI_le h (by omega))
      refine x_aload_n hm rfl rfl ?_
      refine x_getf hm rfl (gR rfl rfl) ?_
      refine x_bipush hm rfl (v := nI 40) (by decide) ?_
      refine x_iload_n hm rfl rfl ?_
      refine x_imul hm rfl ?_
      rw [jI_mul]
      refine x_iload hm rfl rfl ?_
      refine x_iadd hm rfl ?_
      rw [jI_add]
      refine x_iload hm rfl rfl ?_
      refine x_iadd hm rfl ?_
      rw [jI_add]
      refine x_aload_n hm rfl rfl ?_
      refine x_getf hm rfl (gR rfl rfl) ?_
      refine x_iload hm rfl rfl ?_
      refine x_iald hm rfl (lI rfl (by omega) (by decide)) ?_
      refine x_iast hm rfl (sI rfl (by omega) (by decide)) ?_
      refine x_iinc hm rfl rfl (v := nI 1) (by decide) rfl ?_
      rw [jI_add]
      refine x_goto hm rfl (t := 165) rfl ?_
      exact ih _ _ (by omega) (by omega) (hS.trans Sf.w78)
theorem l237a {s t i j n : Nat} (hs : s ≤ 3) (ht : t ≤ 3) (hi : i + n ≤ 40) (hj : j + n ≤ 40) : ∀ (q k : Nat) (M1 : mM), n - k < q → k ≤ n → Sf M M1 → mEv X (QI (fun _ M' => Sf M M')) 237 128 [some (.ref 66), some (.int (nI s)), some (.int (nI i)), some (.int (nI t)), some (.int (nI j)), some (.int (nI n)), some (.int (nI k))] [] (con M1) := by
  have hm : mMet 237 = some _ := rfl
  intro q
  induction q with
  | zero =>
    intro k M1 hkn hkb hS
    omega
  | succ q ih =>
    intro k M1 hkn hkb hS
    refine x_iload hm rfl rfl ?_
    refine x_iload hm rfl rfl ?_
    refine x_icmp_ge hm rfl (t := 162) rfl (fun h1 => ?_) (fun h1 => ?_)
    · refine x_iconst hm rfl (v := nI 0) (by decide) ?_
      refine x_istore hm rfl rfl ?_
      exact l237b hs ht hi hj _ 0 _ (Nat.lt_succ_self _) (Nat.zero_le _) hS
    · have hk : k < n := Nat.lt_of_not_le fun h => h1 (nI_le h (by omega))
      refine x_aload_n hm rfl rfl ?_
      refine x_getf hm rfl (gR rfl rfl) ?_
      refine x_iload hm rfl rfl ?_
      refine x_aload_n hm rfl rfl ?_
      refine x_getf hm rfl (gR rfl rfl) ?_
      refine x_bipush hm rfl (v := nI 40) (by decide) ?_
      refine x_iload_n hm rfl rfl ?_
      refine x_imul hm rfl ?_
      rw [jI_mul]
      refine x_iload_n hm rfl rfl ?_
      refine x_iadd hm rfl ?_
      rw [jI_add]
      refine x_iload hm rfl rfl ?_
      refine x_iadd hm rfl ?_
      rw [jI_add]
      refine x_iald hm rfl (lI rfl (by omega) (by decide)) ?_
      refine x_iast hm rfl (sI rfl (by omega) (by decide)) ?_
      refine x_iinc hm rfl rfl (v := nI 1) (by decide) rfl ?_
      rw [jI_add]
      refine x_goto hm rfl (t := 128) rfl ?_
      exact ih _ _ (by omega) (by omega) (hS.trans Sf.w79)
theorem t237 {a1 a2 a3 a4 a5 : Int32} (hI : Inv M) : ∃ v M', mT X 237 [.ref 66, .int a1, .int a2, .int a3, .int a4, .int a5] (con M) (some (.int v)) (con M') ∧ Inv M' := by
  refine ti_of (row := _) rfl (Nat.le_of_ble_eq_true rfl) ?_
  have hm : mMet 237 = some _ := rfl
  refine x_iload_n hm rfl rfl ?_
  refine x_callS hm rfl rfl (t210) ?_
  refine x_if_eq hm rfl (t := 14) rfl (fun h1 => ?_) (fun h1 => ?_)
  · refine x_aload_n hm rfl rfl ?_
    refine x_ldcI hm rfl (v := (-1000001 : Int32)) (by decide +kernel) ?_
    refine x_cVi hm rfl rfl (t135 (by decide +kernel)) (fun v2 M2 r2 => ?_)
    refine x_iret hm rfl rfl (by first | rfl | exact bI_nar | decide) ?_
    first
      | exact ⟨_, _, rfl, rfl, r2.2.inv hI⟩
      | exact ⟨_, _, rfl, rfl, hI⟩
      | exact ⟨_, _, rfl, rfl, r1.2.inv hI⟩
      | exact ⟨_, _, rfl, rfl, r3.2.inv hI⟩
      | exact ⟨_, _, rfl, rfl, r4.2.inv hI⟩
      | exact ⟨_, _, rfl, rfl, r5.2.inv hI⟩
      | exact ⟨_, _, rfl, rfl, r6.2.inv hI⟩
      | exact ⟨_, _, rfl, rfl, r7.2.inv hI⟩
      | exact ⟨_, _, rfl, rfl, r8.2.inv hI⟩
      | exact ⟨_, _, rfl, rfl, r9.2.inv hI⟩
      | exact ⟨_, _, rfl, rfl, r10.2.inv hI⟩
      | exact ⟨_, _, rfl, rfl, r11.2.inv hI⟩
      | exact ⟨_, _, rfl, rfl, r12.2.inv hI⟩
      | exact ⟨_, _, rfl, rfl, r13.2.inv hI⟩
      | exact ⟨_, _, rfl, rfl, r14.2.inv hI⟩
      | exact ⟨_, _, rfl, rfl, r15.2.inv hI⟩
      | exact ⟨_, _, rfl, rfl, r16.2.inv hI⟩
      | exact ⟨_, _, rfl, rfl, r17.2.inv hI⟩
      | exact ⟨_, _, rfl, rfl, r18.2.inv hI⟩
      | exact ⟨_, _, rfl, rfl, r19.2.inv hI⟩
      | exact ⟨_, _, rfl, rfl, r20.2.inv hI⟩
      | exact ⟨_, _, rfl, rfl, r21.2.inv hI⟩
      | exact ⟨_, _, rfl, rfl, r22.2.inv hI⟩
      | exact ⟨_, _, rfl, rfl, r23.2.inv hI⟩
      | exact ⟨_, _, rfl, rfl, r24.2.inv hI⟩
      | exact ⟨_, _, rfl, rfl, r25.2.inv hI⟩
      | exact ⟨_, _, rfl, rfl, r26.2.inv hI⟩
      | exact ⟨_, _, rfl, rfl, r27.2.inv hI⟩
      | exact ⟨_, _, rfl, rfl, r28.2.inv hI⟩
      | exact ⟨_, _, rfl, rfl, r29.2.inv hI⟩
      | exact ⟨_, _, rfl, rfl, r30.2.inv hI⟩
      | exact ⟨_, _, rfl, rfl, r31.2.inv hI⟩
      | exact ⟨_, _, rfl, rfl, r32.2.inv hI⟩
      | exact ⟨_, _, rfl, rfl, r33.2.inv hI⟩
      | exact ⟨_, _, rfl, rfl, r34.2.inv hI⟩
      | exact ⟨_, _, rfl, rfl, r35.2.inv hI⟩
      | exact ⟨_, _, rfl, rfl, r36.2.inv hI⟩
      | exact ⟨_, _, rfl, rfl, r37.2.inv hI⟩
      | exact ⟨_, _, rfl, rfl, r38.2.inv hI⟩
      | exact ⟨_, _, rfl, rfl, r39.2.inv hI⟩
      | exact ⟨_, _, rfl, rfl, r40.2.inv hI⟩
      | exact ⟨_, _, rfl, rfl, r41.2.inv hI⟩
      | exact ⟨_, _, rfl, rfl, r42.2.inv hI⟩
      | exact ⟨_, _, rfl, rfl, r43.2.inv hI⟩
      | exact ⟨_, _, rfl, rfl, r44.2.inv hI⟩
      | exact ⟨_, _, rfl, rfl, r45.2.inv hI⟩
      | exact ⟨_, _, rfl, rfl, r46.2.inv hI⟩
      | exact ⟨_, _, rfl, rfl, r47.2.inv hI⟩
      | exact ⟨_, _, rfl, rfl, r48.2.inv hI⟩
      | exact ⟨_, _, rfl, rfl, r49.2.inv hI⟩
      | exact ⟨_, _, rfl, rfl, r50.2.inv hI⟩
      | exact ⟨_, _, rfl, rfl, r51.2.inv hI⟩
      | exact ⟨_, _, rfl, rfl, r52.2.inv hI⟩
      | exact ⟨_, _, rfl, rfl, r53.2.inv hI⟩
      | exact ⟨_, _, rfl, rfl, r54.2.inv hI⟩
      | exact ⟨_, _, rfl, rfl, r55.2.inv hI⟩
      | exact ⟨_, _, rfl, rfl, r56.2.inv hI⟩
      | exact ⟨_, _, rfl, rfl, r57.2.inv hI⟩
      | exact ⟨_, _, rfl, rfl, r58.2.inv hI⟩
      | exact ⟨_, _, rfl, rfl, r59.2.inv hI⟩
  · obtain ⟨s, hs, rfl⟩ := le_k (by omega) (bI_ne0 h1)
    refine x_iload_n hm rfl rfl ?_
    refine x_callS hm rfl rfl (t210) ?_
    refine x_if_ne hm rfl (t := 21) rfl (fun h3 => ?_) (fun h3 => ?_)
    · obtain ⟨t, ht, rfl⟩ := le_k (by omega) (bI_ne0 h3)
      obtain ⟨z, hz, hsz⟩ := hI.1.size s
      obtain ⟨y, hy, hty⟩ := hI.1.size t
      refine x_aload_n hm rfl rfl ?_
      refine x_getf hm rfl (gR rfl rfl) ?_
      refine x_iload_n hm rfl rfl ?_
      refine x_iald hm rfl (lI rfl (by omega) (by decide)) ?_
      refine x_if_eq hm rfl (t := 39) rfl (fun h4 => ?_) (fun h4 => ?_)
      · refine x_aload_n hm rfl rfl ?_
        refine x_ldcI hm rfl (v := (-1000006 : Int32)) (by decide +kernel) ?_
        refine x_cVi hm rfl rfl (t135 (by decide +kernel)) (fun v5 M5 r5 => ?_)
        refine x_iret hm rfl rfl (by first | rfl | exact bI_nar | decide) ?_
        first
          | exact ⟨_, _, rfl, rfl, r5.2.inv hI⟩
          | exact ⟨_, _, rfl, rfl, hI⟩
          | exact ⟨_, _, rfl, rfl, r1.2.inv hI⟩
          | exact ⟨_, _, rfl, rfl, r2.2.inv hI⟩
          | exact ⟨_, _, rfl, rfl, r3.2.inv hI⟩
          | exact ⟨_, _, rfl, rfl, r4.2.inv hI⟩
          | exact ⟨_, _, rfl, rfl, r6.2.inv hI⟩
          | exact ⟨_, _, rfl, rfl, r7.2.inv hI⟩
          | exact ⟨_, _, rfl, rfl, r8.2.inv hI⟩
          | exact ⟨_, _, rfl, rfl, r9.2.inv hI⟩
          | exact ⟨_, _, rfl, rfl, r10.2.inv hI⟩
          | exact ⟨_, _, rfl, rfl, r11.2.inv hI⟩
          | exact ⟨_, _, rfl, rfl, r12.2.inv hI⟩
          | exact ⟨_, _, rfl, rfl, r13.2.inv hI⟩
          | exact ⟨_, _, rfl, rfl, r14.2.inv hI⟩
          | exact ⟨_, _, rfl, rfl, r15.2.inv hI⟩
          | exact ⟨_, _, rfl, rfl, r16.2.inv hI⟩
          | exact ⟨_, _, rfl, rfl, r17.2.inv hI⟩
          | exact ⟨_, _, rfl, rfl, r18.2.inv hI⟩
          | exact ⟨_, _, rfl, rfl, r19.2.inv hI⟩
          | exact ⟨_, _, rfl, rfl, r20.2.inv hI⟩
          | exact ⟨_, _, rfl, rfl, r21.2.inv hI⟩
          | exact ⟨_, _, rfl, rfl, r22.2.inv hI⟩
          | exact ⟨_, _, rfl, rfl, r23.2.inv hI⟩
          | exact ⟨_, _, rfl, rfl, r24.2.inv hI⟩
          | exact ⟨_, _, rfl, rfl, r25.2.inv hI⟩
          | exact ⟨_, _, rfl, rfl, r26.2.inv hI⟩
          | exact ⟨_, _, rfl, rfl, r27.2.inv hI⟩
          | exact ⟨_, _, rfl, rfl, r28.2.inv hI⟩
          | exact ⟨_, _, rfl, rfl, r29.2.inv hI⟩
          | exact ⟨_, _, rfl, rfl, r30.2.inv hI⟩
          | exact ⟨_, _, rfl, rfl, r31.2.inv hI⟩
          | exact ⟨_, _, rfl, rfl, r32.2.inv hI⟩
          | exact ⟨_, _, rfl, rfl, r33.2.inv hI⟩
          | exact ⟨_, _, rfl, rfl, r34.2.inv hI⟩
          | exact ⟨_, _, rfl, rfl, r35.2.inv hI⟩
          | exact ⟨_, _, rfl, rfl, r36.2.inv hI⟩
          | exact ⟨_, _, rfl, rfl, r37.2.inv hI⟩
          | exact ⟨_, _, rfl, rfl, r38.2.inv hI⟩
          | exact ⟨_, _, rfl, rfl, r39.2.inv hI⟩
          | exact ⟨_, _, rfl, rfl, r40.2.inv hI⟩
          | exact ⟨_, _, rfl, rfl, r41.2.inv hI⟩
          | exact ⟨_, _, rfl, rfl, r42.2.inv hI⟩
          | exact ⟨_, _, rfl, rfl, r43.2.inv hI⟩
          | exact ⟨_, _, rfl, rfl, r44.2.inv hI⟩
          | exact ⟨_, _, rfl, rfl, r45.2.inv hI⟩
          | exact ⟨_, _, rfl, rfl, r46.2.inv hI⟩
          | exact ⟨_, _, rfl, rfl, r47.2.inv hI⟩
          | exact ⟨_, _, rfl, rfl, r48.2.inv hI⟩
          | exact ⟨_, _, rfl, rfl, r49.2.inv hI⟩
          | exact ⟨_, _, rfl, rfl, r50.2.inv hI⟩
          | exact ⟨_, _, rfl, rfl, r51.2.inv hI⟩
          | exact ⟨_, _, rfl, rfl, r52.2.inv hI⟩
          | exact ⟨_, _, rfl, rfl, r53.2.inv hI⟩
          | exact ⟨_, _, rfl, rfl, r54.2.inv hI⟩
          | exact ⟨_, _, rfl, rfl, r55.2.inv hI⟩
          | exact ⟨_, _, rfl, rfl, r56.2.inv hI⟩
          | exact ⟨_, _, rfl, rfl, r57.2.inv hI⟩
          | exact ⟨_, _, rfl, rfl, r58.2.inv hI⟩
          | exact ⟨_, _, rfl, rfl, r59.2.inv hI⟩
      · refine x_aload_n hm rfl rfl ?_
        refine x_getf hm rfl (gR rfl rfl) ?_
        refine x_iload_n hm rfl rfl ?_
        refine x_iald hm rfl (lI rfl (by omega) (by decide)) ?_
        refine x_if_ne hm rfl (t := 46) rfl (fun h6 => ?_) (fun h6 => ?_)
        · refine x_aload_n hm rfl rfl ?_
          refine x_getf hm rfl (gR rfl rfl) ?_
          refine x_iload_n hm rfl rfl ?_
          refine x_iald hm rfl (lI rfl (by omega) (by decide)) ?_
          refine x_aload_n hm rfl rfl ?_
          refine x_getf hm rfl (gR rfl rfl) ?_
          refine x_iload_n hm rfl rfl ?_
          refine x_iald hm rfl (lI rfl (by omega) (by decide)) ?_
          refine x_icmp_eq hm rfl (t := 69) rfl (fun h7 => ?_) (fun h7 => ?_)
          · refine x_iload_n hm rfl rfl ?_
            refine x_if_lt hm rfl (t := 118) rfl (fun h8 => ?_) (fun h8 => ?_)
            · refine x_aload_n hm rfl rfl ?_
              refine x_ldcI hm rfl (v := (-1000001 : Int32)) (by decide +kernel) ?_
              refine x_cVi hm rfl rfl (t135 (by decide +kernel)) (fun v9 M9 r9 => ?_)
              refine x_iret hm rfl rfl (by first | rfl | exact bI_nar | decide) ?_
              first
                | exact ⟨_, _, rfl, rfl, r9.2.inv hI⟩
                | exact ⟨_, _, rfl, rfl, hI⟩
                | exact ⟨_, _, rfl, rfl, r1.2.inv hI⟩
                | exact ⟨_, _, rfl, rfl, r2.2.inv hI⟩
                | exact ⟨_, _, rfl, rfl, r3.2.inv hI⟩
                | exact ⟨_, _, rfl, rfl, r4.2.inv hI⟩
                | exact ⟨_, _, rfl, rfl, r5.2.inv hI⟩
                | exact ⟨_, _, rfl, rfl, r6.2.inv hI⟩
                | exact ⟨_, _, rfl, rfl, r7.2.inv hI⟩
                | exact ⟨_, _, rfl, rfl, r8.2.inv hI⟩
                | exact ⟨_, _, rfl, rfl, r10.2.inv hI⟩
                | exact ⟨_, _, rfl, rfl, r11.2.inv hI⟩
                | exact ⟨_, _, rfl, rfl, r12.2.inv hI⟩
                | exact ⟨_, _, rfl, rfl, r13.2.inv hI⟩
                | exact ⟨_, _, rfl, rfl, r14.2.inv hI⟩
                | exact ⟨_, _, rfl, rfl, r15.2.inv hI⟩
                | exact ⟨_, _, rfl, rfl, r16.2.inv hI⟩
                | exact ⟨_, _, rfl, rfl, r17.2.inv hI⟩
                | exact ⟨_, _, rfl, rfl, r18.2.inv hI⟩
                | exact ⟨_, _, rfl, rfl, r19.2.inv hI⟩
                | exact ⟨_, _, rfl, rfl, r20.2.inv hI⟩
                | exact ⟨_, _, rfl, rfl, r21.2.inv hI⟩
                | exact ⟨_, _, rfl, rfl, r22.2.inv hI⟩
                | exact ⟨_, _, rfl, rfl, r23.2.inv hI⟩
                | exact ⟨_, _, rfl, rfl, r24.2.inv hI⟩
                | exact ⟨_, _, rfl, rfl, r25.2.inv hI⟩
                | exact ⟨_, _, rfl, rfl, r26.2.inv hI⟩
                | exact ⟨_, _, rfl, rfl, r27.2.inv hI⟩
                | exact ⟨_, _, rfl, rfl, r28.2.inv hI⟩
                | exact ⟨_, _, rfl, rfl, r29.2.inv hI⟩
                | exact ⟨_, _, rfl, rfl, r30.2.inv hI⟩
                | exact ⟨_, _, rfl, rfl, r31.2.inv hI⟩
                | exact ⟨_, _, rfl, rfl, r32.2.inv hI⟩
                | exact ⟨_, _, rfl, rfl, r33.2.inv hI⟩
                | exact ⟨_, _, rfl, rfl, r34.2.inv hI⟩
                | exact ⟨_, _, rfl, rfl, r35.2.inv hI⟩
                | exact ⟨_, _, rfl, rfl, r36.2.inv hI⟩
                | exact ⟨_, _, rfl, rfl, r37.2.inv hI⟩
                | exact ⟨_, _, rfl, rfl, r38.2.inv hI⟩
                | exact ⟨_, _, rfl, rfl, r39.2.inv hI⟩
                | exact ⟨_, _, rfl, rfl, r40.2.inv hI⟩
                | exact ⟨_, _, rfl, rfl, r41.2.inv hI⟩
                | exact ⟨_, _, rfl, rfl, r42.2.inv hI⟩
                | exact ⟨_, _, rfl, rfl, r43.2.inv hI⟩
                | exact ⟨_, _, rfl, rfl, r44.2.inv hI⟩
                | exact ⟨_, _, rfl, rfl, r45.2.inv hI⟩
                | exact ⟨_, _, rfl, rfl, r46.2.inv hI⟩
                | exact ⟨_, _, rfl, rfl, r47.2.inv hI⟩
                | exact ⟨_, _, rfl, rfl, r48.2.inv hI⟩
                | exact ⟨_, _, rfl, rfl, r49.2.inv hI⟩
                | exact ⟨_, _, rfl, rfl, r50.2.inv hI⟩
                | exact ⟨_, _, rfl, rfl, r51.2.inv hI⟩
                | exact ⟨_, _, rfl, rfl, r52.2.inv hI⟩
                | exact ⟨_, _, rfl, rfl, r53.2.inv hI⟩
                | exact ⟨_, _, rfl, rfl, r54.2.inv hI⟩
                | exact ⟨_, _, rfl, rfl, r55.2.inv hI⟩
                | exact ⟨_, _, rfl, rfl, r56.2.inv hI⟩
                | exact ⟨_, _, rfl, rfl, r57.2.inv hI⟩
                | exact ⟨_, _, rfl, rfl, r58.2.inv hI⟩
                | exact ⟨_, _, rfl, rfl, r59.2.inv hI⟩
            · obtain ⟨i, hi, rfl⟩ := jI_of h8
              refine x_iload hm rfl rfl ?_
              refine x_if_lt hm rfl (t := 118) rfl (fun h10 => ?_) (fun h10 => ?_)
              · refine x_aload_n hm rfl rfl ?_
                refine x_ldcI hm rfl (v := (-1000001 : Int32)) (by decide +kernel) ?_
                refine x_cVi hm rfl rfl (t135 (by decide +kernel)) (fun v11 M11 r11 => ?_)
                refine x_iret hm rfl rfl (by first | rfl | exact bI_nar | decide) ?_
                first
                  | exact ⟨_, _, rfl, rfl, r11.2.inv hI⟩
                  | exact ⟨_, _, rfl, rfl, hI⟩
                  | exact ⟨_, _, rfl, rfl, r1.2.inv hI⟩
                  | exact ⟨_, _, rfl, rfl, r2.2.inv hI⟩
                  | exact ⟨_, _, rfl, rfl, r3.2.inv hI⟩
                  | exact ⟨_, _, rfl, rfl, r4.2.inv hI⟩
                  | exact ⟨_, _, rfl, rfl, r5.2.inv hI⟩
                  | exact ⟨_, _, rfl, rfl, r6.2.inv hI⟩
                  | exact ⟨_, _, rfl, rfl, r7.2.inv hI⟩
                  | exact ⟨_, _, rfl, rfl, r8.2.inv hI⟩
                  | exact ⟨_, _, rfl, rfl, r9.2.inv hI⟩
                  | exact ⟨_, _, rfl, rfl, r10.2.inv hI⟩
                  | exact ⟨_, _, rfl, rfl, r12.2.inv hI⟩
                  | exact ⟨_, _, rfl, rfl, r13.2.inv hI⟩
                  | exact ⟨_, _, rfl, rfl, r14.2.inv hI⟩
                  | exact ⟨_, _, rfl, rfl, r15.2.inv hI⟩
                  | exact ⟨_, _, rfl, rfl, r16.2.inv hI⟩
                  | exact ⟨_, _, rfl, rfl, r17.2.inv hI⟩
                  | exact ⟨_, _, rfl, rfl, r18.2.inv hI⟩
                  | exact ⟨_, _, rfl, rfl, r19.2.inv hI⟩
                  | exact ⟨_, _, rfl, rfl, r20.2.inv hI⟩
                  | exact ⟨_, _, rfl, rfl, r21.2.inv hI⟩
                  | exact ⟨_, _, rfl, rfl, r22.2.inv hI⟩
                  | exact ⟨_, _, rfl, rfl, r23.2.inv hI⟩
                  | exact ⟨_, _, rfl, rfl, r24.2.inv hI⟩
                  | exact ⟨_, _, rfl, rfl, r25.2.inv hI⟩
                  | exact ⟨_, _, rfl, rfl, r26.2.inv hI⟩
                  | exact ⟨_, _, rfl, rfl, r27.2.inv hI⟩
                  | exact ⟨_, _, rfl, rfl, r28.2.inv hI⟩
                  | exact ⟨_, _, rfl, rfl, r29.2.inv hI⟩
                  | exact ⟨_, _, rfl, rfl, r30.2.inv hI⟩
                  | exact ⟨_, _, rfl, rfl, r31.2.inv hI⟩
                  | exact ⟨_, _, rfl, rfl, r32.2.inv hI⟩
                  | exact ⟨_, _, rfl, rfl, r33.2.inv hI⟩
                  | exact ⟨_, _, rfl, rfl, r34.2.inv hI⟩
                  | exact ⟨_, _, rfl, rfl, r35.2.inv hI⟩
                  | exact ⟨_, _, rfl, rfl, r36.2.inv hI⟩
                  | exact ⟨_, _, rfl, rfl, r37.2.inv hI⟩
                  | exact ⟨_, _, rfl, rfl, r38.2.inv hI⟩
                  | exact ⟨_, _, rfl, rfl, r39.2.inv hI⟩
                  | exact ⟨_, _, rfl, rfl, r40.2.inv hI⟩
                  | exact ⟨_, _, rfl, rfl, r41.2.inv hI⟩
                  | exact ⟨_, _, rfl, rfl, r42.2.inv hI⟩
                  | exact ⟨_, _, rfl, rfl, r43.2.inv hI⟩
                  | exact ⟨_, _, rfl, rfl, r44.2.inv hI⟩
                  | exact ⟨_, _, rfl, rfl, r45.2.inv hI⟩
                  | exact ⟨_, _, rfl, rfl, r46.2.inv hI⟩
                  | exact ⟨_, _, rfl, rfl, r47.2.inv hI⟩
                  | exact ⟨_, _, rfl, rfl, r48.2.inv hI⟩
                  | exact ⟨_, _, rfl, rfl, r49.2.inv hI⟩
                  | exact ⟨_, _, rfl, rfl, r50.2.inv hI⟩
                  | exact ⟨_, _, rfl, rfl, r51.2.inv hI⟩
                  | exact ⟨_, _, rfl, rfl, r52.2.inv hI⟩
                  | exact ⟨_, _, rfl, rfl, r53.2.inv hI⟩
                  | exact ⟨_, _, rfl, rfl, r54.2.inv hI⟩
                  | exact ⟨_, _, rfl, rfl, r55.2.inv hI⟩
                  | exact ⟨_, _, rfl, rfl, r56.2.inv hI⟩
                  | exact ⟨_, _, rfl, rfl, r57.2.inv hI⟩
                  | exact ⟨_, _, rfl, rfl, r58.2.inv hI⟩
                  | exact ⟨_, _, rfl, rfl, r59.2.inv hI⟩
              · obtain ⟨j, hj, rfl⟩ := jI_of h10
                refine x_iload hm rfl rfl ?_
                refine x_if_lt hm rfl (t := 118) rfl (fun h12 => ?_) (fun h12 => ?_)
                · refine x_aload_n hm rfl rfl ?_
                  refine x_ldcI hm rfl (v := (-1000001 : Int32)) (by decide +kernel) ?_
                  refine x_cVi hm rfl rfl (t135 (by decide +kernel)) (fun v13 M13 r13 => ?_)
                  refine x_iret hm rfl rfl (by first | rfl | exact bI_nar | decide) ?_
                  first
                    | exact ⟨_, _, rfl, rfl, r13.2.inv hI⟩
                    | exact ⟨_, _, rfl, rfl, hI⟩
                    | exact ⟨_, _, rfl, rfl, r1.2.inv hI⟩
                    | exact ⟨_, _, rfl, rfl, r2.2.inv hI⟩
                    | exact ⟨_, _, rfl, rfl, r3.2.inv hI⟩
                    | exact ⟨_, _, rfl, rfl, r4.2.inv hI⟩
                    | exact ⟨_, _, rfl, rfl, r5.2.inv hI⟩
                    | exact ⟨_, _, rfl, rfl, r6.2.inv hI⟩
                    | exact ⟨_, _, rfl, rfl, r7.2.inv hI⟩
                    | exact ⟨_, _, rfl, rfl, r8.2.inv hI⟩
                    | exact ⟨_, _, rfl, rfl, r9.2.inv hI⟩
                    | exact ⟨_, _, rfl, rfl, r10.2.inv hI⟩
                    | exact ⟨_, _, rfl, rfl, r11.2.inv hI⟩
                    | exact ⟨_, _, rfl, rfl, r12.2.inv hI⟩
                    | exact ⟨_, _, rfl, rfl, r14.2.inv hI⟩
                    | exact ⟨_, _, rfl, rfl, r15.2.inv hI⟩
                    | exact ⟨_, _, rfl, rfl, r16.2.inv hI⟩
                    | exact ⟨_, _, rfl, rfl, r17.2.inv hI⟩
                    | exact ⟨_, _, rfl, rfl, r18.2.inv hI⟩
                    | exact ⟨_, _, rfl, rfl, r19.2.inv hI⟩
                    | exact ⟨_, _, rfl, rfl, r20.2.inv hI⟩
                    | exact ⟨_, _, rfl, rfl, r21.2.inv hI⟩
                    | exact ⟨_, _, rfl, rfl, r22.2.inv hI⟩
                    | exact ⟨_, _, rfl, rfl, r23.2.inv hI⟩
                    | exact ⟨_, _, rfl, rfl, r24.2.inv hI⟩
                    | exact ⟨_, _, rfl, rfl, r25.2.inv hI⟩
                    | exact ⟨_, _, rfl, rfl, r26.2.inv hI⟩
                    | exact ⟨_, _, rfl, rfl, r27.2.inv hI⟩
                    | exact ⟨_, _, rfl, rfl, r28.2.inv hI⟩
                    | exact ⟨_, _, rfl, rfl, r29.2.inv hI⟩
                    | exact ⟨_, _, rfl, rfl, r30.2.inv hI⟩
                    | exact ⟨_, _, rfl, rfl, r31.2.inv hI⟩
                    | exact ⟨_, _, rfl, rfl, r32.2.inv hI⟩
                    | exact ⟨_, _, rfl, rfl, r33.2.inv hI⟩
                    | exact ⟨_, _, rfl, rfl, r34.2.inv hI⟩
                    | exact ⟨_, _, rfl, rfl, r35.2.inv hI⟩
                    | exact ⟨_, _, rfl, rfl, r36.2.inv hI⟩
                    | exact ⟨_, _, rfl, rfl, r37.2.inv hI⟩
                    | exact ⟨_, _, rfl, rfl, r38.2.inv hI⟩
                    | exact ⟨_, _, rfl, rfl, r39.2.inv hI⟩
                    | exact ⟨_, _, rfl, rfl, r40.2.inv hI⟩
                    | exact ⟨_, _, rfl, rfl, r41.2.inv hI⟩
                    | exact ⟨_, _, rfl, rfl, r42.2.inv hI⟩
                    | exact ⟨_, _, rfl, rfl, r43.2.inv hI⟩
                    | exact ⟨_, _, rfl, rfl, r44.2.inv hI⟩
                    | exact ⟨_, _, rfl, rfl, r45.2.inv hI⟩
                    | exact ⟨_, _, rfl, rfl, r46.2.inv hI⟩
                    | exact ⟨_, _, rfl, rfl, r47.2.inv hI⟩
                    | exact ⟨_, _, rfl, rfl, r48.2.inv hI⟩
                    | exact ⟨_, _, rfl, rfl, r49.2.inv hI⟩
                    | exact ⟨_, _, rfl, rfl, r50.2.inv hI⟩
                    | exact ⟨_, _, rfl, rfl, r51.2.inv hI⟩
                    | exact ⟨_, _, rfl, rfl, r52.2.inv hI⟩
                    | exact ⟨_, _, rfl, rfl, r53.2.inv hI⟩
                    | exact ⟨_, _, rfl, rfl, r54.2.inv hI⟩
                    | exact ⟨_, _, rfl, rfl, r55.2.inv hI⟩
                    | exact ⟨_, _, rfl, rfl, r56.2.inv hI⟩
                    | exact ⟨_, _, rfl, rfl, r57.2.inv hI⟩
                    | exact ⟨_, _, rfl, rfl, r58.2.inv hI⟩
                    | exact ⟨_, _, rfl, rfl, r59.2.inv hI⟩
                · obtain ⟨n, hn, rfl⟩ := jI_of h12
                  refine x_iload_n hm rfl rfl ?_
                  refine x_i2l hm rfl ?_
                  refine x_iload hm rfl rfl ?_
                  refine x_i2l hm rfl ?_
                  refine x_ladd hm rfl ?_
                  refine x_aload_n hm rfl rfl ?_
                  refine x_getf hm rfl (gR rfl rfl) ?_
                  refine x_iload_n hm rfl rfl ?_
                  refine x_iald hm rfl (lI rfl (by omega) (by decide)) ?_
                  rw [hsz]
                  refine x_i2l hm rfl ?_
                  refine x_lcmp hm rfl ?_
                  refine x_if_gt hm rfl (t := 118) rfl (fun h14 => ?_) (fun h14 => ?_)
                  · refine x_aload_n hm rfl rfl ?_
                    refine x_ldcI hm rfl (v := (-1000001 : Int32)) (by decide +kernel) ?_
                    refine x_cVi hm rfl rfl (t135 (by decide +kernel)) (fun v15 M15 r15 => ?_)
                    refine x_iret hm rfl rfl (by first | rfl | exact bI_nar | decide) ?_
                    first
                      | exact ⟨_, _, rfl, rfl, r15.2.inv hI⟩
                      | exact ⟨_, _, rfl, rfl, hI⟩
                      | exact ⟨_, _, rfl, rfl, r1.2.inv hI⟩
                      | exact ⟨_, _, rfl, rfl, r2.2.inv hI⟩
                      | exact ⟨_, _, rfl, rfl, r3.2.inv hI⟩
                      | exact ⟨_, _, rfl, rfl, r4.2.inv hI⟩
                      | exact ⟨_, _, rfl, rfl, r5.2.inv hI⟩
                      | exact ⟨_, _, rfl, rfl, r6.2.inv hI⟩
                      | exact ⟨_, _, rfl, rfl, r7.2.inv hI⟩
                      | exact ⟨_, _, rfl, rfl, r8.2.inv hI⟩
                      | exact ⟨_, _, rfl, rfl, r9.2.inv hI⟩
                      | exact ⟨_, _, rfl, rfl, r10.2.inv hI⟩
                      | exact ⟨_, _, rfl, rfl, r11.2.inv hI⟩
                      | exact ⟨_, _, rfl, rfl, r12.2.inv hI⟩
                      | exact ⟨_, _, rfl, rfl, r13.2.inv hI⟩
                      | exact ⟨_, _, rfl, rfl, r14.2.inv hI⟩
                      | exact ⟨_, _, rfl, rfl, r16.2.inv hI⟩
                      | exact ⟨_, _, rfl, rfl, r17.2.inv hI⟩
                      | exact ⟨_, _, rfl, rfl, r18.2.inv hI⟩
                      | exact ⟨_, _, rfl, rfl, r19.2.inv hI⟩
                      | exact ⟨_, _, rfl, rfl, r20.2.inv hI⟩
                      | exact ⟨_, _, rfl, rfl, r21.2.inv hI⟩
                      | exact ⟨_, _, rfl, rfl, r22.2.inv hI⟩
                      | exact ⟨_, _, rfl, rfl, r23.2.inv hI⟩
                      | exact ⟨_, _, rfl, rfl, r24.2.inv hI⟩
                      | exact ⟨_, _, rfl, rfl, r25.2.inv hI⟩
                      | exact ⟨_, _, rfl, rfl, r26.2.inv hI⟩
                      | exact ⟨_, _, rfl, rfl, r27.2.inv hI⟩
                      | exact ⟨_, _, rfl, rfl, r28.2.inv hI⟩
                      | exact ⟨_, _, rfl, rfl, r29.2.inv hI⟩
                      | exact ⟨_, _, rfl, rfl, r30.2.inv hI⟩
                      | exact ⟨_, _, rfl, rfl, r31.2.inv hI⟩
                      | exact ⟨_, _, rfl, rfl, r32.2.inv hI⟩
                      | exact ⟨_, _, rfl, rfl, r33.2.inv hI⟩
                      | exact ⟨_, _, rfl, rfl, r34.2.inv hI⟩
                      | exact ⟨_, _, rfl, rfl, r35.2.inv hI⟩
                      | exact ⟨_, _, rfl, rfl, r36.2.inv hI⟩
                      | exact ⟨_, _, rfl, rfl, r37.2.inv hI⟩
                      | exact ⟨_, _, rfl, rfl, r38.2.inv hI⟩
                      | exact ⟨_, _, rfl, rfl, r39.2.inv hI⟩
                      | exact ⟨_, _, rfl, rfl, r40.2.inv hI⟩
                      | exact ⟨_, _, rfl, rfl, r41.2.inv hI⟩
                      | exact ⟨_, _, rfl, rfl, r42.2.inv hI⟩
                      | exact ⟨_, _, rfl, rfl, r43.2.inv hI⟩
                      | exact ⟨_, _, rfl, rfl, r44.2.inv hI⟩
                      | exact ⟨_, _, rfl, rfl, r45.2.inv hI⟩
                      | exact ⟨_, _, rfl, rfl, r46.2.inv hI⟩
                      | exact ⟨_, _, rfl, rfl, r47.2.inv hI⟩
                      | exact ⟨_, _, rfl, rfl, r48.2.inv hI⟩
                      | exact ⟨_, _, rfl, rfl, r49.2.inv hI⟩
                      | exact ⟨_, _, rfl, rfl, r50.2.inv hI⟩
                      | exact ⟨_, _, rfl, rfl, r51.2.inv hI⟩
                      | exact ⟨_, _, rfl, rfl, r52.2.inv hI⟩
                      | exact ⟨_, _, rfl, rfl, r53.2.inv hI⟩
                      | exact ⟨_, _, rfl, rfl, r54.2.inv hI⟩
                      | exact ⟨_, _, rfl, rfl, r55.2.inv hI⟩
                      | exact ⟨_, _, rfl, rfl, r56.2.inv hI⟩
                      | exact ⟨_, _, rfl, rfl, r57.2.inv hI⟩
                      | exact ⟨_, _, rfl, rfl, r58.2.inv hI⟩
                      | exact ⟨_, _, rfl, rfl, r59.2.inv hI⟩
                  · have g1 := cpg hi hn hz h14
                    refine x_iload hm rfl rfl ?_
                    refine x_i2l hm rfl ?_
                    refine x_iload hm rfl rfl ?_
                    refine x_i2l hm rfl ?_
                    refine x_ladd hm rfl ?_
                    refine x_aload_n hm rfl rfl ?_
                    refine x_getf hm rfl (gR rfl rfl) ?_
                    refine x_iload_n hm rfl rfl ?_
                    refine x_iald hm rfl (lI rfl (by omega) (by decide)) ?_
                    rw [hty]
                    refine x_i2l hm rfl ?_
                    refine x_lcmp hm rfl ?_
                    refine x_if_le hm rfl (t := 125) rfl (fun h16 => ?_) (fun h16 => ?_)
                    · have g2 := cpl hj hn hy h16
                      refine x_iconst hm rfl (v := nI 0) (by decide) ?_
                      refine x_istore hm rfl rfl ?_
                      exact ev_inv hI (l237a hs ht (by omega) (by omega) _ 0 _ (Nat.lt_succ_self _) (Nat.zero_le _) Sf.rf)
                    · refine x_aload_n hm rfl rfl ?_
                      refine x_ldcI hm rfl (v := (-1000001 : Int32)) (by decide +kernel) ?_
                      refine x_cVi hm rfl rfl (t135 (by decide +kernel)) (fun v17 M17 r17 => ?_)
                      refine x_iret hm rfl rfl (by first | rfl | exact bI_nar | decide) ?_
                      first
                        | exact ⟨_, _, rfl, rfl, r17.2.inv hI⟩
                        | exact ⟨_, _, rfl, rfl, hI⟩
                        | exact ⟨_, _, rfl, rfl, r1.2.inv hI⟩
                        | exact ⟨_, _, rfl, rfl, r2.2.inv hI⟩
                        | exact ⟨_, _, rfl, rfl, r3.2.inv hI⟩
                        | exact ⟨_, _, rfl, rfl, r4.2.inv hI⟩
                        | exact ⟨_, _, rfl, rfl, r5.2.inv hI⟩
                        | exact ⟨_, _, rfl, rfl, r6.2.inv hI⟩
                        | exact ⟨_, _, rfl, rfl, r7.2.inv hI⟩
                        | exact ⟨_, _, rfl, rfl, r8.2.inv hI⟩
                        | exact ⟨_, _, rfl, rfl, r9.2.inv hI⟩
                        | exact ⟨_, _, rfl, rfl, r10.2.inv hI⟩
                        | exact ⟨_, _, rfl, rfl, r11.2.inv hI⟩
                        | exact ⟨_, _, rfl, rfl, r12.2.inv hI⟩
                        | exact ⟨_, _, rfl, rfl, r13.2.inv hI⟩
                        | exact ⟨_, _, rfl, rfl, r14.2.inv hI⟩
                        | exact ⟨_, _, rfl, rfl, r15.2.inv hI⟩
                        | exact ⟨_, _, rfl, rfl, r16.2.inv hI⟩
                        | exact ⟨_, _, rfl, rfl, r18.2.inv hI⟩
                        | exact ⟨_, _, rfl, rfl, r19.2.inv hI⟩
                        | exact ⟨_, _, rfl, rfl, r20.2.inv hI⟩
                        | exact ⟨_, _, rfl, rfl, r21.2.inv hI⟩
                        | exact ⟨_, _, rfl, rfl, r22.2.inv hI⟩
                        | exact ⟨_, _, rfl, rfl, r23.2.inv hI⟩
                        | exact ⟨_, _, rfl, rfl, r24.2.inv hI⟩
                        | exact ⟨_, _, rfl, rfl, r25.2.inv hI⟩
                        | exact ⟨_, _, rfl, rfl, r26.2.inv hI⟩
                        | exact ⟨_, _, rfl, rfl, r27.2.inv hI⟩
                        | exact ⟨_, _, rfl, rfl, r28.2.inv hI⟩
                        | exact ⟨_, _, rfl, rfl, r29.2.inv hI⟩
                        | exact ⟨_, _, rfl, rfl, r30.2.inv hI⟩
                        | exact ⟨_, _, rfl, rfl, r31.2.inv hI⟩
                        | exact ⟨_, _, rfl, rfl, r32.2.inv hI⟩
                        | exact ⟨_, _, rfl, rfl, r33.2.inv hI⟩
                        | exact ⟨_, _, rfl, rfl, r34.2.inv hI⟩
                        | exact ⟨_, _, rfl, rfl, r35.2.inv hI⟩
                        | exact ⟨_, _, rfl, rfl, r36.2.inv hI⟩
                        | exact ⟨_, _, rfl, rfl, r37.2.inv hI⟩
                        | exact ⟨_, _, rfl, rfl, r38.2.inv hI⟩
                        | exact ⟨_, _, rfl, rfl, r39.2.inv hI⟩
                        | exact ⟨_, _, rfl, rfl, r40.2.inv hI⟩
                        | exact ⟨_, _, rfl, rfl, r41.2.inv hI⟩
                        | exact ⟨_, _, rfl, rfl, r42.2.inv hI⟩
                        | exact ⟨_, _, rfl, rfl, r43.2.inv hI⟩
                        | exact ⟨_, _, rfl, rfl, r44.2.inv hI⟩
                        | exact ⟨_, _, rfl, rfl, r45.2.inv hI⟩
                        | exact ⟨_, _, rfl, rfl, r46.2.inv hI⟩
                        | exact ⟨_, _, rfl, rfl, r47.2.inv hI⟩
                        | exact ⟨_, _, rfl, rfl, r48.2.inv hI⟩
                        | exact ⟨_, _, rfl, rfl, r49.2.inv hI⟩
                        | exact ⟨_, _, rfl, rfl, r50.2.inv hI⟩
                        | exact ⟨_, _, rfl, rfl, r51.2.inv hI⟩
                        | exact ⟨_, _, rfl, rfl, r52.2.inv hI⟩
                        | exact ⟨_, _, rfl, rfl, r53.2.inv hI⟩
                        | exact ⟨_, _, rfl, rfl, r54.2.inv hI⟩
                        | exact ⟨_, _, rfl, rfl, r55.2.inv hI⟩
                        | exact ⟨_, _, rfl, rfl, r56.2.inv hI⟩
                        | exact ⟨_, _, rfl, rfl, r57.2.inv hI⟩
                        | exact ⟨_, _, rfl, rfl, r58.2.inv hI⟩
                        | exact ⟨_, _, rfl, rfl, r59.2.inv hI⟩
          · refine x_aload_n hm rfl rfl ?_
            refine x_ldc_wI hm rfl (v := (-1000003 : Int32)) (by decide) ?_
            refine x_cVi hm rfl rfl (t135 (by decide +kernel)) (fun v18 M18 r18 => ?_)
            refine x_iret hm rfl rfl (by first | rfl | exact bI_nar | decide) ?_
            first
              | exact ⟨_, _, rfl, rfl, r18.2.inv hI⟩
              | exact ⟨_, _, rfl, rfl, hI⟩
              | exact ⟨_, _, rfl, rfl, r1.2.inv hI⟩
              | exact ⟨_, _, rfl, rfl, r2.2.inv hI⟩
              | exact ⟨_, _, rfl, rfl, r3.2.inv hI⟩
              | exact ⟨_, _, rfl, rfl, r4.2.inv hI⟩
              | exact ⟨_, _, rfl, rfl, r5.2.inv hI⟩
              | exact ⟨_, _, rfl, rfl, r6.2.inv hI⟩
              | exact ⟨_, _, rfl, rfl, r7.2.inv hI⟩
              | exact ⟨_, _, rfl, rfl, r8.2.inv hI⟩
              | exact ⟨_, _, rfl, rfl, r9.2.inv hI⟩
              | exact ⟨_, _, rfl, rfl, r10.2.inv hI⟩
              | exact ⟨_, _, rfl, rfl, r11.2.inv hI⟩
              | exact ⟨_, _, rfl, rfl, r12.2.inv hI⟩
              | exact ⟨_, _, rfl, rfl, r13.2.inv hI⟩
              | exact ⟨_, _, rfl, rfl, r14.2.inv hI⟩
              | exact ⟨_, _, rfl, rfl, r15.2.inv hI⟩
              | exact ⟨_, _, rfl, rfl, r16.2.inv hI⟩
              | exact ⟨_, _, rfl, rfl, r17.2.inv hI⟩
              | exact ⟨_, _, rfl, rfl, r19.2.inv hI⟩
              | exact ⟨_, _, rfl, rfl, r20.2.inv hI⟩
              | exact ⟨_, _, rfl, rfl, r21.2.inv hI⟩
              | exact ⟨_, _, rfl, rfl, r22.2.inv hI⟩
              | exact ⟨_, _, rfl, rfl, r23.2.inv hI⟩
              | exact ⟨_, _, rfl, rfl, r24.2.inv hI⟩
              | exact ⟨_, _, rfl, rfl, r25.2.inv hI⟩
              | exact ⟨_, _, rfl, rfl, r26.2.inv hI⟩
              | exact ⟨_, _, rfl, rfl, r27.2.inv hI⟩
              | exact ⟨_, _, rfl, rfl, r28.2.inv hI⟩
              | exact ⟨_, _, rfl, rfl, r29.2.inv hI⟩
              | exact ⟨_, _, rfl, rfl, r30.2.inv hI⟩
              | exact ⟨_, _, rfl, rfl, r31.2.inv hI⟩
              | exact ⟨_, _, rfl, rfl, r32.2.inv hI⟩
              | exact ⟨_, _, rfl, rfl, r33.2.inv hI⟩
              | exact ⟨_, _, rfl, rfl, r34.2.inv hI⟩
              | exact ⟨_, _, rfl, rfl, r35.2.inv hI⟩
              | exact ⟨_, _, rfl, rfl, r36.2.inv hI⟩
              | exact ⟨_, _, rfl, rfl, r37.2.inv hI⟩
              | exact ⟨_, _, rfl, rfl, r38.2.inv hI⟩
              | exact ⟨_, _, rfl, rfl, r39.2.inv hI⟩
              | exact ⟨_, _, rfl, rfl, r40.2.inv hI⟩
              | exact ⟨_, _, rfl, rfl, r41.2.inv hI⟩
              | exact ⟨_, _, rfl, rfl, r42.2.inv hI⟩
              | exact ⟨_, _, rfl, rfl, r43.2.inv hI⟩
              | exact ⟨_, _, rfl, rfl, r44.2.inv hI⟩
              | exact ⟨_, _, rfl, rfl, r45.2.inv hI⟩
              | exact ⟨_, _, rfl, rfl, r46.2.inv hI⟩
              | exact ⟨_, _, rfl, rfl, r47.2.inv hI⟩
              | exact ⟨_, _, rfl, rfl, r48.2.inv hI⟩
              | exact ⟨_, _, rfl, rfl, r49.2.inv hI⟩
              | exact ⟨_, _, rfl, rfl, r50.2.inv hI⟩
              | exact ⟨_, _, rfl, rfl, r51.2.inv hI⟩
              | exact ⟨_, _, rfl, rfl, r52.2.inv hI⟩
              | exact ⟨_, _, rfl, rfl, r53.2.inv hI⟩
              | exact ⟨_, _, rfl, rfl, r54.2.inv hI⟩
              | exact ⟨_, _, rfl, rfl, r55.2.inv hI⟩
              | exact ⟨_, _, rfl, rfl, r56.2.inv hI⟩
              | exact ⟨_, _, rfl, rfl, r57.2.inv hI⟩
              | exact ⟨_, _, rfl, rfl, r58.2.inv hI⟩
              | exact ⟨_, _, rfl, rfl, r59.2.inv hI⟩
        · refine x_aload_n hm rfl rfl ?_
          refine x_ldcI hm rfl (v := (-1000006 : Int32)) (by decide +kernel) ?_
          refine x_cVi hm rfl rfl (t135 (by decide +kernel)) (fun v19 M19 r19 => ?_)
          refine x_iret hm rfl rfl (by first | rfl | exact bI_nar | decide) ?_
          first
            | exact ⟨_, _, rfl, rfl, r19.2.inv hI⟩
            | exact ⟨_, _, rfl, rfl, hI⟩
            | exact ⟨_, _, rfl, rfl, r1.2.inv hI⟩
            | exact ⟨_, _, rfl, rfl, r2.2.inv hI⟩
            | exact ⟨_, _, rfl, rfl, r3.2.inv hI⟩
            | exact ⟨_, _, rfl, rfl, r4.2.inv hI⟩
            | exact ⟨_, _, rfl, rfl, r5.2.inv hI⟩
            | exact ⟨_, _, rfl, rfl, r6.2.inv hI⟩
            | exact ⟨_, _, rfl, rfl, r7.2.inv hI⟩
            | exact ⟨_, _, rfl, rfl, r8.2.inv hI⟩
            | exact ⟨_, _, rfl, rfl, r9.2.inv hI⟩
            | exact ⟨_, _, rfl, rfl, r10.2.inv hI⟩
            | exact ⟨_, _, rfl, rfl, r11.2.inv hI⟩
            | exact ⟨_, _, rfl, rfl, r12.2.inv hI⟩
            | exact ⟨_, _, rfl, rfl, r13.2.inv hI⟩
            | exact ⟨_, _, rfl, rfl, r14.2.inv hI⟩
            | exact ⟨_, _, rfl, rfl, r15.2.inv hI⟩
            | exact ⟨_, _, rfl, rfl, r16.2.inv hI⟩
            | exact ⟨_, _, rfl, rfl, r17.2.inv hI⟩
            | exact ⟨_, _, rfl, rfl, r18.2.inv hI⟩
            | exact ⟨_, _, rfl, rfl, r20.2.inv hI⟩
            | exact ⟨_, _, rfl, rfl, r21.2.inv hI⟩
            | exact ⟨_, _, rfl, rfl, r22.2.inv hI⟩
            | exact ⟨_, _, rfl, rfl, r23.2.inv hI⟩
            | exact ⟨_, _, rfl, rfl, r24.2.inv hI⟩
            | exact ⟨_, _, rfl, rfl, r25.2.inv hI⟩
            | exact ⟨_, _, rfl, rfl, r26.2.inv hI⟩
            | exact ⟨_, _, rfl, rfl, r27.2.inv hI⟩
            | exact ⟨_, _, rfl, rfl, r28.2.inv hI⟩
            | exact ⟨_, _, rfl, rfl, r29.2.inv hI⟩
            | exact ⟨_, _, rfl, rfl, r30.2.inv hI⟩
            | exact ⟨_, _, rfl, rfl, r31.2.inv hI⟩
            | exact ⟨_, _, rfl, rfl, r32.2.inv hI⟩
            | exact ⟨_, _, rfl, rfl, r33.2.inv hI⟩
            | exact ⟨_, _, rfl, rfl, r34.2.inv hI⟩
            | exact ⟨_, _, rfl, rfl, r35.2.inv hI⟩
            | exact ⟨_, _, rfl, rfl, r36.2.inv hI⟩
            | exact ⟨_, _, rfl, rfl, r37.2.inv hI⟩
            | exact ⟨_, _, rfl, rfl, r38.2.inv hI⟩
            | exact ⟨_, _, rfl, rfl, r39.2.inv hI⟩
            | exact ⟨_, _, rfl, rfl, r40.2.inv hI⟩
            | exact ⟨_, _, rfl, rfl, r41.2.inv hI⟩
            | exact ⟨_, _, rfl, rfl, r42.2.inv hI⟩
            | exact ⟨_, _, rfl, rfl, r43.2.inv hI⟩
            | exact ⟨_, _, rfl, rfl, r44.2.inv hI⟩
            | exact ⟨_, _, rfl, rfl, r45.2.inv hI⟩
            | exact ⟨_, _, rfl, rfl, r46.2.inv hI⟩
            | exact ⟨_, _, rfl, rfl, r47.2.inv hI⟩
            | exact ⟨_, _, rfl, rfl, r48.2.inv hI⟩
            | exact ⟨_, _, rfl, rfl, r49.2.inv hI⟩
            | exact ⟨_, _, rfl, rfl, r50.2.inv hI⟩
            | exact ⟨_, _, rfl, rfl, r51.2.inv hI⟩
            | exact ⟨_, _, rfl, rfl, r52.2.inv hI⟩
            | exact ⟨_, _, rfl, rfl, r53.2.inv hI⟩
            | exact ⟨_, _, rfl, rfl, r54.2.inv hI⟩
            | exact ⟨_, _, rfl, rfl, r55.2.inv hI⟩
            | exact ⟨_, _, rfl, rfl, r56.2.inv hI⟩
            | exact ⟨_, _, rfl, rfl, r57.2.inv hI⟩
            | exact ⟨_, _, rfl, rfl, r58.2.inv hI⟩
            | exact ⟨_, _, rfl, rfl, r59.2.inv hI⟩
    · refine x_aload_n hm rfl rfl ?_
      refine x_ldcI hm rfl (v := (-1000001 : Int32)) (by decide +kernel) ?_
      refine x_cVi hm rfl rfl (t135 (by decide +kernel)) (fun v20 M20 r20 => ?_)
      refine x_iret hm rfl rfl (by first | rfl | exact bI_nar | decide) ?_
      first
        | exact ⟨_, _, rfl, rfl, r20.2.inv hI⟩
        | exact ⟨_, _, rfl, rfl, hI⟩
        | exact ⟨_, _, rfl, rfl, r1.2.inv hI⟩
        | exact ⟨_, _, rfl, rfl, r2.2.inv hI⟩
        | exact ⟨_, _, rfl, rfl, r3.2.inv hI⟩
        | exact ⟨_, _, rfl, rfl, r4.2.inv hI⟩
        | exact ⟨_, _, rfl, rfl, r5.2.inv hI⟩
        | exact ⟨_, _, rfl, rfl, r6.2.inv hI⟩
        | exact ⟨_, _, rfl, rfl, r7.2.inv hI⟩
        | exact ⟨_, _, rfl, rfl, r8.2.inv hI⟩
        | exact ⟨_, _, rfl, rfl, r9.2.inv hI⟩
        | exact ⟨_, _, rfl, rfl, r10.2.inv hI⟩
        | exact ⟨_, _, rfl, rfl, r11.2.inv hI⟩
        | exact ⟨_, _, rfl, rfl, r12.2.inv hI⟩
        | exact ⟨_, _, rfl, rfl, r13.2.inv hI⟩
        | exact ⟨_, _, rfl, rfl, r14.2.inv hI⟩
        | exact ⟨_, _, rfl, rfl, r15.2.inv hI⟩
        | exact ⟨_, _, rfl, rfl, r16.2.inv hI⟩
        | exact ⟨_, _, rfl, rfl, r17.2.inv hI⟩
        | exact ⟨_, _, rfl, rfl, r18.2.inv hI⟩
        | exact ⟨_, _, rfl, rfl, r19.2.inv hI⟩
        | exact ⟨_, _, rfl, rfl, r21.2.inv hI⟩
        | exact ⟨_, _, rfl, rfl, r22.2.inv hI⟩
        | exact ⟨_, _, rfl, rfl, r23.2.inv hI⟩
        | exact ⟨_, _, rfl, rfl, r24.2.inv hI⟩
        | exact ⟨_, _, rfl, rfl, r25.2.inv hI⟩
        | exact ⟨_, _, rfl, rfl, r26.2.inv hI⟩
        | exact ⟨_, _, rfl, rfl, r27.2.inv hI⟩
        | exact ⟨_, _, rfl, rfl, r28.2.inv hI⟩
        | exact ⟨_, _, rfl, rfl, r29.2.inv hI⟩
        | exact ⟨_, _, rfl, rfl, r30.2.inv hI⟩
        | exact ⟨_, _, rfl, rfl, r31.2.inv hI⟩
        | exact ⟨_, _, rfl, rfl, r32.2.inv hI⟩
        | exact ⟨_, _, rfl, rfl, r33.2.inv hI⟩
        | exact ⟨_, _, rfl, rfl, r34.2.inv hI⟩
        | exact ⟨_, _, rfl, rfl, r35.2.inv hI⟩
        | exact ⟨_, _, rfl, rfl, r36.2.inv hI⟩
        | exact ⟨_, _, rfl, rfl, r37.2.inv hI⟩
        | exact ⟨_, _, rfl, rfl, r38.2.inv hI⟩
        | exact ⟨_, _, rfl, rfl, r39.2.inv hI⟩
        | exact ⟨_, _, rfl, rfl, r40.2.inv hI⟩
        | exact ⟨_, _, rfl, rfl, r41.2.inv hI⟩
        | exact ⟨_, _, rfl, rfl, r42.2.inv hI⟩
        | exact ⟨_, _, rfl, rfl, r43.2.inv hI⟩
        | exact ⟨_, _, rfl, rfl, r44.2.inv hI⟩
        | exact ⟨_, _, rfl, rfl, r45.2.inv hI⟩
        | exact ⟨_, _, rfl, rfl, r46.2.inv hI⟩
        | exact ⟨_, _, rfl, rfl, r47.2.inv hI⟩
        | exact ⟨_, _, rfl, rfl, r48.2.inv hI⟩
        | exact ⟨_, _, rfl, rfl, r49.2.inv hI⟩
        | exact ⟨_, _, rfl, rfl, r50.2.inv hI⟩
        | exact ⟨_, _, rfl, rfl, r51.2.inv hI⟩
        | exact ⟨_, _, rfl, rfl, r52.2.inv hI⟩
        | exact ⟨_, _, rfl, rfl, r53.2.inv hI⟩
        | exact ⟨_, _, rfl, rfl, r54.2.inv hI⟩
        | exact ⟨_, _, rfl, rfl, r55.2.inv hI⟩
        | exact ⟨_, _, rfl, rfl, r56.2.inv hI⟩
        | exact ⟨_, _, rfl, rfl, r57.2.inv hI⟩
        | exact ⟨_, _, rfl, rfl, r58.2.inv hI⟩
        | exact ⟨_, _, rfl, rfl, r59.2.inv hI⟩
end RQ
