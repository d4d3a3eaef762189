section SX
variable {X : mSc} {Q : Option Value → mHp → Prop} {M : mM} {s : Nat}
theorem v234 {a2 a3 w : Int32} (hs : s ≤ 3) : ∀ (n k : Nat) (M1 : mM), 40 - k < n → k ≤ 40 → Sf M M1 → M1 77 s = w → mEv X (QI (fun v M' => v = w ∧ Sf M M')) 234 86 [some (.ref 66), some (.int (nI s)), some (.int a2), some (.int a3), some (.int (nI k))] [] (con M1) := by
  have hm : mMet 234 = some _ := rfl
  intro n
  induction n with
  | zero =>
    intro k M1 hkn hkb hS hw
    omega
  | succ n ih =>
    intro k M1 hkn hkb hS hw
    refine x_iload hm rfl rfl ?_
    refine x_bipush hm rfl (v := nI 40) (by decide) ?_
    refine x_icmp_ge hm rfl (t := 112) rfl (fun h1 => ?_) (fun h1 => ?_)
    · refine x_aload_n hm rfl rfl ?_
      refine x_getf hm rfl (gR rfl rfl) ?_
      refine x_iload_n hm rfl rfl ?_
      refine x_iald hm rfl (lI rfl (by omega) (by decide)) ?_
      refine x_iret hm rfl rfl (by first | rfl | exact bI_nar | decide) ?_
      exact ⟨_, _, rfl, rfl, hw, hS⟩
    · have hk : k < 40 := Nat.lt_of_not_le fun h => h1 (nI_le h (by omega))
      refine x_aload_n hm rfl rfl ?_
      refine x_getf hm rfl (gR rfl rfl) ?_
      refine x_bipush hm rfl (v := nI 40) (by decide) ?_
      refine x_iload_n hm rfl rfl ?_
      refine x_imul hm rfl ?_
      rw [jI_mul]
      refine x_iload hm rfl rfl ?_
      refine x_iadd hm rfl ?_
      rw [jI_add]
      refine x_iconst hm rfl (v := nI 0) (by decide) ?_
      refine x_iast hm rfl (sI rfl (by omega) (by decide)) ?_
      refine x_iinc hm rfl rfl (v := nI 1) (by decide) rfl ?_
      rw [jI_add]
      refine x_goto hm rfl (t := 86) rfl ?_
      exact ih _ _ (by omega) (by omega) (hS.trans Sf.w78) ((mpn (by omega)).trans hw)
theorem u234e {z : Nat} {a2 : Int32} (hI : Inv M) (hs : s ≤ 3) (hz : z ≤ 40) : mEv X (QI (fun v M' => v = (if a2 = 0 then nI 0 else nI z) ∧ Inv M')) 234 61 [some (.ref 66), some (.int (nI s)), some (.int a2), some (.int (nI z)), none] [] (con M) := by
  have hm : mMet 234 = some _ := rfl
  refine x_aload_n hm rfl rfl ?_
  refine x_getf hm rfl (gR rfl rfl) ?_
  refine x_iload_n hm rfl rfl ?_
  refine x_iload_n hm rfl rfl ?_
  refine x_iast hm rfl (sI rfl (by omega) (by decide)) ?_
  refine x_aload_n hm rfl rfl ?_
  refine x_getf hm rfl (gR rfl rfl) ?_
  refine x_iload_n hm rfl rfl ?_
  refine x_iload_n hm rfl rfl ?_
  refine x_if_ne hm rfl (t := 81) rfl (fun h1 => ?_) (fun h1 => ?_)
  · have hv : nI z = if a2 = 0 then nI 0 else nI z := (if_neg h1).symm
    refine x_iload_n hm rfl rfl ?_
    refine x_iast hm rfl (sI rfl (by omega) (by decide)) ?_
    refine x_iconst hm rfl (v := nI 0) (by decide) ?_
    refine x_istore hm rfl rfl ?_
    exact ev_mono (v234 hs _ 0 _ (Nat.lt_succ_self _) (Nat.zero_le _) (Sf.w76.trans (Sf.w77 (okI5 (by omega)))) mp0) (fun r D ⟨v, M2, g1, g2, g3, g4⟩ => ⟨v, M2, g1, g2, g3.trans hv, g4.inv hI⟩)
  · have hv : nI 0 = if a2 = 0 then nI 0 else nI z := (if_pos h1).symm
    refine x_iconst hm rfl (v := nI 0) (by decide) ?_
    refine x_goto hm rfl (t := 82) rfl ?_
    refine x_iast hm rfl (sI rfl (by omega) (by decide)) ?_
    refine x_iconst hm rfl (v := nI 0) (by decide) ?_
    refine x_istore hm rfl rfl ?_
    exact ev_mono (v234 hs _ 0 _ (Nat.lt_succ_self _) (Nat.zero_le _) (Sf.w76.trans (Sf.w77 (okI5 (by omega)))) mp0) (fun r D ⟨v, M2, g1, g2, g3, g4⟩ => ⟨v, M2, g1, g2, g3.trans hv, g4.inv hI⟩)
theorem u234 {a1 a2 a3 : Int32} (hI : Inv M) : ∃ v M', mT X 234 [.ref 66, .int a1, .int a2, .int a3] (con M) (some (.int v)) (con M') ∧ v = shS a1 a2 a3 ∧ Inv M' := by
  refine ti_of (row := _) rfl (Nat.le_of_ble_eq_true rfl) ?_
  have hm : mMet 234 = some _ := rfl
  refine x_iload_n hm rfl rfl ?_
  refine x_callS hm rfl rfl (t210) ?_
  refine x_if_eq hm rfl (t := 29) rfl (fun h1 => ?_) (fun h1 => ?_)
  · refine x_aload_n hm rfl rfl ?_
    refine x_ldcI hm rfl (v := (-1000001 : Int32)) (by decide +kernel) ?_
    refine x_cVi hm rfl rfl (t135 (by decide +kernel)) (fun v2 M2 r2 => ?_)
    refine x_iret hm rfl rfl (by first | rfl | exact bI_nar | decide) ?_
    first
      | exact ⟨_, _, rfl, rfl, r2.1.trans (shA h1), r2.2.inv hI⟩
      | exact ⟨_, _, rfl, rfl, r2.1.trans (shB h1 (okb_f (by assumption) (by assumption) (by assumption) (by assumption))), r2.2.inv hI⟩
      | exact ⟨_, _, rfl, rfl, r1.1.trans (shA h1), r1.2.inv hI⟩
      | exact ⟨_, _, rfl, rfl, r1.1.trans (shB h1 (okb_f (by assumption) (by assumption) (by assumption) (by assumption))), r1.2.inv hI⟩
      | exact ⟨_, _, rfl, rfl, r3.1.trans (shA h1), r3.2.inv hI⟩
      | exact ⟨_, _, rfl, rfl, r3.1.trans (shB h1 (okb_f (by assumption) (by assumption) (by assumption) (by assumption))), r3.2.inv hI⟩
      | exact ⟨_, _, rfl, rfl, r4.1.trans (shA h1), r4.2.inv hI⟩
      | exact ⟨_, _, rfl, rfl, r4.1.trans (shB h1 (okb_f (by assumption) (by assumption) (by assumption) (by assumption))), r4.2.inv hI⟩
      | exact ⟨_, _, rfl, rfl, r5.1.trans (shA h1), r5.2.inv hI⟩
      | exact ⟨_, _, rfl, rfl, r5.1.trans (shB h1 (okb_f (by assumption) (by assumption) (by assumption) (by assumption))), r5.2.inv hI⟩
      | exact ⟨_, _, rfl, rfl, r6.1.trans (shA h1), r6.2.inv hI⟩
      | exact ⟨_, _, rfl, rfl, r6.1.trans (shB h1 (okb_f (by assumption) (by assumption) (by assumption) (by assumption))), r6.2.inv hI⟩
      | exact ⟨_, _, rfl, rfl, r7.1.trans (shA h1), r7.2.inv hI⟩
      | exact ⟨_, _, rfl, rfl, r7.1.trans (shB h1 (okb_f (by assumption) (by assumption) (by assumption) (by assumption))), r7.2.inv hI⟩
      | exact ⟨_, _, rfl, rfl, r8.1.trans (shA h1), r8.2.inv hI⟩
      | exact ⟨_, _, rfl, rfl, r8.1.trans (shB h1 (okb_f (by assumption) (by assumption) (by assumption) (by assumption))), r8.2.inv hI⟩
      | exact ⟨_, _, rfl, rfl, r9.1.trans (shA h1), r9.2.inv hI⟩
      | exact ⟨_, _, rfl, rfl, r9.1.trans (shB h1 (okb_f (by assumption) (by assumption) (by assumption) (by assumption))), r9.2.inv hI⟩
      | exact ⟨_, _, rfl, rfl, r10.1.trans (shA h1), r10.2.inv hI⟩
      | exact ⟨_, _, rfl, rfl, r10.1.trans (shB h1 (okb_f (by assumption) (by assumption) (by assumption) (by assumption))), r10.2.inv hI⟩
      | exact ⟨_, _, rfl, rfl, r11.1.trans (shA h1), r11.2.inv hI⟩
      | exact ⟨_, _, rfl, rfl, r11.1.trans (shB h1 (okb_f (by assumption) (by assumption) (by assumption) (by assumption))), r11.2.inv hI⟩
      | exact ⟨_, _, rfl, rfl, r12.1.trans (shA h1), r12.2.inv hI⟩
      | exact ⟨_, _, rfl, rfl, r12.1.trans (shB h1 (okb_f (by assumption) (by assumption) (by assumption) (by assumption))), r12.2.inv hI⟩
      | exact ⟨_, _, rfl, rfl, r13.1.trans (shA h1), r13.2.inv hI⟩
      | exact ⟨_, _, rfl, rfl, r13.1.trans (shB h1 (okb_f (by assumption) (by assumption) (by assumption) (by assumption))), r13.2.inv hI⟩
      | exact ⟨_, _, rfl, rfl, r14.1.trans (shA h1), r14.2.inv hI⟩
      | exact ⟨_, _, rfl, rfl, r14.1.trans (shB h1 (okb_f (by assumption) (by assumption) (by assumption) (by assumption))), r14.2.inv hI⟩
      | exact ⟨_, _, rfl, rfl, r15.1.trans (shA h1), r15.2.inv hI⟩
      | exact ⟨_, _, rfl, rfl, r15.1.trans (shB h1 (okb_f (by assumption) (by assumption) (by assumption) (by assumption))), r15.2.inv hI⟩
      | exact ⟨_, _, rfl, rfl, r16.1.trans (shA h1), r16.2.inv hI⟩
      | exact ⟨_, _, rfl, rfl, r16.1.trans (shB h1 (okb_f (by assumption) (by assumption) (by assumption) (by assumption))), r16.2.inv hI⟩
      | exact ⟨_, _, rfl, rfl, r17.1.trans (shA h1), r17.2.inv hI⟩
      | exact ⟨_, _, rfl, rfl, r17.1.trans (shB h1 (okb_f (by assumption) (by assumption) (by assumption) (by assumption))), r17.2.inv hI⟩
      | exact ⟨_, _, rfl, rfl, r18.1.trans (shA h1), r18.2.inv hI⟩
      | exact ⟨_, _, rfl, rfl, r18.1.trans (shB h1 (okb_f (by assumption) (by assumption) (by assumption) (by assumption))), r18.2.inv hI⟩
      | exact ⟨_, _, rfl, rfl, r19.1.trans (shA h1), r19.2.inv hI⟩
      | exact ⟨_, _, rfl, rfl, r19.1.trans (shB h1 (okb_f (by assumption) (by assumption) (by assumption) (by assumption))), r19.2.inv hI⟩
      | exact ⟨_, _, rfl, rfl, r20.1.trans (shA h1), r20.2.inv hI⟩
      | exact ⟨_, _, rfl, rfl, r20.1.trans (shB h1 (okb_f (by assumption) (by assumption) (by assumption) (by assumption))), r20.2.inv hI⟩
      | exact ⟨_, _, rfl, rfl, r21.1.trans (shA h1), r21.2.inv hI⟩
      | exact ⟨_, _, rfl, rfl, r21.1.trans (shB h1 (okb_f (by assumption) (by assumption) (by assumption) (by assumption))), r21.2.inv hI⟩
      | exact ⟨_, _, rfl, rfl, r22.1.trans (shA h1), r22.2.inv hI⟩
      | exact ⟨_, _, rfl, rfl, r22.1.trans (shB h1 (okb_f (by assumption) (by assumption) (by assumption) (by assumption))), r22.2.inv hI⟩
      | exact ⟨_, _, rfl, rfl, r23.1.trans (shA h1), r23.2.inv hI⟩
      | exact ⟨_, _, rfl, rfl, r23.1.trans (shB h1 (okb_f (by assumption) (by assumption) (by assumption) (by assumption))), r23.2.inv hI⟩
      | exact ⟨_, _, rfl, rfl, r24.1.trans (shA h1), r24.2.inv hI⟩
      | exact ⟨_, _, rfl, rfl, r24.1.trans (shB h1 (okb_f (by assumption) (by assumption) (by assumption) (by assumption))), r24.2.inv hI⟩
      | exact ⟨_, _, rfl, rfl, r25.1.trans (shA h1), r25.2.inv hI⟩
      | exact ⟨_, _, rfl, rfl, r25.1.trans (shB h1 (okb_f (by assumption) (by assumption) (by assumption) (by assumption))), r25.2.inv hI⟩
      | exact ⟨_, _, rfl, rfl, r26.1.trans (shA h1), r26.2.inv hI⟩
      | exact ⟨_, _, rfl, rfl, r26.1.trans (shB h1 (okb_f (by assumption) (by assumption) (by assumption) (by assumption))), r26.2.inv hI⟩
      | exact ⟨_, _, rfl, rfl, r27.1.trans (shA h1), r27.2.inv hI⟩
      | exact ⟨_, _, rfl, rfl, r27.1.trans (shB h1 (okb_f (by assumption) (by assumption) (by assumption) (by assumption))), r27.2.inv hI⟩
      | exact ⟨_, _, rfl, rfl, r28.1.trans (shA h1), r28.2.inv hI⟩
      | exact ⟨_, _, rfl, rfl, r28.1.trans (shB h1 (okb_f (by assumption) (by assumption) (by assumption) (by assumption))), r28.2.inv hI⟩
      | exact ⟨_, _, rfl, rfl, r29.1.trans (shA h1), r29.2.inv hI⟩
      | exact ⟨_, _, rfl, rfl, r29.1.trans (shB h1 (okb_f (by assumption) (by assumption) (by assumption) (by assumption))), r29.2.inv hI⟩
      | exact ⟨_, _, rfl, rfl, r30.1.trans (shA h1), r30.2.inv hI⟩
      | exact ⟨_, _, rfl, rfl, r30.1.trans (shB h1 (okb_f (by assumption) (by assumption) (by assumption) (by assumption))), r30.2.inv hI⟩
      | exact ⟨_, _, rfl, rfl, r31.1.trans (shA h1), r31.2.inv hI⟩
      | exact ⟨_, _, rfl, rfl, r31.1.trans (shB h1 (okb_f (by assumption) (by assumption) (by assumption) (by assumption))), r31.2.inv hI⟩
      | exact ⟨_, _, rfl, rfl, r32.1.trans (shA h1), r32.2.inv hI⟩
      | exact ⟨_, _, rfl, rfl, r32.1.trans (shB h1 (okb_f (by assumption) (by assumption) (by assumption) (by assumption))), r32.2.inv hI⟩
      | exact ⟨_, _, rfl, rfl, r33.1.trans (shA h1), r33.2.inv hI⟩
      | exact ⟨_, _, rfl, rfl, r33.1.trans (shB h1 (okb_f (by assumption) (by assumption) (by assumption) (by assumption))), r33.2.inv hI⟩
      | exact ⟨_, _, rfl, rfl, r34.1.trans (shA h1), r34.2.inv hI⟩
      | exact ⟨_, _, rfl, rfl, r34.1.trans (shB h1 (okb_f (by assumption) (by assumption) (by assumption) (by assumption))), r34.2.inv hI⟩
      | exact ⟨_, _, rfl, rfl, r35.1.trans (shA h1), r35.2.inv hI⟩
      | exact ⟨_, _, rfl, rfl, r35.1.trans (shB h1 (okb_f (by assumption) (by assumption) (by assumption) (by assumption))), r35.2.inv hI⟩
      | exact ⟨_, _, rfl, rfl, r36.1.trans (shA h1), r36.2.inv hI⟩
      | exact ⟨_, _, rfl, rfl, r36.1.trans (shB h1 (okb_f (by assumption) (by assumption) (by assumption) (by assumption))), r36.2.inv hI⟩
      | exact ⟨_, _, rfl, rfl, r37.1.trans (shA h1), r37.2.inv hI⟩
      | exact ⟨_, _, rfl, rfl, r37.1.trans (shB h1 (okb_f (by assumption) (by assumption) (by assumption) (by assumption))), r37.2.inv hI⟩
      | exact ⟨_, _, rfl, rfl, r38.1.trans (shA h1), r38.2.inv hI⟩
      | exact ⟨_, _, rfl, rfl, r38.1.trans (shB h1 (okb_f (by assumption) (by assumption) (by assumption) (by assumption))), r38.2.inv hI⟩
      | exact ⟨_, _, rfl, rfl, r39.1.trans (shA h1), r39.2.inv hI⟩
      | exact ⟨_, _, rfl, rfl, r39.1.trans (shB h1 (okb_f (by assumption) (by assumption) (by assumption) (by assumption))), r39.2.inv hI⟩
  · refine x_iload_n hm rfl rfl ?_
    refine x_if_eq hm rfl (t := 36) rfl (fun h3 => ?_) (fun h3 => ?_)
    · have hb := okb_t (Or.inl h3)
      refine x_iload_n hm rfl rfl ?_
      refine x_if_ge hm rfl (t := 48) rfl (fun h4 => ?_) (fun h4 => ?_)
      · have hn0 := h4
        refine x_iload_n hm rfl rfl ?_
        refine x_bipush hm rfl (v := nI 40) (by decide) ?_
        refine x_icmp_le hm rfl (t := 61) rfl (fun h5 => ?_) (fun h5 => ?_)
        · have hn4 := h5
          obtain ⟨z, hz, hz3⟩ : ∃ z, z ≤ 40 ∧ a3 = nI z := by
            obtain ⟨z, hz, e⟩ := jI_of (v := a3) (fun q => Int32.not_lt.mpr hn0 q)
            exact ⟨z, (jI_le hz (by decide)).mp (by rw [← e]; exact hn4), e⟩
          obtain ⟨s, hs, hs3⟩ := le_k (by omega) (bI_ne0 h1)
          subst hz3
          subst hs3
          exact ev_mono (u234e hI hs hz) (fun r D ⟨v, M2, g1, g2, g3, g4⟩ => ⟨v, M2, g1, g2, g3.trans (shE h1 hb hn0 hn4), g4⟩)
        · refine x_aload_n hm rfl rfl ?_
          refine x_ldcI hm rfl (v := (-1000001 : Int32)) (by decide +kernel) ?_
          refine x_cVi hm rfl rfl (t135 (by decide +kernel)) (fun v6 M6 r6 => ?_)
          refine x_iret hm rfl rfl (by first | rfl | exact bI_nar | decide) ?_
          first
            | exact ⟨_, _, rfl, rfl, r6.1.trans (shD h1 hb hn0 (by assumption)), r6.2.inv hI⟩
            | exact ⟨_, _, rfl, rfl, r1.1.trans (shD h1 hb hn0 (by assumption)), r1.2.inv hI⟩
            | exact ⟨_, _, rfl, rfl, r2.1.trans (shD h1 hb hn0 (by assumption)), r2.2.inv hI⟩
            | exact ⟨_, _, rfl, rfl, r3.1.trans (shD h1 hb hn0 (by assumption)), r3.2.inv hI⟩
            | exact ⟨_, _, rfl, rfl, r4.1.trans (shD h1 hb hn0 (by assumption)), r4.2.inv hI⟩
            | exact ⟨_, _, rfl, rfl, r5.1.trans (shD h1 hb hn0 (by assumption)), r5.2.inv hI⟩
            | exact ⟨_, _, rfl, rfl, r7.1.trans (shD h1 hb hn0 (by assumption)), r7.2.inv hI⟩
            | exact ⟨_, _, rfl, rfl, r8.1.trans (shD h1 hb hn0 (by assumption)), r8.2.inv hI⟩
            | exact ⟨_, _, rfl, rfl, r9.1.trans (shD h1 hb hn0 (by assumption)), r9.2.inv hI⟩
            | exact ⟨_, _, rfl, rfl, r10.1.trans (shD h1 hb hn0 (by assumption)), r10.2.inv hI⟩
            | exact ⟨_, _, rfl, rfl, r11.1.trans (shD h1 hb hn0 (by assumption)), r11.2.inv hI⟩
            | exact ⟨_, _, rfl, rfl, r12.1.trans (shD h1 hb hn0 (by assumption)), r12.2.inv hI⟩
            | exact ⟨_, _, rfl, rfl, r13.1.trans (shD h1 hb hn0 (by assumption)), r13.2.inv hI⟩
            | exact ⟨_, _, rfl, rfl, r14.1.trans (shD h1 hb hn0 (by assumption)), r14.2.inv hI⟩
            | exact ⟨_, _, rfl, rfl, r15.1.trans (shD h1 hb hn0 (by assumption)), r15.2.inv hI⟩
            | exact ⟨_, _, rfl, rfl, r16.1.trans (shD h1 hb hn0 (by assumption)), r16.2.inv hI⟩
            | exact ⟨_, _, rfl, rfl, r17.1.trans (shD h1 hb hn0 (by assumption)), r17.2.inv hI⟩
            | exact ⟨_, _, rfl, rfl, r18.1.trans (shD h1 hb hn0 (by assumption)), r18.2.inv hI⟩
            | exact ⟨_, _, rfl, rfl, r19.1.trans (shD h1 hb hn0 (by assumption)), r19.2.inv hI⟩
            | exact ⟨_, _, rfl, rfl, r20.1.trans (shD h1 hb hn0 (by assumption)), r20.2.inv hI⟩
            | exact ⟨_, _, rfl, rfl, r21.1.trans (shD h1 hb hn0 (by assumption)), r21.2.inv hI⟩
            | exact ⟨_, _, rfl, rfl, r22.1.trans (shD h1 hb hn0 (by assumption)), r22.2.inv hI⟩
            | exact ⟨_, _, rfl, rfl, r23.1.trans (shD h1 hb hn0 (by assumption)), r23.2.inv hI⟩
            | exact ⟨_, _, rfl, rfl, r24.1.trans (shD h1 hb hn0 (by assumption)), r24.2.inv hI⟩
            | exact ⟨_, _, rfl, rfl, r25.1.trans (shD h1 hb hn0 (by assumption)), r25.2.inv hI⟩
            | exact ⟨_, _, rfl, rfl, r26.1.trans (shD h1 hb hn0 (by assumption)), r26.2.inv hI⟩
            | exact ⟨_, _, rfl, rfl, r27.1.trans (shD h1 hb hn0 (by assumption)), r27.2.inv hI⟩
            | exact ⟨_, _, rfl, rfl, r28.1.trans (shD h1 hb hn0 (by assumption)), r28.2.inv hI⟩
            | exact ⟨_, _, rfl, rfl, r29.1.trans (shD h1 hb hn0 (by assumption)), r29.2.inv hI⟩
            | exact ⟨_, _, rfl, rfl, r30.1.trans (shD h1 hb hn0 (by assumption)), r30.2.inv hI⟩
            | exact ⟨_, _, rfl, rfl, r31.1.trans (shD h1 hb hn0 (by assumption)), r31.2.inv hI⟩
            | exact ⟨_, _, rfl, rfl, r32.1.trans (shD h1 hb hn0 (by assumption)), r32.2.inv hI⟩
            | exact ⟨_, _, rfl, rfl, r33.1.trans (shD h1 hb hn0 (by assumption)), r33.2.inv hI⟩
            | exact ⟨_, _, rfl, rfl, r34.1.trans (shD h1 hb hn0 (by assumption)), r34.2.inv hI⟩
            | exact ⟨_, _, rfl, rfl, r35.1.trans (shD h1 hb hn0 (by assumption)), r35.2.inv hI⟩
            | exact ⟨_, _, rfl, rfl, r36.1.trans (shD h1 hb hn0 (by assumption)), r36.2.inv hI⟩
            | exact ⟨_, _, rfl, rfl, r37.1.trans (shD h1 hb hn0 (by assumption)), r37.2.inv hI⟩
            | exact ⟨_, _, rfl, rfl, r38.1.trans (shD h1 hb hn0 (by assumption)), r38.2.inv hI⟩
            | exact ⟨_, _, rfl, rfl, r39.1.trans (shD h1 hb hn0 (by assumption)), r39.2.inv hI⟩
      · refine x_aload_n hm rfl rfl ?_
        refine x_ldc_wI hm rfl (v := (-1000007 : Int32)) (by decide) ?_
        refine x_cVi hm rfl rfl (t135 (by decide +kernel)) (fun v7 M7 r7 => ?_)
        refine x_iret hm rfl rfl (by first | rfl | exact bI_nar | decide) ?_
        first
          | exact ⟨_, _, rfl, rfl, r7.1.trans (shC h1 hb (by assumption)), r7.2.inv hI⟩
          | exact ⟨_, _, rfl, rfl, r1.1.trans (shC h1 hb (by assumption)), r1.2.inv hI⟩
          | exact ⟨_, _, rfl, rfl, r2.1.trans (shC h1 hb (by assumption)), r2.2.inv hI⟩
          | exact ⟨_, _, rfl, rfl, r3.1.trans (shC h1 hb (by assumption)), r3.2.inv hI⟩
          | exact ⟨_, _, rfl, rfl, r4.1.trans (shC h1 hb (by assumption)), r4.2.inv hI⟩
          | exact ⟨_, _, rfl, rfl, r5.1.trans (shC h1 hb (by assumption)), r5.2.inv hI⟩
          | exact ⟨_, _, rfl, rfl, r6.1.trans (shC h1 hb (by assumption)), r6.2.inv hI⟩
          | exact ⟨_, _, rfl, rfl, r8.1.trans (shC h1 hb (by assumption)), r8.2.inv hI⟩
          | exact ⟨_, _, rfl, rfl, r9.1.trans (shC h1 hb (by assumption)), r9.2.inv hI⟩
          | exact ⟨_, _, rfl, rfl, r10.1.trans (shC h1 hb (by assumption)), r10.2.inv hI⟩
          | exact ⟨_, _, rfl, rfl, r11.1.trans (shC h1 hb (by assumption)), r11.2.inv hI⟩
          | exact ⟨_, _, rfl, rfl, r12.1.trans (shC h1 hb (by assumption)), r12.2.inv hI⟩
          | exact ⟨_, _, rfl, rfl, r13.1.trans (shC h1 hb (by assumption)), r13.2.inv hI⟩
          | exact ⟨_, _, rfl, rfl, r14.1.trans (shC h1 hb (by assumption)), r14.2.inv hI⟩
          | exact ⟨_, _, rfl, rfl, r15.1.trans (shC h1 hb (by assumption)), r15.2.inv hI⟩
          | exact ⟨_, _, rfl, rfl, r16.1.trans (shC h1 hb (by assumption)), r16.2.inv hI⟩
          | exact ⟨_, _, rfl, rfl, r17.1.trans (shC h1 hb (by assumption)), r17.2.inv hI⟩
          | exact ⟨_, _, rfl, rfl, r18.1.trans (shC h1 hb (by assumption)), r18.2.inv hI⟩
          | exact ⟨_, _, rfl, rfl, r19.1.trans (shC h1 hb (by assumption)), r19.2.inv hI⟩
          | exact ⟨_, _, rfl, rfl, r20.1.trans (shC h1 hb (by assumption)), r20.2.inv hI⟩
          | exact ⟨_, _, rfl, rfl, r21.1.trans (shC h1 hb (by assumption)), r21.2.inv hI⟩
          | exact ⟨_, _, rfl, rfl, r22.1.trans (shC h1 hb (by assumption)), r22.2.inv hI⟩
          | exact ⟨_, _, rfl, rfl, r23.1.trans (shC h1 hb (by assumption)), r23.2.inv hI⟩
          | exact ⟨_, _, rfl, rfl, r24.1.trans (shC h1 hb (by assumption)), r24.2.inv hI⟩
          | exact ⟨_, _, rfl, rfl, r25.1.trans (shC h1 hb (by assumption)), r25.2.inv hI⟩
          | exact ⟨_, _, rfl, rfl, r26.1.trans (shC h1 hb (by assumption)), r26.2.inv hI⟩
          | exact ⟨_, _, rfl, rfl, r27.1.trans (shC h1 hb (by assumption)), r27.2.inv hI⟩
          | exact ⟨_, _, rfl, rfl, r28.1.trans (shC h1 hb (by assumption)), r28.2.inv hI⟩
          | exact ⟨_, _, rfl, rfl, r29.1.trans (shC h1 hb (by assumption)), r29.2.inv hI⟩
          | exact ⟨_, _, rfl, rfl, r30.1.trans (shC h1 hb (by assumption)), r30.2.inv hI⟩
          | exact ⟨_, _, rfl, rfl, r31.1.trans (shC h1 hb (by assumption)), r31.2.inv hI⟩
          | exact ⟨_, _, rfl, rfl, r32.1.trans (shC h1 hb (by assumption)), r32.2.inv hI⟩
          | exact ⟨_, _, rfl, rfl, r33.1.trans (shC h1 hb (by assumption)), r33.2.inv hI⟩
          | exact ⟨_, _, rfl, rfl, r34.1.trans (shC h1 hb (by assumption)), r34.2.inv hI⟩
          | exact ⟨_, _, rfl, rfl, r35.1.trans (shC h1 hb (by assumption)), r35.2.inv hI⟩
          | exact ⟨_, _, rfl, rfl, r36.1.trans (shC h1 hb (by assumption)), r36.2.inv hI⟩
          | exact ⟨_, _, rfl, rfl, r37.1.trans (shC h1 hb (by assumption)), r37.2.inv hI⟩
          | exact ⟨_, _, rfl, rfl, r38.1.trans (shC h1 hb (by assumption)), r38.2.inv hI⟩
          | exact ⟨_, _, rfl, rfl, r39.1.trans (shC h1 hb (by assumption)), r39.2.inv hI⟩
    · refine x_iload_n hm rfl rfl ?_
      refine x_bipush hm rfl (v := nI 8) (by decide) ?_
      refine x_icmp_eq hm rfl (t := 36) rfl (fun h8 => ?_) (fun h8 => ?_)
      · have hb := okb_t (Or.inr (Or.inl h8))
        refine x_iload_n hm rfl rfl ?_
        refine x_if_ge hm rfl (t := 48) rfl (fun h9 => ?_) (fun h9 => ?_)
        · have hn0 := h9
          refine x_iload_n hm rfl rfl ?_
          refine x_bipush hm rfl (v := nI 40) (by decide) ?_
          refine x_icmp_le hm rfl (t := 61) rfl (fun h10 => ?_) (fun h10 => ?_)
          · have hn4 := h10
            obtain ⟨z, hz, hz3⟩ : ∃ z, z ≤ 40 ∧ a3 = nI z := by
              obtain ⟨z, hz, e⟩ := jI_of (v := a3) (fun q => Int32.not_lt.mpr hn0 q)
              exact ⟨z, (jI_le hz (by decide)).mp (by rw [← e]; exact hn4), e⟩
            obtain ⟨s, hs, hs3⟩ := le_k (by omega) (bI_ne0 h1)
            subst hz3
            subst hs3
            exact ev_mono (u234e hI hs hz) (fun r D ⟨v, M2, g1, g2, g3, g4⟩ => ⟨v, M2, g1, g2, g3.trans (shE h1 hb hn0 hn4), g4⟩)
          · refine x_aload_n hm rfl rfl ?_
            refine x_ldcI hm rfl (v := (-1000001 : Int32)) (by decide +kernel) ?_
            refine x_cVi hm rfl rfl (t135 (by decide +kernel)) (fun v11 M11 r11 => ?_)
            refine x_iret hm rfl rfl (by first | rfl | exact bI_nar | decide) ?_
            first
              | exact ⟨_, _, rfl, rfl, r11.1.trans (shD h1 hb hn0 (by assumption)), r11.2.inv hI⟩
              | exact ⟨_, _, rfl, rfl, r1.1.trans (shD h1 hb hn0 (by assumption)), r1.2.inv hI⟩
              | exact ⟨_, _, rfl, rfl, r2.1.trans (shD h1 hb hn0 (by assumption)), r2.2.inv hI⟩
              | exact ⟨_, _, rfl, rfl, r3.1.trans (shD h1 hb hn0 (by assumption)), r3.2.inv hI⟩
              | exact ⟨_, _, rfl, rfl, r4.1.trans (shD h1 hb hn0 (by assumption)), r4.2.inv hI⟩
              | exact ⟨_, _, rfl, rfl, r5.1.trans (shD h1 hb hn0 (by assumption)), r5.2.inv hI⟩
              | exact ⟨_, _, rfl, rfl, r6.1.trans (shD h1 hb hn0 (by assumption)), r6.2.inv hI⟩
              | exact ⟨_, _, rfl, rfl, r7.1.trans (shD h1 hb hn0 (by assumption)), r7.2.inv hI⟩
              | exact ⟨_, _, rfl, rfl, r8.1.trans (shD h1 hb hn0 (by assumption)), r8.2.inv hI⟩
              | exact ⟨_, _, rfl, rfl, r9.1.trans (shD h1 hb hn0 (by assumption)), r9.2.inv hI⟩
              | exact ⟨_, _, rfl, rfl, r10.1.trans (shD h1 hb hn0 (by assumption)), r10.2.inv hI⟩
              | exact ⟨_, _, rfl, rfl, r12.1.trans (shD h1 hb hn0 (by assumption)), r12.2.inv hI⟩
              | exact ⟨_, _, rfl, rfl, r13.1.trans (shD h1 hb hn0 (by assumption)), r13.2.inv hI⟩
              | exact ⟨_, _, rfl, rfl, r14.1.trans (shD h1 hb hn0 (by assumption)), r14.2.inv hI⟩
              | exact ⟨_, _, rfl, rfl, r15.1.trans (shD h1 hb hn0 (by assumption)), r15.2.inv hI⟩
              | exact ⟨_, _, rfl, rfl, r16.1.trans (shD h1 hb hn0 (by assumption)), r16.2.inv hI⟩
              | exact ⟨_, _, rfl, rfl, r17.1.trans (shD h1 hb hn0 (by assumption)), r17.2.inv hI⟩
              | exact ⟨_, _, rfl, rfl, r18.1.trans (shD h1 hb hn0 (by assumption)), r18.2.inv hI⟩
              | exact ⟨_, _, rfl, rfl, r19.1.trans (shD h1 hb hn0 (by assumption)), r19.2.inv hI⟩
              | exact ⟨_, _, rfl, rfl, r20.1.trans (shD h1 hb hn0 (by assumption)), r20.2.inv hI⟩
              | exact ⟨_, _, rfl, rfl, r21.1.trans (shD h1 hb hn0 (by assumption)), r21.2.inv hI⟩
              | exact ⟨_, _, rfl, rfl, r22.1.trans (shD h1 hb hn0 (by assumption)), r22.2.inv hI⟩
              | exact ⟨_, _, rfl, rfl, r23.1.trans (shD h1 hb hn0 (by assumption)), r23.2.inv hI⟩
              | exact ⟨_, _, rfl, rfl, r24.1.trans (shD h1 hb hn0 (by assumption)), r24.2.inv hI⟩
              | exact ⟨_, _, rfl, rfl, r25.1.trans (shD h1 hb hn0 (by assumption)), r25.2.inv hI⟩
              | exact ⟨_, _, rfl, rfl, r26.1.trans (shD h1 hb hn0 (by assumption)), r26.2.inv hI⟩
              | exact ⟨_, _, rfl, rfl, r27.1.trans (shD h1 hb hn0 (by assumption)), r27.2.inv hI⟩
              | exact ⟨_, _, rfl, rfl, r28.1.trans (shD h1 hb hn0 (by assumption)), r28.2.inv hI⟩
              | exact ⟨_, _, rfl, rfl, r29.1.trans (shD h1 hb hn0 (by assumption)), r29.2.inv hI⟩
              | exact ⟨_, _, rfl, rfl, r30.1.trans (shD h1 hb hn0 (by assumption)), r30.2.inv hI⟩
              | exact ⟨_, _, rfl, rfl, r31.1.trans (shD h1 hb hn0 (by assumption)), r31.2.inv hI⟩
              | exact ⟨_, _, rfl, rfl, r32.1.trans (shD h1 hb hn0 (by assumption)), r32.2.inv hI⟩
              | exact ⟨_, _, rfl, rfl, r33.1.trans (shD h1 hb hn0 (by assumption)), r33.2.inv hI⟩
              | exact ⟨_, _, rfl, rfl, r34.1.trans (shD h1 hb hn0 (by assumption)), r34.2.inv hI⟩
              | exact ⟨_, _, rfl, rfl, r35.1.trans (shD h1 hb hn0 (by assumption)), r35.2.inv hI⟩
              | exact ⟨_, _, rfl, rfl, r36.1.trans (shD h1 hb hn0 (by assumption)), r36.2.inv hI⟩
              | exact ⟨_, _, rfl, rfl, r37.1.trans (shD h1 hb hn0 (by assumption)), r37.2.inv hI⟩
              | exact ⟨_, _, rfl, rfl, r38.1.trans (shD h1 hb hn0 (by assumption)), r38.2.inv hI⟩
              | exact ⟨_, _, rfl, rfl, r39.1.trans (shD h1 hb hn0 (by assumption)), r39.2.inv hI⟩
        · refine x_aload_n hm rfl rfl ?_
          refine x_ldc_wI hm rfl (v := (-1000007 : Int32)) (by decide) ?_
          refine x_cVi hm rfl rfl (t135 (by decide +kernel)) (fun v12 M12 r12 => ?_)
          refine x_iret hm rfl rfl (by first | rfl | exact bI_nar | decide) ?_
          first
            | exact ⟨_, _, rfl, rfl, r12.1.trans (shC h1 hb (by assumption)), r12.2.inv hI⟩
            | exact ⟨_, _, rfl, rfl, r1.1.trans (shC h1 hb (by assumption)), r1.2.inv hI⟩
            | exact ⟨_, _, rfl, rfl, r2.1.trans (shC h1 hb (by assumption)), r2.2.inv hI⟩
            | exact ⟨_, _, rfl, rfl, r3.1.trans (shC h1 hb (by assumption)), r3.2.inv hI⟩
            | exact ⟨_, _, rfl, rfl, r4.1.trans (shC h1 hb (by assumption)), r4.2.inv hI⟩
            | exact ⟨_, _, rfl, rfl, r5.1.trans (shC h1 hb (by assumption)), r5.2.inv hI⟩
            | exact ⟨_, _, rfl, rfl, r6.1.trans (shC h1 hb (by assumption)), r6.2.inv hI⟩
            | exact ⟨_, _, rfl, rfl, r7.1.trans (shC h1 hb (by assumption)), r7.2.inv hI⟩
            | exact ⟨_, _, rfl, rfl, r8.1.trans (shC h1 hb (by assumption)), r8.2.inv hI⟩
            | exact ⟨_, _, rfl, rfl, r9.1.trans (shC h1 hb (by assumption)), r9.2.inv hI⟩
            | exact ⟨_, _, rfl, rfl, r10.1.trans (shC h1 hb (by assumption)), r10.2.inv hI⟩
            | exact ⟨_, _, rfl, rfl, r11.1.trans (shC h1 hb (by assumption)), r11.2.inv hI⟩
            | exact ⟨_, _, rfl, rfl, r13.1.trans (shC h1 hb (by assumption)), r13.2.inv hI⟩
            | exact ⟨_, _, rfl, rfl, r14.1.trans (shC h1 hb (by assumption)), r14.2.inv hI⟩
            | exact ⟨_, _, rfl, rfl, r15.1.trans (shC h1 hb (by assumption)), r15.2.inv hI⟩
            | exact ⟨_, _, rfl, rfl, r16.1.trans (shC h1 hb (by assumption)), r16.2.inv hI⟩
            | exact ⟨_, _, rfl, rfl, r17.1.trans (shC h1 hb (by assumption)), r17.2.inv hI⟩
            | exact ⟨_, _, rfl, rfl, r18.1.trans (shC h1 hb (by assumption)), r18.2.inv hI⟩
            | exact ⟨_, _, rfl, rfl, r19.1.trans (shC h1 hb (by assumption)), r19.2.inv hI⟩
            | exact ⟨_, _, rfl, rfl, r20.1.trans (shC h1 hb (by assumption)), r20.2.inv hI⟩
            | exact ⟨_, _, rfl, rfl, r21.1.trans (shC h1 hb (by assumption)), r21.2.inv hI⟩
            | exact ⟨_, _, rfl, rfl, r22.1.trans (shC h1 hb (by assumption)), r22.2.inv hI⟩
            | exact ⟨_, _, rfl, rfl, r23.1.trans (shC h1 hb (by assumption)), r23.2.inv hI⟩
            | exact ⟨_, _, rfl, rfl, r24.1.trans (shC h1 hb (by assumption)), r24.2.inv hI⟩
            | exact ⟨_, _, rfl, rfl, r25.1.trans (shC h1 hb (by assumption)), r25.2.inv hI⟩
            | exact ⟨_, _, rfl, rfl, r26.1.trans (shC h1 hb (by assumption)), r26.2.inv hI⟩
            | exact ⟨_, _, rfl, rfl, r27.1.trans (shC h1 hb (by assumption)), r27.2.inv hI⟩
            | exact ⟨_, _, rfl, rfl, r28.1.trans (shC h1 hb (by assumption)), r28.2.inv hI⟩
            | exact ⟨_, _, rfl, rfl, r29.1.trans (shC h1 hb (by assumption)), r29.2.inv hI⟩
            | exact ⟨_, _, rfl, rfl, r30.1.trans (shC h1 hb (by assumption)), r30.2.inv hI⟩
            | exact ⟨_, _, rfl, rfl, r31.1.trans (shC h1 hb (by assumption)), r31.2.inv hI⟩
            | exact ⟨_, _, rfl, rfl, r32.1.trans (shC h1 hb (by assumption)), r32.2.inv hI⟩
            | exact ⟨_, _, rfl, rfl, r33.1.trans (shC h1 hb (by assumption)), r33.2.inv hI⟩
            | exact ⟨_, _, rfl, rfl, r34.1.trans (shC h1 hb (by assumption)), r34.2.inv hI⟩
            | exact ⟨_, _, rfl, rfl, r35.1.trans (shC h1 hb (by assumption)), r35.2.inv hI⟩
            | exact ⟨_, _, rfl, rfl, r36.1.trans (shC h1 hb (by assumption)), r36.2.inv hI⟩
            | exact ⟨_, _, rfl, rfl, r37.1.trans (shC h1 hb (by assumption)), r37.2.inv hI⟩
            | exact ⟨_, _, rfl, rfl, r38.1.trans (shC h1 hb (by assumption)), r38.2.inv hI⟩
            | exact ⟨_, _, rfl, rfl, r39.1.trans (shC h1 hb (by assumption)), r39.2.inv hI⟩
      · refine x_iload_n hm rfl rfl ?_
        refine x_bipush hm rfl (v := nI 16) (by decide) ?_
        refine x_icmp_eq hm rfl (t := 36) rfl (fun h13 => ?_) (fun h13 => ?_)
        · have hb := okb_t (Or.inr (Or.inr (Or.inl h13)))
          refine x_iload_n hm rfl rfl ?_
          refine x_if_ge hm rfl (t := 48) rfl (fun h14 => ?_) (fun h14 => ?_)
          · have hn0 := h14
            refine x_iload_n hm rfl rfl ?_
            refine x_bipush hm rfl (v := nI 40) (by decide) ?_
            refine x_icmp_le hm rfl (t := 61) rfl (fun h15 => ?_) (fun h15 => ?_)
            · have hn4 := h15
              obtain ⟨z, hz, hz3⟩ : ∃ z, z ≤ 40 ∧ a3 = nI z := by
                obtain ⟨z, hz, e⟩ := jI_of (v := a3) (fun q => Int32.not_lt.mpr hn0 q)
                exact ⟨z, (jI_le hz (by decide)).mp (by rw [← e]; exact hn4), e⟩
              obtain ⟨s, hs, hs3⟩ := le_k (by omega) (bI_ne0 h1)
              subst hz3
              subst hs3
              exact ev_mono (u234e hI hs hz) (fun r D ⟨v, M2, g1, g2, g3, g4⟩ => ⟨v, M2, g1, g2, g3.trans (shE h1 hb hn0 hn4), g4⟩)
            · refine x_aload_n hm rfl rfl ?_
              refine x_ldcI hm rfl (v := (-1000001 : Int32)) (by decide +kernel) ?_
              refine x_cVi hm rfl rfl (t135 (by decide +kernel)) (fun v16 M16 r16 => ?_)
              refine x_iret hm rfl rfl (by first | rfl | exact bI_nar | decide) ?_
              first
                | exact ⟨_, _, rfl, rfl, r16.1.trans (shD h1 hb hn0 (by assumption)), r16.2.inv hI⟩
                | exact ⟨_, _, rfl, rfl, r1.1.trans (shD h1 hb hn0 (by assumption)), r1.2.inv hI⟩
                | exact ⟨_, _, rfl, rfl, r2.1.trans (shD h1 hb hn0 (by assumption)), r2.2.inv hI⟩
                | exact ⟨_, _, rfl, rfl, r3.1.trans (shD h1 hb hn0 (by assumption)), r3.2.inv hI⟩
                | exact ⟨_, _, rfl, rfl, r4.1.trans (shD h1 hb hn0 (by assumption)), r4.2.inv hI⟩
                | exact ⟨_, _, rfl, rfl, r5.1.trans (shD h1 hb hn0 (by assumption)), r5.2.inv hI⟩
                | exact ⟨_, _, rfl, rfl, r6.1.trans (shD h1 hb hn0 (by assumption)), r6.2.inv hI⟩
                | exact ⟨_, _, rfl, rfl, r7.1.trans (shD h1 hb hn0 (by assumption)), r7.2.inv hI⟩
                | exact ⟨_, _, rfl, rfl, r8.1.trans (shD h1 hb hn0 (by assumption)), r8.2.inv hI⟩
                | exact ⟨_, _, rfl, rfl, r9.1.trans (shD h1 hb hn0 (by assumption)), r9.2.inv hI⟩
                | exact ⟨_, _, rfl, rfl, r10.1.trans (shD h1 hb hn0 (by assumption)), r10.2.inv hI⟩
                | exact ⟨_, _, rfl, rfl, r11.1.trans (shD h1 hb hn0 (by assumption)), r11.2.inv hI⟩
                | exact ⟨_, _, rfl, rfl, r12.1.trans (shD h1 hb hn0 (by assumption)), r12.2.inv hI⟩
                | exact ⟨_, _, rfl, rfl, r13.1.trans (shD h1 hb hn0 (by assumption)), r13.2.inv hI⟩
                | exact ⟨_, _, rfl, rfl, r14.1.trans (shD h1 hb hn0 (by assumption)), r14.2.inv hI⟩
                | exact ⟨_, _, rfl, rfl, r15.1.trans (shD h1 hb hn0 (by assumption)), r15.2.inv hI⟩
                | exact ⟨_, _, rfl, rfl, r17.1.trans (shD h1 hb hn0 (by assumption)), r17.2.inv hI⟩
                | exact ⟨_, _, rfl, rfl, r18.1.trans (shD h1 hb hn0 (by assumption)), r18.2.inv hI⟩
                | exact ⟨_, _, rfl, rfl, r19.1.trans (shD h1 hb hn0 (by assumption)), r19.2.inv hI⟩
                | exact ⟨_, _, rfl, rfl, r20.1.trans (shD h1 hb hn0 (by assumption)), r20.2.inv hI⟩
                | exact ⟨_, _, rfl, rfl, r21.1.trans (shD h1 hb hn0 (by assumption)), r21.2.inv hI⟩
                | exact ⟨_, _, rfl, rfl, r22.1.trans (shD h1 hb hn0 (by assumption)), r22.2.inv hI⟩
                | exact ⟨_, _, rfl, rfl, r23.1.trans (shD h1 hb hn0 (by assumption)), r23.2.inv hI⟩
                | exact ⟨_, _, rfl, rfl, r24.1.trans (shD h1 hb hn0 (by assumption)), r24.2.inv hI⟩
                | exact ⟨_, _, rfl, rfl, r25.1.trans (shD h1 hb hn0 (by assumption)), r25.2.inv hI⟩
                | exact ⟨_, _, rfl, rfl, r26.1.trans (shD h1 hb hn0 (by assumption)), r26.2.inv hI⟩
                | exact ⟨_, _, rfl, rfl, r27.1.trans (shD h1 hb hn0 (by assumption)), r27.2.inv hI⟩
                | exact ⟨_, _, rfl, rfl, r28.1.trans (shD h1 hb hn0 (by assumption)), r28.2.inv hI⟩
                | exact ⟨_, _, rfl, rfl, r29.1.trans (shD h1 hb hn0 (by assumption)), r29.2.inv hI⟩
                | exact ⟨_, _, rfl, rfl, r30.1.trans (shD h1 hb hn0 (by assumption)), r30.2.inv hI⟩
                | exact ⟨_, _, rfl, rfl, r31.1.trans (shD h1 hb hn0 (by assumption)), r31.2.inv hI⟩
                | exact ⟨_, _, rfl, rfl, r32.1.trans (shD h1 hb hn0 (by assumption)), r32.2.inv hI⟩
                | exact ⟨_, _, rfl, rfl, r33.1.trans (shD h1 hb hn0 (by assumption)), r33.2.inv hI⟩
                | exact ⟨_, _, rfl, rfl, r34.1.trans (shD h1 hb hn0 (by assumption)), r34.2.inv hI⟩
                | exact ⟨_, _, rfl, rfl, r35.1.trans (shD h1 hb hn0 (by assumption)), r35.2.inv hI⟩
                | exact ⟨_, _, rfl, rfl, r36.1.trans (shD h1 hb hn0 (by assumption)), r36.2.inv hI⟩
                | exact ⟨_, _, rfl, rfl, r37.1.trans (shD h1 hb hn0 (by assumption)), r37.2.inv hI⟩
                | exact ⟨_, _, rfl, rfl, r38.1.trans (shD h1 hb hn0 (by assumption)), r38.2.inv hI⟩
                | exact ⟨_, _, rfl, rfl, r39.1.trans (shD h1 hb hn0 (by assumption)), r39.2.inv hI⟩
          · refine x_aload_n hm rfl rfl ?_
            refine x_ldc_wI hm rfl (v := (-1000007 : Int32)) (by decide) ?_
            refine x_cVi hm rfl rfl (t135 (by decide +kernel)) (fun v17 M17 r17 => ?_)
            refine x_iret hm rfl rfl (by first | rfl | exact bI_nar | decide) ?_
            first
              | exact ⟨_, _, rfl, rfl, r17.1.trans (shC h1 hb (by assumption)), r17.2.inv hI⟩
              | exact ⟨_, _, rfl, rfl, r1.1.trans (shC h1 hb (by assumption)), r1.2.inv hI⟩
              | exact ⟨_, _, rfl, rfl, r2.1.trans (shC h1 hb (by assumption)), r2.2.inv hI⟩
              | exact ⟨_, _, rfl, rfl, r3.1.trans (shC h1 hb (by assumption)), r3.2.inv hI⟩
              | exact ⟨_, _, rfl, rfl, r4.1.trans (shC h1 hb (by assumption)), r4.2.inv hI⟩
              | exact ⟨_, _, rfl, rfl, r5.1.trans (shC h1 hb (by assumption)), r5.2.inv hI⟩
              | exact ⟨_, _, rfl, rfl, r6.1.trans (shC h1 hb (by assumption)), r6.2.inv hI⟩
              | exact ⟨_, _, rfl, rfl, r7.1.trans (shC h1 hb (by assumption)), r7.2.inv hI⟩
              | exact ⟨_, _, rfl, rfl, r8.1.trans (shC h1 hb (by assumption)), r8.2.inv hI⟩
              | exact ⟨_, _, rfl, rfl, r9.1.trans (shC h1 hb (by assumption)), r9.2.inv hI⟩
              | exact ⟨_, _, rfl, rfl, r10.1.trans (shC h1 hb (by assumption)), r10.2.inv hI⟩
              | exact ⟨_, _, rfl, rfl, r11.1.trans (shC h1 hb (by assumption)), r11.2.inv hI⟩
              | exact ⟨_, _, rfl, rfl, r12.1.trans (shC h1 hb (by assumption)), r12.2.inv hI⟩
              | exact ⟨_, _, rfl, rfl, r13.1.trans (shC h1 hb (by assumption)), r13.2.inv hI⟩
              | exact ⟨_, _, rfl, rfl, r14.1.trans (shC h1 hb (by assumption)), r14.2.inv hI⟩
              | exact ⟨_, _, rfl, rfl, r15.1.trans (shC h1 hb (by assumption)), r15.2.inv hI⟩
              | exact ⟨_, _, rfl, rfl, r16.1.trans (shC h1 hb (by assumption)), r16.2.inv hI⟩
              | exact ⟨_, _, rfl, rfl, r18.1.trans (shC h1 hb (by assumption)), r18.2.inv hI⟩
              | exact ⟨_, _, rfl, rfl, r19.1.trans (shC h1 hb (by assumption)), r19.2.inv hI⟩
              | exact ⟨_, _, rfl, rfl, r20.1.trans (shC h1 hb (by assumption)), r20.2.inv hI⟩
              | exact ⟨_, _, rfl, rfl, r21.1.trans (shC h1 hb (by assumption)), r21.2.inv hI⟩
              | exact ⟨_, _, rfl, rfl, r22.1.trans (shC h1 hb (by assumption)), r22.2.inv hI⟩
              | exact ⟨_, _, rfl, rfl, r23.1.trans (shC h1 hb (by assumption)), r23.2.inv hI⟩
              | exact ⟨_, _, rfl, rfl, r24.1.trans (shC h1 hb (by assumption)), r24.2.inv hI⟩
              | exact ⟨_, _, rfl, rfl, r25.1.trans (shC h1 hb (by assumption)), r25.2.inv hI⟩
              | exact ⟨_, _, rfl, rfl, r26.1.trans (shC h1 hb (by assumption)), r26.2.inv hI⟩
              | exact ⟨_, _, rfl, rfl, r27.1.trans (shC h1 hb (by assumption)), r27.2.inv hI⟩
              | exact ⟨_, _, rfl, rfl, r28.1.trans (shC h1 hb (by assumption)), r28.2.inv hI⟩
              | exact ⟨_, _, rfl, rfl, r29.1.trans (shC h1 hb (by assumption)), r29.2.inv hI⟩
              | exact ⟨_, _, rfl, rfl, r30.1.trans (shC h1 hb (by assumption)), r30.2.inv hI⟩
              | exact ⟨_, _, rfl, rfl, r31.1.trans (shC h1 hb (by assumption)), r31.2.inv hI⟩
              | exact ⟨_, _, rfl, rfl, r32.1.trans (shC h1 hb (by assumption)), r32.2.inv hI⟩
              | exact ⟨_, _, rfl, rfl, r33.1.trans (shC h1 hb (by assumption)), r33.2.inv hI⟩
              | exact ⟨_, _, rfl, rfl, r34.1.trans (shC h1 hb (by assumption)), r34.2.inv hI⟩
              | exact ⟨_, _, rfl, rfl, r35.1.trans (shC h1 hb (by assumption)), r35.2.inv hI⟩
              | exact ⟨_, _, rfl, rfl, r36.1.trans (shC h1 hb (by assumption)), r36.2.inv hI⟩
              | exact ⟨_, _, rfl, rfl, r37.1.trans (shC h1 hb (by assumption)), r37.2.inv hI⟩
              | exact ⟨_, _, rfl, rfl, r38.1.trans (shC h1 hb (by assumption)), r38.2.inv hI⟩
              | exact ⟨_, _, rfl, rfl, r39.1.trans (shC h1 hb (by assumption)), r39.2.inv hI⟩
        · refine x_iload_n hm rfl rfl ?_
          refine x_bipush hm rfl (v := nI 32) (by decide) ?_
          refine x_icmp_eq hm rfl (t := 36) rfl (fun h18 => ?_) (fun h18 => ?_)
          · have hb := okb_t (Or.inr (Or.inr (Or.inr h18)))
            refine x_iload_n hm rfl rfl ?_
            refine x_if_ge hm rfl (t := 48) rfl (fun h19 => ?_) (fun h19 => ?_)
            · have hn0 := h19
              refine x_iload_n hm rfl rfl ?_
              refine x_bipush hm rfl (v := nI 40) (by decide) ?_
              refine x_icmp_le hm rfl (t := 61) rfl (fun h20 => ?_) (fun h20 => ?_)
              · have hn4 := h20
                obtain ⟨z, hz, hz3⟩ : ∃ z, z ≤ 40 ∧ a3 = nI z := by
                  obtain ⟨z, hz, e⟩ := jI_of (v := a3) (fun q => Int32.not_lt.mpr hn0 q)
                  exact ⟨z, (jI_le hz (by decide)).mp (by rw [← e]; exact hn4), e⟩
                obtain ⟨s, hs, hs3⟩ := le_k (by omega) (bI_ne0 h1)
                subst hz3
                subst hs3
                exact ev_mono (u234e hI hs hz) (fun r D ⟨v, M2, g1, g2, g3, g4⟩ => ⟨v, M2, g1, g2, g3.trans (shE h1 hb hn0 hn4), g4⟩)
              · refine x_aload_n hm rfl rfl ?_
                refine x_ldcI hm rfl (v := (-1000001 : Int32)) (by decide +kernel) ?_
                refine x_cVi hm rfl rfl (t135 (by decide +kernel)) (fun v21 M21 r21 => ?_)
                refine x_iret hm rfl rfl (by first | rfl | exact bI_nar | decide) ?_
                first
                  | exact ⟨_, _, rfl, rfl, r21.1.trans (shD h1 hb hn0 (by assumption)), r21.2.inv hI⟩
                  | exact ⟨_, _, rfl, rfl, r1.1.trans (shD h1 hb hn0 (by assumption)), r1.2.inv hI⟩
                  | exact ⟨_, _, rfl, rfl, r2.1.trans (shD h1 hb hn0 (by assumption)), r2.2.inv hI⟩
                  | exact ⟨_, _, rfl, rfl, r3.1.trans (shD h1 hb hn0 (by assumption)), r3.2.inv hI⟩
                  | exact ⟨_, _, rfl, rfl, r4.1.trans (shD h1 hb hn0 (by assumption)), r4.2.inv hI⟩
                  | exact ⟨_, _, rfl, rfl, r5.1.trans (shD h1 hb hn0 (by assumption)), r5.2.inv hI⟩
                  | exact ⟨_, _, rfl, rfl, r6.1.trans (shD h1 hb hn0 (by assumption)), r6.2.inv hI⟩
                  | exact ⟨_, _, rfl, rfl, r7.1.trans (shD h1 hb hn0 (by assumption)), r7.2.inv hI⟩
                  | exact ⟨_, _, rfl, rfl, r8.1.trans (shD h1 hb hn0 (by assumption)), r8.2.inv hI⟩
                  | exact ⟨_, _, rfl, rfl, r9.1.trans (shD h1 hb hn0 (by assumption)), r9.2.inv hI⟩
                  | exact ⟨_, _, rfl, rfl, r10.1.trans (shD h1 hb hn0 (by assumption)), r10.2.inv hI⟩
                  | exact ⟨_, _, rfl, rfl, r11.1.trans (shD h1 hb hn0 (by assumption)), r11.2.inv hI⟩
                  | exact ⟨_, _, rfl, rfl, r12.1.trans (shD h1 hb hn0 (by assumption)), r12.2.inv hI⟩
                  | exact ⟨_, _, rfl, rfl, r13.1.trans (shD h1 hb hn0 (by assumption)), r13.2.inv hI⟩
                  | exact ⟨_, _, rfl, rfl, r14.1.trans (shD h1 hb hn0 (by assumption)), r14.2.inv hI⟩
                  | exact ⟨_, _, rfl, rfl, r15.1.trans (shD h1 hb hn0 (by assumption)), r15.2.inv hI⟩
                  | exact ⟨_, _, rfl, rfl, r16.1.trans (shD h1 hb hn0 (by assumption)), r16.2.inv hI⟩
                  | exact ⟨_, _, rfl, rfl, r17.1.trans (shD h1 hb hn0 (by assumption)), r17.2.inv hI⟩
                  | exact ⟨_, _, rfl, rfl, r18.1.trans (shD h1 hb hn0 (by assumption)), r18.2.inv hI⟩
                  | exact ⟨_, _, rfl, rfl, r19.1.trans (shD h1 hb hn0 (by assumption)), r19.2.inv hI⟩
                  | exact ⟨_, _, rfl, rfl, r20.1.trans (shD h1 hb hn0 (by assumption)), r20.2.inv hI⟩
                  | exact ⟨_, _, rfl, rfl, r22.1.trans (shD h1 hb hn0 (by assumption)), r22.2.inv hI⟩
                  | exact ⟨_, _, rfl, rfl, r23.1.trans (shD h1 hb hn0 (by assumption)), r23.2.inv hI⟩
                  | exact ⟨_, _, rfl, rfl, r24.1.trans (shD h1 hb hn0 (by assumption)), r24.2.inv hI⟩
                  | exact ⟨_, _, rfl, rfl, r25.1.trans (shD h1 hb hn0 (by assumption)), r25.2.inv hI⟩
                  | exact ⟨_, _, rfl, rfl, r26.1.trans (shD h1 hb hn0 (by assumption)), r26.2.inv hI⟩
                  | exact ⟨_, _, rfl, rfl, r27.1.trans (shD h1 hb hn0 (by assumption)), r27.2.inv hI⟩
                  | exact ⟨_, _, rfl, rfl, r28.1.trans (shD h1 hb hn0 (by assumption)), r28.2.inv hI⟩
                  | exact ⟨_, _, rfl, rfl, r29.1.trans (shD h1 hb hn0 (by assumption)), r29.2.inv hI⟩
                  | exact ⟨_, _, rfl, rfl, r30.1.trans (shD h1 hb hn0 (by assumption)), r30.2.inv hI⟩
                  | exact ⟨_, _, rfl, rfl, r31.1.trans (shD h1 hb hn0 (by assumption)), r31.2.inv hI⟩
                  | exact ⟨_, _, rfl, rfl, r32.1.trans (shD h1 hb hn0 (by assumption)), r32.2.inv hI⟩
                  | exact ⟨_, _, rfl, rfl, r33.1.trans (shD h1 hb hn0 (by assumption)), r33.2.inv hI⟩
                  | exact ⟨_, _, rfl, rfl, r34.1.trans (shD h1 hb hn0 (by assumption)), r34.2.inv hI⟩
                  | exact ⟨_, _, rfl, rfl, r35.1.trans (shD h1 hb hn0 (by assumption)), r35.2.inv hI⟩
                  | exact ⟨_, _, rfl, rfl, r36.1.trans (shD h1 hb hn0 (by assumption)), r36.2.inv hI⟩
                  | exact ⟨_, _, rfl, rfl, r37.1.trans (shD h1 hb hn0 (by assumption)), r37.2.inv hI⟩
                  | exact ⟨_, _, rfl, rfl, r38.1.trans (shD h1 hb hn0 (by assumption)), r38.2.inv hI⟩
                  | exact ⟨_, _, rfl, rfl, r39.1.trans (shD h1 hb hn0 (by assumption)), r39.2.inv hI⟩
            · refine x_aload_n hm rfl rfl ?_
              refine x_ldc_wI hm rfl (v := (-1000007 : Int32)) (by decide) ?_
              refine x_cVi hm rfl rfl (t135 (by decide +kernel)) (fun v22 M22 r22 => ?_)
              refine x_iret hm rfl rfl (by first | rfl | exact bI_nar | decide) ?_
              first
                | exact ⟨_, _, rfl, rfl, r22.1.trans (shC h1 hb (by assumption)), r22.2.inv hI⟩
                | exact ⟨_, _, rfl, rfl, r1.1.trans (shC h1 hb (by assumption)), r1.2.inv hI⟩
                | exact ⟨_, _, rfl, rfl, r2.1.trans (shC h1 hb (by assumption)), r2.2.inv hI⟩
                | exact ⟨_, _, rfl, rfl, r3.1.trans (shC h1 hb (by assumption)), r3.2.inv hI⟩
                | exact ⟨_, _, rfl, rfl, r4.1.trans (shC h1 hb (by assumption)), r4.2.inv hI⟩
                | exact ⟨_, _, rfl, rfl, r5.1.trans (shC h1 hb (by assumption)), r5.2.inv hI⟩
                | exact ⟨_, _, rfl, rfl, r6.1.trans (shC h1 hb (by assumption)), r6.2.inv hI⟩
                | exact ⟨_, _, rfl, rfl, r7.1.trans (shC h1 hb (by assumption)), r7.2.inv hI⟩
                | exact ⟨_, _, rfl, rfl, r8.1.trans (shC h1 hb (by assumption)), r8.2.inv hI⟩
                | exact ⟨_, _, rfl, rfl, r9.1.trans (shC h1 hb (by assumption)), r9.2.inv hI⟩
                | exact ⟨_, _, rfl, rfl, r10.1.trans (shC h1 hb (by assumption)), r10.2.inv hI⟩
                | exact ⟨_, _, rfl, rfl, r11.1.trans (shC h1 hb (by assumption)), r11.2.inv hI⟩
                | exact ⟨_, _, rfl, rfl, r12.1.trans (shC h1 hb (by assumption)), r12.2.inv hI⟩
                | exact ⟨_, _, rfl, rfl, r13.1.trans (shC h1 hb (by assumption)), r13.2.inv hI⟩
                | exact ⟨_, _, rfl, rfl, r14.1.trans (shC h1 hb (by assumption)), r14.2.inv hI⟩
                | exact ⟨_, _, rfl, rfl, r15.1.trans (shC h1 hb (by assumption)), r15.2.inv hI⟩
                | exact ⟨_, _, rfl, rfl, r16.1.trans (shC h1 hb (by assumption)), r16.2.inv hI⟩
                | exact ⟨_, _, rfl, rfl, r17.1.trans (shC h1 hb (by assumption)), r17.2.inv hI⟩
                | exact ⟨_, _, rfl, rfl, r18.1.trans (shC h1 hb (by assumption)), r18.2.inv hI⟩
                | exact ⟨_, _, rfl, rfl, r19.1.trans (shC h1 hb (by assumption)), r19.2.inv hI⟩
                | exact ⟨_, _, rfl, rfl, r20.1.trans (shC h1 hb (by assumption)), r20.2.inv hI⟩
                | exact ⟨_, _, rfl, rfl, r21.1.trans (shC h1 hb (by assumption)), r21.2.inv hI⟩
                | exact ⟨_, _, rfl, rfl, r23.1.trans (shC h1 hb (by assumption)), r23.2.inv hI⟩
                | exact ⟨_, _, rfl, rfl, r24.1.trans (shC h1 hb (by assumption)), r24.2.inv hI⟩
                | exact ⟨_, _, rfl, rfl, r25.1.trans (shC h1 hb (by assumption)), r25.2.inv hI⟩
                | exact ⟨_, _, rfl, rfl, r26.1.trans (shC h1 hb (by assumption)), r26.2.inv hI⟩
                | exact ⟨_, _, rfl, rfl, r27.1.trans (shC h1 hb (by assumption)), r27.2.inv hI⟩
                | exact ⟨_, _, rfl, rfl, r28.1.trans (shC h1 hb (by assumption)), r28.2.inv hI⟩
                | exact ⟨_, _, rfl, rfl, r29.1.trans (shC h1 hb (by assumption)), r29.2.inv hI⟩
                | exact ⟨_, _, rfl, rfl, r30.1.trans (shC h1 hb (by assumption)), r30.2.inv hI⟩
                | exact ⟨_, _, rfl, rfl, r31.1.trans (shC h1 hb (by assumption)), r31.2.inv hI⟩
                | exact ⟨_, _, rfl, rfl, r32.1.trans (shC h1 hb (by assumption)), r32.2.inv hI⟩
                | exact ⟨_, _, rfl, rfl, r33.1.trans (shC h1 hb (by assumption)), r33.2.inv hI⟩
                | exact ⟨_, _, rfl, rfl, r34.1.trans (shC h1 hb (by assumption)), r34.2.inv hI⟩
                | exact ⟨_, _, rfl, rfl, r35.1.trans (shC h1 hb (by assumption)), r35.2.inv hI⟩
                | exact ⟨_, _, rfl, rfl, r36.1.trans (shC h1 hb (by assumption)), r36.2.inv hI⟩
                | exact ⟨_, _, rfl, rfl, r37.1.trans (shC h1 hb (by assumption)), r37.2.inv hI⟩
                | exact ⟨_, _, rfl, rfl, r38.1.trans (shC h1 hb (by assumption)), r38.2.inv hI⟩
                | exact ⟨_, _, rfl, rfl, r39.1.trans (shC h1 hb (by assumption)), r39.2.inv hI⟩
          · refine x_aload_n hm rfl rfl ?_
            refine x_ldcI hm rfl (v := (-1000001 : Int32)) (by decide +kernel) ?_
            refine x_cVi hm rfl rfl (t135 (by decide +kernel)) (fun v23 M23 r23 => ?_)
            refine x_iret hm rfl rfl (by first | rfl | exact bI_nar | decide) ?_
            first
              | exact ⟨_, _, rfl, rfl, r23.1.trans (shA h1), r23.2.inv hI⟩
              | exact ⟨_, _, rfl, rfl, r23.1.trans (shB h1 (okb_f (by assumption) (by assumption) (by assumption) (by assumption))), r23.2.inv hI⟩
              | exact ⟨_, _, rfl, rfl, r1.1.trans (shA h1), r1.2.inv hI⟩
              | exact ⟨_, _, rfl, rfl, r1.1.trans (shB h1 (okb_f (by assumption) (by assumption) (by assumption) (by assumption))), r1.2.inv hI⟩
              | exact ⟨_, _, rfl, rfl, r2.1.trans (shA h1), r2.2.inv hI⟩
              | exact ⟨_, _, rfl, rfl, r2.1.trans (shB h1 (okb_f (by assumption) (by assumption) (by assumption) (by assumption))), r2.2.inv hI⟩
              | exact ⟨_, _, rfl, rfl, r3.1.trans (shA h1), r3.2.inv hI⟩
              | exact ⟨_, _, rfl, rfl, r3.1.trans (shB h1 (okb_f (by assumption) (by assumption) (by assumption) (by assumption))), r3.2.inv hI⟩
              | exact ⟨_, _, rfl, rfl, r4.1.trans (shA h1), r4.2.inv hI⟩
              | exact ⟨_, _, rfl, rfl, r4.1.trans (shB h1 (okb_f (by assumption) (by assumption) (by assumption) (by assumption))), r4.2.inv hI⟩
              | exact ⟨_, _, rfl, rfl, r5.1.trans (shA h1), r5.2.inv hI⟩
              | exact ⟨_, _, rfl, rfl, r5.1.trans (shB h1 (okb_f (by assumption) (by assumption) (by assumption) (by assumption))), r5.2.inv hI⟩
              | exact ⟨_, _, rfl, rfl, r6.1.trans (shA h1), r6.2.inv hI⟩
              | exact ⟨_, _, rfl, rfl, r6.1.trans (shB h1 (okb_f (by assumption) (by assumption) (by assumption) (by assumption))), r6.2.inv hI⟩
              | exact ⟨_, _, rfl, rfl, r7.1.trans (shA h1), r7.2.inv hI⟩
              | exact ⟨_, _, rfl, rfl, r7.1.trans (shB h1 (okb_f (by assumption) (by assumption) (by assumption) (by assumption))), r7.2.inv hI⟩
              | exact ⟨_, _, rfl, rfl, r8.1.trans (shA h1), r8.2.inv hI⟩
              | exact ⟨_, _, rfl, rfl, r8.1.trans (shB h1 (okb_f (by assumption) (by assumption) (by assumption) (by assumption))), r8.2.inv hI⟩
              | exact ⟨_, _, rfl, rfl, r9.1.trans (shA h1), r9.2.inv hI⟩
              | exact ⟨_, _, rfl, rfl, r9.1.trans (shB h1 (okb_f (by assumption) (by assumption) (by assumption) (by assumption))), r9.2.inv hI⟩
              | exact ⟨_, _, rfl, rfl, r10.1.trans (shA h1), r10.2.inv hI⟩
              | exact ⟨_, _, rfl, rfl, r10.1.trans (shB h1 (okb_f (by assumption) (by assumption) (by assumption) (by assumption))), r10.2.inv hI⟩
              | exact ⟨_, _, rfl, rfl, r11.1.trans (shA h1), r11.2.inv hI⟩
              | exact ⟨_, _, rfl, rfl, r11.1.trans (shB h1 (okb_f (by assumption) (by assumption) (by assumption) (by assumption))), r11.2.inv hI⟩
              | exact ⟨_, _, rfl, rfl, r12.1.trans (shA h1), r12.2.inv hI⟩
              | exact ⟨_, _, rfl, rfl, r12.1.trans (shB h1 (okb_f (by assumption) (by assumption) (by assumption) (by assumption))), r12.2.inv hI⟩
              | exact ⟨_, _, rfl, rfl, r13.1.trans (shA h1), r13.2.inv hI⟩
              | exact ⟨_, _, rfl, rfl, r13.1.trans (shB h1 (okb_f (by assumption) (by assumption) (by assumption) (by assumption))), r13.2.inv hI⟩
              | exact ⟨_, _, rfl, rfl, r14.1.trans (shA h1), r14.2.inv hI⟩
              | exact ⟨_, _, rfl, rfl, r14.1.trans (shB h1 (okb_f (by assumption) (by assumption) (by assumption) (by assumption))), r14.2.inv hI⟩
              | exact ⟨_, _, rfl, rfl, r15.1.trans (shA h1), r15.2.inv hI⟩
              | exact ⟨_, _, rfl, rfl, r15.1.trans (shB h1 (okb_f (by assumption) (by assumption) (by assumption) (by assumption))), r15.2.inv hI⟩
              | exact ⟨_, _, rfl, rfl, r16.1.trans (shA h1), r16.2.inv hI⟩
              | exact ⟨_, _, rfl, rfl, r16.1.trans (shB h1 (okb_f (by assumption) (by assumption) (by assumption) (by assumption))), r16.2.inv hI⟩
              | exact ⟨_, _, rfl, rfl, r17.1.trans (shA h1), r17.2.inv hI⟩
              | exact ⟨_, _, rfl, rfl, r17.1.trans (shB h1 (okb_f (by assumption) (by assumption) (by assumption) (by assumption))), r17.2.inv hI⟩
              | exact ⟨_, _, rfl, rfl, r18.1.trans (shA h1), r18.2.inv hI⟩
              | exact ⟨_, _, rfl, rfl, r18.1.trans (shB h1 (okb_f (by assumption) (by assumption) (by assumption) (by assumption))), r18.2.inv hI⟩
              | exact ⟨_, _, rfl, rfl, r19.1.trans (shA h1), r19.2.inv hI⟩
              | exact ⟨_, _, rfl, rfl, r19.1.trans (shB h1 (okb_f (by assumption) (by assumption) (by assumption) (by assumption))), r19.2.inv hI⟩
              | exact ⟨_, _, rfl, rfl, r20.1.trans (shA h1), r20.2.inv hI⟩
              | exact ⟨_, _, rfl, rfl, r20.1.trans (shB h1 (okb_f (by assumption) (by assumption) (by assumption) (by assumption))), r20.2.inv hI⟩
              | exact ⟨_, _, rfl, rfl, r21.1.trans (shA h1), r21.2.inv hI⟩
              | exact ⟨_, _, rfl, rfl, r21.1.trans (shB h1 (okb_f (by assumption) (by assumption) (by assumption) (by assumption))), r21.2.inv hI⟩
              | exact ⟨_, _, rfl, rfl, r22.1.trans (shA h1), r22.2.inv hI⟩
              | exact ⟨_, _, rfl, rfl, r22.1.trans (shB h1 (okb_f (by assumption) (by assumption) (by assumption) (by assumption))), r22.2.inv hI⟩
              | exact ⟨_, _, rfl, rfl, r24.1.trans (shA h1), r24.2.inv hI⟩
              | exact ⟨_, _, rfl, rfl, r24.1.trans (shB h1 (okb_f (by assumption) (by assumption) (by assumption) (by assumption))), r24.2.inv hI⟩
              | exact ⟨_, _, rfl, rfl, r25.1.trans (shA h1), r25.2.inv hI⟩
              | exact ⟨_, _, rfl, rfl, r25.1.trans (shB h1 (okb_f (by assumption) (by assumption) (by assumption) (by assumption))), r25.2.inv hI⟩
              | exact ⟨_, _, rfl, rfl, r26.1.trans (shA h1), r26.2.inv hI⟩
              | exact ⟨_, _, rfl, rfl, r26.1.trans (shB h1 (okb_f (by assumption) (by assumption) (by assumption) (by assumption))), r26.2.inv hI⟩
              | exact ⟨_, _, rfl, rfl, r27.1.trans (shA h1), r27.2.inv hI⟩
              | exact ⟨_, _, rfl, rfl, r27.1.trans (shB h1 (okb_f (by assumption) (by assumption) (by assumption) (by assumption))), r27.2.inv hI⟩
              | exact ⟨_, _, rfl, rfl, r28.1.trans (shA h1), r28.2.inv hI⟩
              | exact ⟨_, _, rfl, rfl, r28.1.trans (shB h1 (okb_f (by assumption) (by assumption) (by assumption) (by assumption))), r28.2.inv hI⟩
              | exact ⟨_, _, rfl, rfl, r29.1.trans (shA h1), r29.2.inv hI⟩
              | exact ⟨_, _, rfl, rfl, r29.1.trans (shB h1 (okb_f (by assumption) (by assumption) (by assumption) (by assumption))), r29.2.inv hI⟩
              | exact ⟨_, _, rfl, rfl, r30.1.trans (shA h1), r30.2.inv hI⟩
              | exact ⟨_, _, rfl, rfl, r30.1.trans (shB h1 (okb_f (by assumption) (by assumption) (by assumption) (by assumption))), r30.2.inv hI⟩
              | exact ⟨_, _, rfl, rfl, r31.1.trans (shA h1), r31.2.inv hI⟩
              | exact ⟨_, _, rfl, rfl, r31.1.trans (shB h1 (okb_f (by assumption) (by assumption) (by assumption) (by assumption))), r31.2.inv hI⟩
              | exact ⟨_, _, rfl, rfl, r32.1.trans (shA h1), r32.2.inv hI⟩
              | exact ⟨_, _, rfl, rfl, r32.1.trans (shB h1 (okb_f (by assumption) (by assumption) (by assumption) (by assumption))), r32.2.inv hI⟩
              | exact ⟨_, _, rfl, rfl, r33.1.trans (shA h1), r33.2.inv hI⟩
              | exact ⟨_, _, rfl, rfl, r33.1.trans (shB h1 (okb_f (by assumption) (by assumption) (by assumption) (by assumption))), r33.2.inv hI⟩
              | exact ⟨_, _, rfl, rfl, r34.1.trans (shA h1), r34.2.inv hI⟩
              | exact ⟨_, _, rfl, rfl, r34.1.trans (shB h1 (okb_f (by assumption) (by assumption) (by assumption) (by assumption))), r34.2.inv hI⟩
              | exact ⟨_, _, rfl, rfl, r35.1.trans (shA h1), r35.2.inv hI⟩
              | exact ⟨_, _, rfl, rfl, r35.1.trans (shB h1 (okb_f (by assumption) (by assumption) (by assumption) (by assumption))), r35.2.inv hI⟩
              | exact ⟨_, _, rfl, rfl, r36.1.trans (shA h1), r36.2.inv hI⟩
              | exact ⟨_, _, rfl, rfl, r36.1.trans (shB h1 (okb_f (by assumption) (by assumption) (by assumption) (by assumption))), r36.2.inv hI⟩
              | exact ⟨_, _, rfl, rfl, r37.1.trans (shA h1), r37.2.inv hI⟩
              | exact ⟨_, _, rfl, rfl, r37.1.trans (shB h1 (okb_f (by assumption) (by assumption) (by assumption) (by assumption))), r37.2.inv hI⟩
              | exact ⟨_, _, rfl, rfl, r38.1.trans (shA h1), r38.2.inv hI⟩
              | exact ⟨_, _, rfl, rfl, r38.1.trans (shB h1 (okb_f (by assumption) (by assumption) (by assumption) (by assumption))), r38.2.inv hI⟩
              | exact ⟨_, _, rfl, rfl, r39.1.trans (shA h1), r39.2.inv hI⟩
              | exact ⟨_, _, rfl, rfl, r39.1.trans (shB h1 (okb_f (by assumption) (by assumption) (by assumption) (by assumption))), r39.2.inv hI⟩
end SX
