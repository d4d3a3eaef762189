/-! ===== sheet(): its answers ===== -/
section SX
variable {X : mSc} {Q : Option Value → mHp → Prop} {M : mM} {s : Nat}
def okb (b : Int32) : Bool := decide (b = 0) || decide (b = nI 8) || decide (b = nI 16) || decide (b = nI 32)
def shS (s b n : Int32) : Int32 := if bI (nI 0 ≤ s ∧ s ≤ nI 3) = 0 then -1000001 else if okb b = false then -1000001 else if 0 ≤ n then (if n ≤ nI 40 then (if b = 0 then nI 0 else n) else -1000001) else -1000007
theorem okb_f {b : Int32} (h1 : ¬ b = 0) (h2 : ¬ b = nI 8) (h3 : ¬ b = nI 16) (h4 : ¬ b = nI 32) : okb b = false := by simp [okb, h1, h2, h3, h4]
theorem okb_t {b : Int32} (h : b = 0 ∨ b = nI 8 ∨ b = nI 16 ∨ b = nI 32) : ¬ okb b = false := by
  rcases h with rfl | rfl | rfl | rfl <;> decide
theorem shA {s b n : Int32} (h : bI (nI 0 ≤ s ∧ s ≤ nI 3) = 0) : (-1000001 : Int32) = shS s b n := by rw [shS, if_pos h]
theorem shB {s b n : Int32} (h : ¬ bI (nI 0 ≤ s ∧ s ≤ nI 3) = 0) (hb : okb b = false) : (-1000001 : Int32) = shS s b n := by rw [shS, if_neg h, if_pos hb]
theorem shC {s b n : Int32} (h : ¬ bI (nI 0 ≤ s ∧ s ≤ nI 3) = 0) (hb : ¬ okb b = false) (hn : ¬ 0 ≤ n) : (-1000007 : Int32) = shS s b n := by rw [shS, if_neg h, if_neg hb, if_neg hn]
theorem shD {s b n : Int32} (h : ¬ bI (nI 0 ≤ s ∧ s ≤ nI 3) = 0) (hb : ¬ okb b = false) (hn : 0 ≤ n) (hm : ¬ n ≤ nI 40) : (-1000001 : Int32) = shS s b n := by rw [shS, if_neg h, if_neg hb, if_pos hn, if_neg hm]
theorem shE {s b n : Int32} (h : ¬ bI (nI 0 ≤ s ∧ s ≤ nI 3) = 0) (hb : ¬ okb b = false) (hn : 0 ≤ n) (hm : n ≤ nI 40) : (if b = 0 then nI 0 else n) = shS s b n := by rw [shS, if_neg h, if_neg hb, if_pos hn, if_pos hm]
theorem v117 {a1 a2 w : Int32} (hs : s ≤ 3) : ∀ (n k : Nat) (M1 : mM), 40 - k < n → k ≤ 40 → Tw 58 M M1 → M1 (2 * s + 58) 2 = w → mEv X (QV (fun M' => Tw 58 M M' ∧ M' (2 * s + 58) 2 = w)) 117 20 [some (.ref (2 * s + 58)), some (.int a1), some (.int a2), some (.int (nI k))] [] (con M1) := by
  have hm : mMet 117 = some _ := rfl
  intro n
  induction n with
  | zero =>
    intro k M1 hkn hkb hT hw
    omega
  | succ n ih =>
    intro k M1 hkn hkb hT hw
    refine x_iload_n hm rfl rfl ?_
    refine x_bipush hm rfl (v := nI 40) (by decide) ?_
    refine x_icmp_ge hm rfl (t := 39) rfl (fun h1 => ?_) (fun h1 => ?_)
    · refine x_ret hm rfl rfl ?_
      exact ⟨_, rfl, rfl, hT, hw⟩
    · have hk : k < 40 := Nat.lt_of_not_le fun h => h1 (nI_le h (by omega))
      refine x_aload_n hm rfl rfl ?_
      refine x_getf hm rfl (by first | exact gR (sO hs) rfl) ?_
      refine x_iload_n hm rfl rfl ?_
      refine x_iconst hm rfl (v := nI 0) (by decide) ?_
      refine x_iast hm rfl (by first | exact sI (sRow hs) (by omega) (by decide) | exact sI rfl (by omega) (by decide)) ?_
      refine x_iinc hm rfl rfl (v := nI 1) (by decide) rfl ?_
      rw [jI_add]
      refine x_goto hm rfl (t := 20) rfl ?_
      exact ih _ _ (by omega) (by omega) (hT.trans (Tw.row39 hs)) ((mpn (by omega)).trans hw)
theorem u117 {z : Nat} {a1 : Int32} (hs : s ≤ 3) (hz : z ≤ 40) : ∃ M', mT X 117 [.ref (2 * s + 58), .int a1, .int (nI z)] (con M) none (con M') ∧ Tw 58 M M' ∧ M' (2 * s + 58) 2 = if a1 = 0 then nI 0 else nI z := by
  refine tv_of (row := _) rfl (Nat.le_of_ble_eq_true rfl) ?_
  have hm : mMet 117 = some _ := rfl
  refine x_aload_n hm rfl rfl ?_
  refine x_iload_n hm rfl rfl ?_
  refine x_putf hm rfl (pI (sO hs) rfl (by decide) (by first | exact mFit_int | rfl | decide) rfl) ?_
  refine x_aload_n hm rfl rfl ?_
  refine x_iload_n hm rfl rfl ?_
  refine x_if_ne hm rfl (t := 14) rfl (fun h1 => ?_) (fun h1 => ?_)
  · have hv : nI z = if a1 = 0 then nI 0 else nI z := (if_neg h1).symm
    refine x_iload_n hm rfl rfl ?_
    refine x_putf hm rfl (pI (sO hs) rfl (by decide) (by first | exact mFit_int | rfl | decide) rfl) ?_
    refine x_iconst hm rfl (v := nI 0) (by decide) ?_
    refine x_istore_n hm rfl rfl ?_
    exact v117 hs _ 0 _ (Nat.lt_succ_self _) (Nat.zero_le _) ((Tw.sh (c := 1) hs trivial).trans (Tw.sh (c := 2) hs (okI5 (by omega)))) (mp0.trans hv)
  · have hv : nI 0 = if a1 = 0 then nI 0 else nI z := (if_pos h1).symm
    refine x_iconst hm rfl (v := nI 0) (by decide) ?_
    refine x_goto hm rfl (t := 15) rfl ?_
    refine x_putf hm rfl (pI (sO hs) rfl (by decide) (by first | exact mFit_int | rfl | decide) rfl) ?_
    refine x_iconst hm rfl (v := nI 0) (by decide) ?_
    refine x_istore_n hm rfl rfl ?_
    exact v117 hs _ 0 _ (Nat.lt_succ_self _) (Nat.zero_le _) ((Tw.sh (c := 1) hs trivial).trans (Tw.sh (c := 2) hs (okI5 (by omega)))) (mp0.trans hv)
/-- the class -/
theorem u116e {z : Nat} {a2 : Int32} (hW : Wf M) (hs : s ≤ 3) (hz : z ≤ 40) : mEv X (QI (fun v M' => v = (if a2 = 0 then nI 0 else nI z) ∧ Ck M M')) 116 60 [some (.ref 0), some (.int (nI s)), some (.int a2), some (.int (nI z))] [] (con M) := by
  have hm : mMet 116 = some _ := rfl
  refine x_aload_n hm rfl rfl ?_
  refine x_getf hm rfl (gR rfl rfl) ?_
  refine x_iload_n hm rfl rfl ?_
  refine x_aald hm rfl (by first | exact lQ 2 (Or.inl rfl) rfl (shk hs) (by omega) (by decide) | exact lQ 3 (Or.inr (Or.inl rfl)) rfl rfl (by omega) (by decide)) ?_
  refine x_iload_n hm rfl rfl ?_
  refine x_iload_n hm rfl rfl ?_
  refine x_cVv hm rfl (by first | exact mCallSh hs (by decide) rfl rfl rfl rfl rfl) (u117 hs hz) (fun M1 r1 => ?_)
  refine x_aload_n hm rfl rfl ?_
  refine x_getf hm rfl (gR rfl rfl) ?_
  refine x_iload_n hm rfl rfl ?_
  refine x_aald hm rfl (by first | exact lQ 2 (Or.inl rfl) rfl (shk hs) (by omega) (by decide) | exact lQ 3 (Or.inr (Or.inl rfl)) rfl rfl (by omega) (by decide)) ?_
  refine x_getf hm rfl (by first | exact gI (sO hs) rfl) ?_
  refine x_iret hm rfl rfl (by first | rfl | exact bI_nar | decide) ?_
  first
    | exact ⟨_, _, rfl, rfl, r1.2, r1.1.ck hW⟩
    | exact ⟨_, _, rfl, rfl, r2.2, r2.1.ck hW⟩
    | exact ⟨_, _, rfl, rfl, r3.2, r3.1.ck hW⟩
theorem u116 {a1 a2 a3 : Int32} (hW : Wf M) : ∃ v M', mT X 116 [.ref 0, .int a1, .int a2, .int a3] (con M) (some (.int v)) (con M') ∧ v = shS a1 a2 a3 ∧ Ck M M' := by
  refine ti_of (row := _) rfl (Nat.le_of_ble_eq_true rfl) ?_
  have hm : mMet 116 = some _ := rfl
  refine x_iload_n hm rfl rfl ?_
  refine x_callS hm rfl rfl (t78) ?_
  refine x_if_eq hm rfl (t := 29) rfl (fun h1 => ?_) (fun h1 => ?_)
  · refine x_aload_n hm rfl rfl ?_
    refine x_ldcI hm rfl (v := (-1000001 : Int32)) (by decide +kernel) ?_
    refine x_cVi hm rfl rfl (t7 (by decide +kernel)) (fun v2 M2 r2 => ?_)
    refine x_iret hm rfl rfl (by first | rfl | exact bI_nar | decide) ?_
    first
      | exact ⟨_, _, rfl, rfl, r2.1.trans (shA h1), r2.2.ck hW⟩
      | exact ⟨_, _, rfl, rfl, r2.1.trans (shB h1 (okb_f (by assumption) (by assumption) (by assumption) (by assumption))), r2.2.ck hW⟩
      | exact ⟨_, _, rfl, rfl, r1.1.trans (shA h1), r1.2.ck hW⟩
      | exact ⟨_, _, rfl, rfl, r1.1.trans (shB h1 (okb_f (by assumption) (by assumption) (by assumption) (by assumption))), r1.2.ck hW⟩
      | exact ⟨_, _, rfl, rfl, r3.1.trans (shA h1), r3.2.ck hW⟩
      | exact ⟨_, _, rfl, rfl, r3.1.trans (shB h1 (okb_f (by assumption) (by assumption) (by assumption) (by assumption))), r3.2.ck hW⟩
      | exact ⟨_, _, rfl, rfl, r4.1.trans (shA h1), r4.2.ck hW⟩
      | exact ⟨_, _, rfl, rfl, r4.1.trans (shB h1 (okb_f (by assumption) (by assumption) (by assumption) (by assumption))), r4.2.ck hW⟩
      | exact ⟨_, _, rfl, rfl, r5.1.trans (shA h1), r5.2.ck hW⟩
      | exact ⟨_, _, rfl, rfl, r5.1.trans (shB h1 (okb_f (by assumption) (by assumption) (by assumption) (by assumption))), r5.2.ck hW⟩
      | exact ⟨_, _, rfl, rfl, r6.1.trans (shA h1), r6.2.ck hW⟩
      | exact ⟨_, _, rfl, rfl, r6.1.trans (shB h1 (okb_f (by assumption) (by assumption) (by assumption) (by assumption))), r6.2.ck hW⟩
      | exact ⟨_, _, rfl, rfl, r7.1.trans (shA h1), r7.2.ck hW⟩
      | exact ⟨_, _, rfl, rfl, r7.1.trans (shB h1 (okb_f (by assumption) (by assumption) (by assumption) (by assumption))), r7.2.ck hW⟩
      | exact ⟨_, _, rfl, rfl, r8.1.trans (shA h1), r8.2.ck hW⟩
      | exact ⟨_, _, rfl, rfl, r8.1.trans (shB h1 (okb_f (by assumption) (by assumption) (by assumption) (by assumption))), r8.2.ck hW⟩
      | exact ⟨_, _, rfl, rfl, r9.1.trans (shA h1), r9.2.ck hW⟩
      | exact ⟨_, _, rfl, rfl, r9.1.trans (shB h1 (okb_f (by assumption) (by assumption) (by assumption) (by assumption))), r9.2.ck hW⟩
      | exact ⟨_, _, rfl, rfl, r10.1.trans (shA h1), r10.2.ck hW⟩
      | exact ⟨_, _, rfl, rfl, r10.1.trans (shB h1 (okb_f (by assumption) (by assumption) (by assumption) (by assumption))), r10.2.ck hW⟩
      | exact ⟨_, _, rfl, rfl, r11.1.trans (shA h1), r11.2.ck hW⟩
      | exact ⟨_, _, rfl, rfl, r11.1.trans (shB h1 (okb_f (by assumption) (by assumption) (by assumption) (by assumption))), r11.2.ck hW⟩
      | exact ⟨_, _, rfl, rfl, r12.1.trans (shA h1), r12.2.ck hW⟩
      | exact ⟨_, _, rfl, rfl, r12.1.trans (shB h1 (okb_f (by assumption) (by assumption) (by assumption) (by assumption))), r12.2.ck hW⟩
      | exact ⟨_, _, rfl, rfl, r13.1.trans (shA h1), r13.2.ck hW⟩
      | exact ⟨_, _, rfl, rfl, r13.1.trans (shB h1 (okb_f (by assumption) (by assumption) (by assumption) (by assumption))), r13.2.ck hW⟩
      | exact ⟨_, _, rfl, rfl, r14.1.trans (shA h1), r14.2.ck hW⟩
      | exact ⟨_, _, rfl, rfl, r14.1.trans (shB h1 (okb_f (by assumption) (by assumption) (by assumption) (by assumption))), r14.2.ck hW⟩
      | exact ⟨_, _, rfl, rfl, r15.1.trans (shA h1), r15.2.ck hW⟩
      | exact ⟨_, _, rfl, rfl, r15.1.trans (shB h1 (okb_f (by assumption) (by assumption) (by assumption) (by assumption))), r15.2.ck hW⟩
      | exact ⟨_, _, rfl, rfl, r16.1.trans (shA h1), r16.2.ck hW⟩
      | exact ⟨_, _, rfl, rfl, r16.1.trans (shB h1 (okb_f (by assumption) (by assumption) (by assumption) (by assumption))), r16.2.ck hW⟩
      | exact ⟨_, _, rfl, rfl, r17.1.trans (shA h1), r17.2.ck hW⟩
      | exact ⟨_, _, rfl, rfl, r17.1.trans (shB h1 (okb_f (by assumption) (by assumption) (by assumption) (by assumption))), r17.2.ck hW⟩
      | exact ⟨_, _, rfl, rfl, r18.1.trans (shA h1), r18.2.ck hW⟩
      | exact ⟨_, _, rfl, rfl, r18.1.trans (shB h1 (okb_f (by assumption) (by assumption) (by assumption) (by assumption))), r18.2.ck hW⟩
      | exact ⟨_, _, rfl, rfl, r19.1.trans (shA h1), r19.2.ck hW⟩
      | exact ⟨_, _, rfl, rfl, r19.1.trans (shB h1 (okb_f (by assumption) (by assumption) (by assumption) (by assumption))), r19.2.ck hW⟩
      | exact ⟨_, _, rfl, rfl, r20.1.trans (shA h1), r20.2.ck hW⟩
      | exact ⟨_, _, rfl, rfl, r20.1.trans (shB h1 (okb_f (by assumption) (by assumption) (by assumption) (by assumption))), r20.2.ck hW⟩
      | exact ⟨_, _, rfl, rfl, r21.1.trans (shA h1), r21.2.ck hW⟩
      | exact ⟨_, _, rfl, rfl, r21.1.trans (shB h1 (okb_f (by assumption) (by assumption) (by assumption) (by assumption))), r21.2.ck hW⟩
      | exact ⟨_, _, rfl, rfl, r22.1.trans (shA h1), r22.2.ck hW⟩
      | exact ⟨_, _, rfl, rfl, r22.1.trans (shB h1 (okb_f (by assumption) (by assumption) (by assumption) (by assumption))), r22.2.ck hW⟩
      | exact ⟨_, _, rfl, rfl, r23.1.trans (shA h1), r23.2.ck hW⟩
      | exact ⟨_, _, rfl, rfl, r23.1.trans (shB h1 (okb_f (by assumption) (by assumption) (by assumption) (by assumption))), r23.2.ck hW⟩
      | exact ⟨_, _, rfl, rfl, r24.1.trans (shA h1), r24.2.ck hW⟩
      | exact ⟨_, _, rfl, rfl, r24.1.trans (shB h1 (okb_f (by assumption) (by assumption) (by assumption) (by assumption))), r24.2.ck hW⟩
      | exact ⟨_, _, rfl, rfl, r25.1.trans (shA h1), r25.2.ck hW⟩
      | exact ⟨_, _, rfl, rfl, r25.1.trans (shB h1 (okb_f (by assumption) (by assumption) (by assumption) (by assumption))), r25.2.ck hW⟩
      | exact ⟨_, _, rfl, rfl, r26.1.trans (shA h1), r26.2.ck hW⟩
      | exact ⟨_, _, rfl, rfl, r26.1.trans (shB h1 (okb_f (by assumption) (by assumption) (by assumption) (by assumption))), r26.2.ck hW⟩
      | exact ⟨_, _, rfl, rfl, r27.1.trans (shA h1), r27.2.ck hW⟩
      | exact ⟨_, _, rfl, rfl, r27.1.trans (shB h1 (okb_f (by assumption) (by assumption) (by assumption) (by assumption))), r27.2.ck hW⟩
      | exact ⟨_, _, rfl, rfl, r28.1.trans (shA h1), r28.2.ck hW⟩
      | exact ⟨_, _, rfl, rfl, r28.1.trans (shB h1 (okb_f (by assumption) (by assumption) (by assumption) (by assumption))), r28.2.ck hW⟩
      | exact ⟨_, _, rfl, rfl, r29.1.trans (shA h1), r29.2.ck hW⟩
      | exact ⟨_, _, rfl, rfl, r29.1.trans (shB h1 (okb_f (by assumption) (by assumption) (by assumption) (by assumption))), r29.2.ck hW⟩
      | exact ⟨_, _, rfl, rfl, r30.1.trans (shA h1), r30.2.ck hW⟩
      | exact ⟨_, _, rfl, rfl, r30.1.trans (shB h1 (okb_f (by assumption) (by assumption) (by assumption) (by assumption))), r30.2.ck hW⟩
      | exact ⟨_, _, rfl, rfl, r31.1.trans (shA h1), r31.2.ck hW⟩
      | exact ⟨_, _, rfl, rfl, r31.1.trans (shB h1 (okb_f (by assumption) (by assumption) (by assumption) (by assumption))), r31.2.ck hW⟩
      | exact ⟨_, _, rfl, rfl, r32.1.trans (shA h1), r32.2.ck hW⟩
      | exact ⟨_, _, rfl, rfl, r32.1.trans (shB h1 (okb_f (by assumption) (by assumption) (by assumption) (by assumption))), r32.2.ck hW⟩
      | exact ⟨_, _, rfl, rfl, r33.1.trans (shA h1), r33.2.ck hW⟩
      | exact ⟨_, _, rfl, rfl, r33.1.trans (shB h1 (okb_f (by assumption) (by assumption) (by assumption) (by assumption))), r33.2.ck hW⟩
      | exact ⟨_, _, rfl, rfl, r34.1.trans (shA h1), r34.2.ck hW⟩
      | exact ⟨_, _, rfl, rfl, r34.1.trans (shB h1 (okb_f (by assumption) (by assumption) (by assumption) (by assumption))), r34.2.ck hW⟩
      | exact ⟨_, _, rfl, rfl, r35.1.trans (shA h1), r35.2.ck hW⟩
      | exact ⟨_, _, rfl, rfl, r35.1.trans (shB h1 (okb_f (by assumption) (by assumption) (by assumption) (by assumption))), r35.2.ck hW⟩
      | exact ⟨_, _, rfl, rfl, r36.1.trans (shA h1), r36.2.ck hW⟩
      | exact ⟨_, _, rfl, rfl, r36.1.trans (shB h1 (okb_f (by assumption) (by assumption) (by assumption) (by assumption))), r36.2.ck hW⟩
      | exact ⟨_, _, rfl, rfl, r37.1.trans (shA h1), r37.2.ck hW⟩
      | exact ⟨_, _, rfl, rfl, r37.1.trans (shB h1 (okb_f (by assumption) (by assumption) (by assumption) (by assumption))), r37.2.ck hW⟩
      | exact ⟨_, _, rfl, rfl, r38.1.trans (shA h1), r38.2.ck hW⟩
      | exact ⟨_, _, rfl, rfl, r38.1.trans (shB h1 (okb_f (by assumption) (by assumption) (by assumption) (by assumption))), r38.2.ck hW⟩
      | exact ⟨_, _, rfl, rfl, r39.1.trans (shA h1), r39.2.ck hW⟩
      | exact ⟨_, _, rfl, rfl, r39.1.trans (shB h1 (okb_f (by assumption) (by assumption) (by assumption) (by assumption))), r39.2.ck hW⟩
  · refine x_iload_n hm rfl rfl ?_
    refine x_if_eq hm rfl (t := 36) rfl (fun h3 => ?_) (fun h3 => ?_)
    · have hb := okb_t (Or.inl h3)
      refine x_iload_n hm rfl rfl ?_
      refine x_if_ge hm rfl (t := 47) rfl (fun h4 => ?_) (fun h4 => ?_)
      · have hn0 := h4
        refine x_iload_n hm rfl rfl ?_
        refine x_bipush hm rfl (v := nI 40) (by decide) ?_
        refine x_icmp_le hm rfl (t := 60) rfl (fun h5 => ?_) (fun h5 => ?_)
        · have hn4 := h5
          obtain ⟨z, hz, hz3⟩ : ∃ z, z ≤ 40 ∧ a3 = nI z := by
            obtain ⟨z, hz, e⟩ := jI_of (v := a3) (fun q => Int32.not_lt.mpr hn0 q)
            exact ⟨z, (jI_le hz (by decide)).mp (by rw [← e]; exact hn4), e⟩
          obtain ⟨s, hs, hs3⟩ := le_k (by omega) (bI_ne0 h1)
          subst hz3
          subst hs3
          exact ev_mono (u116e hW hs hz) (fun r D ⟨v, M2, g1, g2, g3, g4⟩ => ⟨v, M2, g1, g2, g3.trans (shE h1 hb hn0 hn4), g4⟩)
        · refine x_aload_n hm rfl rfl ?_
          refine x_ldcI hm rfl (v := (-1000001 : Int32)) (by decide +kernel) ?_
          refine x_cVi hm rfl rfl (t7 (by decide +kernel)) (fun v6 M6 r6 => ?_)
          refine x_iret hm rfl rfl (by first | rfl | exact bI_nar | decide) ?_
          first
            | exact ⟨_, _, rfl, rfl, r6.1.trans (shD h1 hb hn0 (by assumption)), r6.2.ck hW⟩
            | exact ⟨_, _, rfl, rfl, r1.1.trans (shD h1 hb hn0 (by assumption)), r1.2.ck hW⟩
            | exact ⟨_, _, rfl, rfl, r2.1.trans (shD h1 hb hn0 (by assumption)), r2.2.ck hW⟩
            | exact ⟨_, _, rfl, rfl, r3.1.trans (shD h1 hb hn0 (by assumption)), r3.2.ck hW⟩
            | exact ⟨_, _, rfl, rfl, r4.1.trans (shD h1 hb hn0 (by assumption)), r4.2.ck hW⟩
            | exact ⟨_, _, rfl, rfl, r5.1.trans (shD h1 hb hn0 (by assumption)), r5.2.ck hW⟩
            | exact ⟨_, _, rfl, rfl, r7.1.trans (shD h1 hb hn0 (by assumption)), r7.2.ck hW⟩
            | exact ⟨_, _, rfl, rfl, r8.1.trans (shD h1 hb hn0 (by assumption)), r8.2.ck hW⟩
            | exact ⟨_, _, rfl, rfl, r9.1.trans (shD h1 hb hn0 (by assumption)), r9.2.ck hW⟩
            | exact ⟨_, _, rfl, rfl, r10.1.trans (shD h1 hb hn0 (by assumption)), r10.2.ck hW⟩
            | exact ⟨_, _, rfl, rfl, r11.1.trans (shD h1 hb hn0 (by assumption)), r11.2.ck hW⟩
            | exact ⟨_, _, rfl, rfl, r12.1.trans (shD h1 hb hn0 (by assumption)), r12.2.ck hW⟩
            | exact ⟨_, _, rfl, rfl, r13.1.trans (shD h1 hb hn0 (by assumption)), r13.2.ck hW⟩
            | exact ⟨_, _, rfl, rfl, r14.1.trans (shD h1 hb hn0 (by assumption)), r14.2.ck hW⟩
            | exact ⟨_, _, rfl, rfl, r15.1.trans (shD h1 hb hn0 (by assumption)), r15.2.ck hW⟩
            | exact ⟨_, _, rfl, rfl, r16.1.trans (shD h1 hb hn0 (by assumption)), r16.2.ck hW⟩
            | exact ⟨_, _, rfl, rfl, r17.1.trans (shD h1 hb hn0 (by assumption)), r17.2.ck hW⟩
            | exact ⟨_, _, rfl, rfl, r18.1.trans (shD h1 hb hn0 (by assumption)), r18.2.ck hW⟩
            | exact ⟨_, _, rfl, rfl, r19.1.trans (shD h1 hb hn0 (by assumption)), r19.2.ck hW⟩
            | exact ⟨_, _, rfl, rfl, r20.1.trans (shD h1 hb hn0 (by assumption)), r20.2.ck hW⟩
            | exact ⟨_, _, rfl, rfl, r21.1.trans (shD h1 hb hn0 (by assumption)), r21.2.ck hW⟩
            | exact ⟨_, _, rfl, rfl, r22.1.trans (shD h1 hb hn0 (by assumption)), r22.2.ck hW⟩
            | exact ⟨_, _, rfl, rfl, r23.1.trans (shD h1 hb hn0 (by assumption)), r23.2.ck hW⟩
            | exact ⟨_, _, rfl, rfl, r24.1.trans (shD h1 hb hn0 (by assumption)), r24.2.ck hW⟩
            | exact ⟨_, _, rfl, rfl, r25.1.trans (shD h1 hb hn0 (by assumption)), r25.2.ck hW⟩
            | exact ⟨_, _, rfl, rfl, r26.1.trans (shD h1 hb hn0 (by assumption)), r26.2.ck hW⟩
            | exact ⟨_, _, rfl, rfl, r27.1.trans (shD h1 hb hn0 (by assumption)), r27.2.ck hW⟩
            | exact ⟨_, _, rfl, rfl, r28.1.trans (shD h1 hb hn0 (by assumption)), r28.2.ck hW⟩
            | exact ⟨_, _, rfl, rfl, r29.1.trans (shD h1 hb hn0 (by assumption)), r29.2.ck hW⟩
            | exact ⟨_, _, rfl, rfl, r30.1.trans (shD h1 hb hn0 (by assumption)), r30.2.ck hW⟩
            | exact ⟨_, _, rfl, rfl, r31.1.trans (shD h1 hb hn0 (by assumption)), r31.2.ck hW⟩
            | exact ⟨_, _, rfl, rfl, r32.1.trans (shD h1 hb hn0 (by assumption)), r32.2.ck hW⟩
            | exact ⟨_, _, rfl, rfl, r33.1.trans (shD h1 hb hn0 (by assumption)), r33.2.ck hW⟩
            | exact ⟨_, _, rfl, rfl, r34.1.trans (shD h1 hb hn0 (by assumption)), r34.2.ck hW⟩
            | exact ⟨_, _, rfl, rfl, r35.1.trans (shD h1 hb hn0 (by assumption)), r35.2.ck hW⟩
            | exact ⟨_, _, rfl, rfl, r36.1.trans (shD h1 hb hn0 (by assumption)), r36.2.ck hW⟩
            | exact ⟨_, _, rfl, rfl, r37.1.trans (shD h1 hb hn0 (by assumption)), r37.2.ck hW⟩
            | exact ⟨_, _, rfl, rfl, r38.1.trans (shD h1 hb hn0 (by assumption)), r38.2.ck hW⟩
            | exact ⟨_, _, rfl, rfl, r39.1.trans (shD h1 hb hn0 (by assumption)), r39.2.ck hW⟩
      · refine x_aload_n hm rfl rfl ?_
        refine x_ldcI hm rfl (v := (-1000007 : Int32)) (by decide +kernel) ?_
        refine x_cVi hm rfl rfl (t7 (by decide +kernel)) (fun v7 M7 r7 => ?_)
        refine x_iret hm rfl rfl (by first | rfl | exact bI_nar | decide) ?_
        first
          | exact ⟨_, _, rfl, rfl, r7.1.trans (shC h1 hb (by assumption)), r7.2.ck hW⟩
          | exact ⟨_, _, rfl, rfl, r1.1.trans (shC h1 hb (by assumption)), r1.2.ck hW⟩
          | exact ⟨_, _, rfl, rfl, r2.1.trans (shC h1 hb (by assumption)), r2.2.ck hW⟩
          | exact ⟨_, _, rfl, rfl, r3.1.trans (shC h1 hb (by assumption)), r3.2.ck hW⟩
          | exact ⟨_, _, rfl, rfl, r4.1.trans (shC h1 hb (by assumption)), r4.2.ck hW⟩
          | exact ⟨_, _, rfl, rfl, r5.1.trans (shC h1 hb (by assumption)), r5.2.ck hW⟩
          | exact ⟨_, _, rfl, rfl, r6.1.trans (shC h1 hb (by assumption)), r6.2.ck hW⟩
          | exact ⟨_, _, rfl, rfl, r8.1.trans (shC h1 hb (by assumption)), r8.2.ck hW⟩
          | exact ⟨_, _, rfl, rfl, r9.1.trans (shC h1 hb (by assumption)), r9.2.ck hW⟩
          | exact ⟨_, _, rfl, rfl, r10.1.trans (shC h1 hb (by assumption)), r10.2.ck hW⟩
          | exact ⟨_, _, rfl, rfl, r11.1.trans (shC h1 hb (by assumption)), r11.2.ck hW⟩
          | exact ⟨_, _, rfl, rfl, r12.1.trans (shC h1 hb (by assumption)), r12.2.ck hW⟩
          | exact ⟨_, _, rfl, rfl, r13.1.trans (shC h1 hb (by assumption)), r13.2.ck hW⟩
          | exact ⟨_, _, rfl, rfl, r14.1.trans (shC h1 hb (by assumption)), r14.2.ck hW⟩
          | exact ⟨_, _, rfl, rfl, r15.1.trans (shC h1 hb (by assumption)), r15.2.ck hW⟩
          | exact ⟨_, _, rfl, rfl, r16.1.trans (shC h1 hb (by assumption)), r16.2.ck hW⟩
          | exact ⟨_, _, rfl, rfl, r17.1.trans (shC h1 hb (by assumption)), r17.2.ck hW⟩
          | exact ⟨_, _, rfl, rfl, r18.1.trans (shC h1 hb (by assumption)), r18.2.ck hW⟩
          | exact ⟨_, _, rfl, rfl, r19.1.trans (shC h1 hb (by assumption)), r19.2.ck hW⟩
          | exact ⟨_, _, rfl, rfl, r20.1.trans (shC h1 hb (by assumption)), r20.2.ck hW⟩
          | exact ⟨_, _, rfl, rfl, r21.1.trans (shC h1 hb (by assumption)), r21.2.ck hW⟩
          | exact ⟨_, _, rfl, rfl, r22.1.trans (shC h1 hb (by assumption)), r22.2.ck hW⟩
          | exact ⟨_, _, rfl, rfl, r23.1.trans (shC h1 hb (by assumption)), r23.2.ck hW⟩
          | exact ⟨_, _, rfl, rfl, r24.1.trans (shC h1 hb (by assumption)), r24.2.ck hW⟩
          | exact ⟨_, _, rfl, rfl, r25.1.trans (shC h1 hb (by assumption)), r25.2.ck hW⟩
          | exact ⟨_, _, rfl, rfl, r26.1.trans (shC h1 hb (by assumption)), r26.2.ck hW⟩
          | exact ⟨_, _, rfl, rfl, r27.1.trans (shC h1 hb (by assumption)), r27.2.ck hW⟩
          | exact ⟨_, _, rfl, rfl, r28.1.trans (shC h1 hb (by assumption)), r28.2.ck hW⟩
          | exact ⟨_, _, rfl, rfl, r29.1.trans (shC h1 hb (by assumption)), r29.2.ck hW⟩
          | exact ⟨_, _, rfl, rfl, r30.1.trans (shC h1 hb (by assumption)), r30.2.ck hW⟩
          | exact ⟨_, _, rfl, rfl, r31.1.trans (shC h1 hb (by assumption)), r31.2.ck hW⟩
          | exact ⟨_, _, rfl, rfl, r32.1.trans (shC h1 hb (by assumption)), r32.2.ck hW⟩
          | exact ⟨_, _, rfl, rfl, r33.1.trans (shC h1 hb (by assumption)), r33.2.ck hW⟩
          | exact ⟨_, _, rfl, rfl, r34.1.trans (shC h1 hb (by assumption)), r34.2.ck hW⟩
          | exact ⟨_, _, rfl, rfl, r35.1.trans (shC h1 hb (by assumption)), r35.2.ck hW⟩
          | exact ⟨_, _, rfl, rfl, r36.1.trans (shC h1 hb (by assumption)), r36.2.ck hW⟩
          | exact ⟨_, _, rfl, rfl, r37.1.trans (shC h1 hb (by assumption)), r37.2.ck hW⟩
          | exact ⟨_, _, rfl, rfl, r38.1.trans (shC h1 hb (by assumption)), r38.2.ck hW⟩
          | exact ⟨_, _, rfl, rfl, r39.1.trans (shC h1 hb (by assumption)), r39.2.ck hW⟩
    · refine x_iload_n hm rfl rfl ?_
      refine x_bipush hm rfl (v := nI 8) (by decide) ?_
      refine x_icmp_eq hm rfl (t := 36) rfl (fun h8 => ?_) (fun h8 => ?_)
      · have hb := okb_t (Or.inr (Or.inl h8))
        refine x_iload_n hm rfl rfl ?_
        refine x_if_ge hm rfl (t := 47) rfl (fun h9 => ?_) (fun h9 => ?_)
        · have hn0 := h9
          refine x_iload_n hm rfl rfl ?_
          refine x_bipush hm rfl (v := nI 40) (by decide) ?_
          refine x_icmp_le hm rfl (t := 60) rfl (fun h10 => ?_) (fun h10 => ?_)
          · have hn4 := h10
            obtain ⟨z, hz, hz3⟩ : ∃ z, z ≤ 40 ∧ a3 = nI z := by
              obtain ⟨z, hz, e⟩ := jI_of (v := a3) (fun q => Int32.not_lt.mpr hn0 q)
              exact ⟨z, (jI_le hz (by decide)).mp (by rw [← e]; exact hn4), e⟩
            obtain ⟨s, hs, hs3⟩ := le_k (by omega) (bI_ne0 h1)
            subst hz3
            subst hs3
            exact ev_mono (u116e hW hs hz) (fun r D ⟨v, M2, g1, g2, g3, g4⟩ => ⟨v, M2, g1, g2, g3.trans (shE h1 hb hn0 hn4), g4⟩)
          · refine x_aload_n hm rfl rfl ?_
            refine x_ldcI hm rfl (v := (-1000001 : Int32)) (by decide +kernel) ?_
            refine x_cVi hm rfl rfl (t7 (by decide +kernel)) (fun v11 M11 r11 => ?_)
            refine x_iret hm rfl rfl (by first | rfl | exact bI_nar | decide) ?_
            first
              | exact ⟨_, _, rfl, rfl, r11.1.trans (shD h1 hb hn0 (by assumption)), r11.2.ck hW⟩
              | exact ⟨_, _, rfl, rfl, r1.1.trans (shD h1 hb hn0 (by assumption)), r1.2.ck hW⟩
              | exact ⟨_, _, rfl, rfl, r2.1.trans (shD h1 hb hn0 (by assumption)), r2.2.ck hW⟩
              | exact ⟨_, _, rfl, rfl, r3.1.trans (shD h1 hb hn0 (by assumption)), r3.2.ck hW⟩
              | exact ⟨_, _, rfl, rfl, r4.1.trans (shD h1 hb hn0 (by assumption)), r4.2.ck hW⟩
              | exact ⟨_, _, rfl, rfl, r5.1.trans (shD h1 hb hn0 (by assumption)), r5.2.ck hW⟩
              | exact ⟨_, _, rfl, rfl, r6.1.trans (shD h1 hb hn0 (by assumption)), r6.2.ck hW⟩
              | exact ⟨_, _, rfl, rfl, r7.1.trans (shD h1 hb hn0 (by assumption)), r7.2.ck hW⟩
              | exact ⟨_, _, rfl, rfl, r8.1.trans (shD h1 hb hn0 (by assumption)), r8.2.ck hW⟩
              | exact ⟨_, _, rfl, rfl, r9.1.trans (shD h1 hb hn0 (by assumption)), r9.2.ck hW⟩
              | exact ⟨_, _, rfl, rfl, r10.1.trans (shD h1 hb hn0 (by assumption)), r10.2.ck hW⟩
              | exact ⟨_, _, rfl, rfl, r12.1.trans (shD h1 hb hn0 (by assumption)), r12.2.ck hW⟩
              | exact ⟨_, _, rfl, rfl, r13.1.trans (shD h1 hb hn0 (by assumption)), r13.2.ck hW⟩
              | exact ⟨_, _, rfl, rfl, r14.1.trans (shD h1 hb hn0 (by assumption)), r14.2.ck hW⟩
              | exact ⟨_, _, rfl, rfl, r15.1.trans (shD h1 hb hn0 (by assumption)), r15.2.ck hW⟩
              | exact ⟨_, _, rfl, rfl, r16.1.trans (shD h1 hb hn0 (by assumption)), r16.2.ck hW⟩
              | exact ⟨_, _, rfl, rfl, r17.1.trans (shD h1 hb hn0 (by assumption)), r17.2.ck hW⟩
              | exact ⟨_, _, rfl, rfl, r18.1.trans (shD h1 hb hn0 (by assumption)), r18.2.ck hW⟩
              | exact ⟨_, _, rfl, rfl, r19.1.trans (shD h1 hb hn0 (by assumption)), r19.2.ck hW⟩
              | exact ⟨_, _, rfl, rfl, r20.1.trans (shD h1 hb hn0 (by assumption)), r20.2.ck hW⟩
              | exact ⟨_, _, rfl, rfl, r21.1.trans (shD h1 hb hn0 (by assumption)), r21.2.ck hW⟩
              | exact ⟨_, _, rfl, rfl, r22.1.trans (shD h1 hb hn0 (by assumption)), r22.2.ck hW⟩
              | exact ⟨_, _, rfl, rfl, r23.1.trans (shD h1 hb hn0 (by assumption)), r23.2.ck hW⟩
              | exact ⟨_, _, rfl, rfl, r24.1.trans (shD h1 hb hn0 (by assumption)), r24.2.ck hW⟩
              | exact ⟨_, _, rfl, rfl, r25.1.trans (shD h1 hb hn0 (by assumption)), r25.2.ck hW⟩
              | exact ⟨_, _, rfl, rfl, r26.1.trans (shD h1 hb hn0 (by assumption)), r26.2.ck hW⟩
              | exact ⟨_, _, rfl, rfl, r27.1.trans (shD h1 hb hn0 (by assumption)), r27.2.ck hW⟩
              | exact ⟨_, _, rfl, rfl, r28.1.trans (shD h1 hb hn0 (by assumption)), r28.2.ck hW⟩
              | exact ⟨_, _, rfl, rfl, r29.1.trans (shD h1 hb hn0 (by assumption)), r29.2.ck hW⟩
              | exact ⟨_, _, rfl, rfl, r30.1.trans (shD h1 hb hn0 (by assumption)), r30.2.ck hW⟩
              | exact ⟨_, _, rfl, rfl, r31.1.trans (shD h1 hb hn0 (by assumption)), r31.2.ck hW⟩
              | exact ⟨_, _, rfl, rfl, r32.1.trans (shD h1 hb hn0 (by assumption)), r32.2.ck hW⟩
              | exact ⟨_, _, rfl, rfl, r33.1.trans (shD h1 hb hn0 (by assumption)), r33.2.ck hW⟩
              | exact ⟨_, _, rfl, rfl, r34.1.trans (shD h1 hb hn0 (by assumption)), r34.2.ck hW⟩
              | exact ⟨_, _, rfl, rfl, r35.1.trans (shD h1 hb hn0 (by assumption)), r35.2.ck hW⟩
              | exact ⟨_, _, rfl, rfl, r36.1.trans (shD h1 hb hn0 (by assumption)), r36.2.ck hW⟩
              | exact ⟨_, _, rfl, rfl, r37.1.trans (shD h1 hb hn0 (by assumption)), r37.2.ck hW⟩
              | exact ⟨_, _, rfl, rfl, r38.1.trans (shD h1 hb hn0 (by assumption)), r38.2.ck hW⟩
              | exact ⟨_, _, rfl, rfl, r39.1.trans (shD h1 hb hn0 (by assumption)), r39.2.ck hW⟩
        · refine x_aload_n hm rfl rfl ?_
          refine x_ldcI hm rfl (v := (-1000007 : Int32)) (by decide +kernel) ?_
          refine x_cVi hm rfl rfl (t7 (by decide +kernel)) (fun v12 M12 r12 => ?_)
          refine x_iret hm rfl rfl (by first | rfl | exact bI_nar | decide) ?_
          first
            | exact ⟨_, _, rfl, rfl, r12.1.trans (shC h1 hb (by assumption)), r12.2.ck hW⟩
            | exact ⟨_, _, rfl, rfl, r1.1.trans (shC h1 hb (by assumption)), r1.2.ck hW⟩
            | exact ⟨_, _, rfl, rfl, r2.1.trans (shC h1 hb (by assumption)), r2.2.ck hW⟩
            | exact ⟨_, _, rfl, rfl, r3.1.trans (shC h1 hb (by assumption)), r3.2.ck hW⟩
            | exact ⟨_, _, rfl, rfl, r4.1.trans (shC h1 hb (by assumption)), r4.2.ck hW⟩
            | exact ⟨_, _, rfl, rfl, r5.1.trans (shC h1 hb (by assumption)), r5.2.ck hW⟩
            | exact ⟨_, _, rfl, rfl, r6.1.trans (shC h1 hb (by assumption)), r6.2.ck hW⟩
            | exact ⟨_, _, rfl, rfl, r7.1.trans (shC h1 hb (by assumption)), r7.2.ck hW⟩
            | exact ⟨_, _, rfl, rfl, r8.1.trans (shC h1 hb (by assumption)), r8.2.ck hW⟩
            | exact ⟨_, _, rfl, rfl, r9.1.trans (shC h1 hb (by assumption)), r9.2.ck hW⟩
            | exact ⟨_, _, rfl, rfl, r10.1.trans (shC h1 hb (by assumption)), r10.2.ck hW⟩
            | exact ⟨_, _, rfl, rfl, r11.1.trans (shC h1 hb (by assumption)), r11.2.ck hW⟩
            | exact ⟨_, _, rfl, rfl, r13.1.trans (shC h1 hb (by assumption)), r13.2.ck hW⟩
            | exact ⟨_, _, rfl, rfl, r14.1.trans (shC h1 hb (by assumption)), r14.2.ck hW⟩
            | exact ⟨_, _, rfl, rfl, r15.1.trans (shC h1 hb (by assumption)), r15.2.ck hW⟩
            | exact ⟨_, _, rfl, rfl, r16.1.trans (shC h1 hb (by assumption)), r16.2.ck hW⟩
            | exact ⟨_, _, rfl, rfl, r17.1.trans (shC h1 hb (by assumption)), r17.2.ck hW⟩
            | exact ⟨_, _, rfl, rfl, r18.1.trans (shC h1 hb (by assumption)), r18.2.ck hW⟩
            | exact ⟨_, _, rfl, rfl, r19.1.trans (shC h1 hb (by assumption)), r19.2.ck hW⟩
            | exact ⟨_, _, rfl, rfl, r20.1.trans (shC h1 hb (by assumption)), r20.2.ck hW⟩
            | exact ⟨_, _, rfl, rfl, r21.1.trans (shC h1 hb (by assumption)), r21.2.ck hW⟩
            | exact ⟨_, _, rfl, rfl, r22.1.trans (shC h1 hb (by assumption)), r22.2.ck hW⟩
            | exact ⟨_, _, rfl, rfl, r23.1.trans (shC h1 hb (by assumption)), r23.2.ck hW⟩
            | exact ⟨_, _, rfl, rfl, r24.1.trans (shC h1 hb (by assumption)), r24.2.ck hW⟩
            | exact ⟨_, _, rfl, rfl, r25.1.trans (shC h1 hb (by assumption)), r25.2.ck hW⟩
            | exact ⟨_, _, rfl, rfl, r26.1.trans (shC h1 hb (by assumption)), r26.2.ck hW⟩
            | exact ⟨_, _, rfl, rfl, r27.1.trans (shC h1 hb (by assumption)), r27.2.ck hW⟩
            | exact ⟨_, _, rfl, rfl, r28.1.trans (shC h1 hb (by assumption)), r28.2.ck hW⟩
            | exact ⟨_, _, rfl, rfl, r29.1.trans (shC h1 hb (by assumption)), r29.2.ck hW⟩
            | exact ⟨_, _, rfl, rfl, r30.1.trans (shC h1 hb (by assumption)), r30.2.ck hW⟩
            | exact ⟨_, _, rfl, rfl, r31.1.trans (shC h1 hb (by assumption)), r31.2.ck hW⟩
            | exact ⟨_, _, rfl, rfl, r32.1.trans (shC h1 hb (by assumption)), r32.2.ck hW⟩
            | exact ⟨_, _, rfl, rfl, r33.1.trans (shC h1 hb (by assumption)), r33.2.ck hW⟩
            | exact ⟨_, _, rfl, rfl, r34.1.trans (shC h1 hb (by assumption)), r34.2.ck hW⟩
            | exact ⟨_, _, rfl, rfl, r35.1.trans (shC h1 hb (by assumption)), r35.2.ck hW⟩
            | exact ⟨_, _, rfl, rfl, r36.1.trans (shC h1 hb (by assumption)), r36.2.ck hW⟩
            | exact ⟨_, _, rfl, rfl, r37.1.trans (shC h1 hb (by assumption)), r37.2.ck hW⟩
            | exact ⟨_, _, rfl, rfl, r38.1.trans (shC h1 hb (by assumption)), r38.2.ck hW⟩
            | exact ⟨_, _, rfl, rfl, r39.1.trans (shC h1 hb (by assumption)), r39.2.ck hW⟩
      · refine x_iload_n hm rfl rfl ?_
        refine x_bipush hm rfl (v := nI 16) (by decide) ?_
        refine x_icmp_eq hm rfl (t := 36) rfl (fun h13 => ?_) (fun h13 => ?_)
        · have hb := okb_t (Or.inr (Or.inr (Or.inl h13)))
          refine x_iload_n hm rfl rfl ?_
          refine x_if_ge hm rfl (t := 47) rfl (fun h14 => ?_) (fun h14 => ?_)
          · have hn0 := h14
            refine x_iload_n hm rfl rfl ?_
            refine x_bipush hm rfl (v := nI 40) (by decide) ?_
            refine x_icmp_le hm rfl (t := 60) rfl (fun h15 => ?_) (fun h15 => ?_)
            · have hn4 := h15
              obtain ⟨z, hz, hz3⟩ : ∃ z, z ≤ 40 ∧ a3 = nI z := by
                obtain ⟨z, hz, e⟩ := jI_of (v := a3) (fun q => Int32.not_lt.mpr hn0 q)
                exact ⟨z, (jI_le hz (by decide)).mp (by rw [← e]; exact hn4), e⟩
              obtain ⟨s, hs, hs3⟩ := le_k (by omega) (bI_ne0 h1)
              subst hz3
              subst hs3
              exact ev_mono (u116e hW hs hz) (fun r D ⟨v, M2, g1, g2, g3, g4⟩ => ⟨v, M2, g1, g2, g3.trans (shE h1 hb hn0 hn4), g4⟩)
            · refine x_aload_n hm rfl rfl ?_
              refine x_ldcI hm rfl (v := (-1000001 : Int32)) (by decide +kernel) ?_
              refine x_cVi hm rfl rfl (t7 (by decide +kernel)) (fun v16 M16 r16 => ?_)
              refine x_iret hm rfl rfl (by first | rfl | exact bI_nar | decide) ?_
              first
                | exact ⟨_, _, rfl, rfl, r16.1.trans (shD h1 hb hn0 (by assumption)), r16.2.ck hW⟩
                | exact ⟨_, _, rfl, rfl, r1.1.trans (shD h1 hb hn0 (by assumption)), r1.2.ck hW⟩
                | exact ⟨_, _, rfl, rfl, r2.1.trans (shD h1 hb hn0 (by assumption)), r2.2.ck hW⟩
                | exact ⟨_, _, rfl, rfl, r3.1.trans (shD h1 hb hn0 (by assumption)), r3.2.ck hW⟩
                | exact ⟨_, _, rfl, rfl, r4.1.trans (shD h1 hb hn0 (by assumption)), r4.2.ck hW⟩
                | exact ⟨_, _, rfl, rfl, r5.1.trans (shD h1 hb hn0 (by assumption)), r5.2.ck hW⟩
                | exact ⟨_, _, rfl, rfl, r6.1.trans (shD h1 hb hn0 (by assumption)), r6.2.ck hW⟩
                | exact ⟨_, _, rfl, rfl, r7.1.trans (shD h1 hb hn0 (by assumption)), r7.2.ck hW⟩
                | exact ⟨_, _, rfl, rfl, r8.1.trans (shD h1 hb hn0 (by assumption)), r8.2.ck hW⟩
                | exact ⟨_, _, rfl, rfl, r9.1.trans (shD h1 hb hn0 (by assumption)), r9.2.ck hW⟩
                | exact ⟨_, _, rfl, rfl, r10.1.trans (shD h1 hb hn0 (by assumption)), r10.2.ck hW⟩
                | exact ⟨_, _, rfl, rfl, r11.1.trans (shD h1 hb hn0 (by assumption)), r11.2.ck hW⟩
                | exact ⟨_, _, rfl, rfl, r12.1.trans (shD h1 hb hn0 (by assumption)), r12.2.ck hW⟩
                | exact ⟨_, _, rfl, rfl, r13.1.trans (shD h1 hb hn0 (by assumption)), r13.2.ck hW⟩
                | exact ⟨_, _, rfl, rfl, r14.1.trans (shD h1 hb hn0 (by assumption)), r14.2.ck hW⟩
                | exact ⟨_, _, rfl, rfl, r15.1.trans (shD h1 hb hn0 (by assumption)), r15.2.ck hW⟩
                | exact ⟨_, _, rfl, rfl, r17.1.trans (shD h1 hb hn0 (by assumption)), r17.2.ck hW⟩
                | exact ⟨_, _, rfl, rfl, r18.1.trans (shD h1 hb hn0 (by assumption)), r18.2.ck hW⟩
                | exact ⟨_, _, rfl, rfl, r19.1.trans (shD h1 hb hn0 (by assumption)), r19.2.ck hW⟩
                | exact ⟨_, _, rfl, rfl, r20.1.trans (shD h1 hb hn0 (by assumption)), r20.2.ck hW⟩
                | exact ⟨_, _, rfl, rfl, r21.1.trans (shD h1 hb hn0 (by assumption)), r21.2.ck hW⟩
                | exact ⟨_, _, rfl, rfl, r22.1.trans (shD h1 hb hn0 (by assumption)), r22.2.ck hW⟩
                | exact ⟨_, _, rfl, rfl, r23.1.trans (shD h1 hb hn0 (by assumption)), r23.2.ck hW⟩
                | exact ⟨_, _, rfl, rfl, r24.1.trans (shD h1 hb hn0 (by assumption)), r24.2.ck hW⟩
                | exact ⟨_, _, rfl, rfl, r25.1.trans (shD h1 hb hn0 (by assumption)), r25.2.ck hW⟩
                | exact ⟨_, _, rfl, rfl, r26.1.trans (shD h1 hb hn0 (by assumption)), r26.2.ck hW⟩
                | exact ⟨_, _, rfl, rfl, r27.1.trans (shD h1 hb hn0 (by assumption)), r27.2.ck hW⟩
                | exact ⟨_, _, rfl, rfl, r28.1.trans (shD h1 hb hn0 (by assumption)), r28.2.ck hW⟩
                | exact ⟨_, _, rfl, rfl, r29.1.trans (shD h1 hb hn0 (by assumption)), r29.2.ck hW⟩
                | exact ⟨_, _, rfl, rfl, r30.1.trans (shD h1 hb hn0 (by assumption)), r30.2.ck hW⟩
                | exact ⟨_, _, rfl, rfl, r31.1.trans (shD h1 hb hn0 (by assumption)), r31.2.ck hW⟩
                | exact ⟨_, _, rfl, rfl, r32.1.trans (shD h1 hb hn0 (by assumption)), r32.2.ck hW⟩
                | exact ⟨_, _, rfl, rfl, r33.1.trans (shD h1 hb hn0 (by assumption)), r33.2.ck hW⟩
                | exact ⟨_, _, rfl, rfl, r34.1.trans (shD h1 hb hn0 (by assumption)), r34.2.ck hW⟩
                | exact ⟨_, _, rfl, rfl, r35.1.trans (shD h1 hb hn0 (by assumption)), r35.2.ck hW⟩
                | exact ⟨_, _, rfl, rfl, r36.1.trans (shD h1 hb hn0 (by assumption)), r36.2.ck hW⟩
                | exact ⟨_, _, rfl, rfl, r37.1.trans (shD h1 hb hn0 (by assumption)), r37.2.ck hW⟩
                | exact ⟨_, _, rfl, rfl, r38.1.trans (shD h1 hb hn0 (by assumption)), r38.2.ck hW⟩
                | exact ⟨_, _, rfl, rfl, r39.1.trans (shD h1 hb hn0 (by assumption)), r39.2.ck hW⟩
          · refine x_aload_n hm rfl rfl ?_
            refine x_ldcI hm rfl (v := (-1000007 : Int32)) (by decide +kernel) ?_
            refine x_cVi hm rfl rfl (t7 (by decide +kernel)) (fun v17 M17 r17 => ?_)
            refine x_iret hm rfl rfl (by first | rfl | exact bI_nar | decide) ?_
            first
              | exact ⟨_, _, rfl, rfl, r17.1.trans (shC h1 hb (by assumption)), r17.2.ck hW⟩
              | exact ⟨_, _, rfl, rfl, r1.1.trans (shC h1 hb (by assumption)), r1.2.ck hW⟩
              | exact ⟨_, _, rfl, rfl, r2.1.trans (shC h1 hb (by assumption)), r2.2.ck hW⟩
              | exact ⟨_, _, rfl, rfl, r3.1.trans (shC h1 hb (by assumption)), r3.2.ck hW⟩
              | exact ⟨_, _, rfl, rfl, r4.1.trans (shC h1 hb (by assumption)), r4.2.ck hW⟩
              | exact ⟨_, _, rfl, rfl, r5.1.trans (shC h1 hb (by assumption)), r5.2.ck hW⟩
              | exact ⟨_, _, rfl, rfl, r6.1.trans (shC h1 hb (by assumption)), r6.2.ck hW⟩
              | exact ⟨_, _, rfl, rfl, r7.1.trans (shC h1 hb (by assumption)), r7.2.ck hW⟩
              | exact ⟨_, _, rfl, rfl, r8.1.trans (shC h1 hb (by assumption)), r8.2.ck hW⟩
              | exact ⟨_, _, rfl, rfl, r9.1.trans (shC h1 hb (by assumption)), r9.2.ck hW⟩
              | exact ⟨_, _, rfl, rfl, r10.1.trans (shC h1 hb (by assumption)), r10.2.ck hW⟩
              | exact ⟨_, _, rfl, rfl, r11.1.trans (shC h1 hb (by assumption)), r11.2.ck hW⟩
              | exact ⟨_, _, rfl, rfl, r12.1.trans (shC h1 hb (by assumption)), r12.2.ck hW⟩
              | exact ⟨_, _, rfl, rfl, r13.1.trans (shC h1 hb (by assumption)), r13.2.ck hW⟩
              | exact ⟨_, _, rfl, rfl, r14.1.trans (shC h1 hb (by assumption)), r14.2.ck hW⟩
              | exact ⟨_, _, rfl, rfl, r15.1.trans (shC h1 hb (by assumption)), r15.2.ck hW⟩
              | exact ⟨_, _, rfl, rfl, r16.1.trans (shC h1 hb (by assumption)), r16.2.ck hW⟩
              | exact ⟨_, _, rfl, rfl, r18.1.trans (shC h1 hb (by assumption)), r18.2.ck hW⟩
              | exact ⟨_, _, rfl, rfl, r19.1.trans (shC h1 hb (by assumption)), r19.2.ck hW⟩
              | exact ⟨_, _, rfl, rfl, r20.1.trans (shC h1 hb (by assumption)), r20.2.ck hW⟩
              | exact ⟨_, _, rfl, rfl, r21.1.trans (shC h1 hb (by assumption)), r21.2.ck hW⟩
              | exact ⟨_, _, rfl, rfl, r22.1.trans (shC h1 hb (by assumption)), r22.2.ck hW⟩
              | exact ⟨_, _, rfl, rfl, r23.1.trans (shC h1 hb (by assumption)), r23.2.ck hW⟩
              | exact ⟨_, _, rfl, rfl, r24.1.trans (shC h1 hb (by assumption)), r24.2.ck hW⟩
              | exact ⟨_, _, rfl, rfl, r25.1.trans (shC h1 hb (by assumption)), r25.2.ck hW⟩
              | exact ⟨_, _, rfl, rfl, r26.1.trans (shC h1 hb (by assumption)), r26.2.ck hW⟩
              | exact ⟨_, _, rfl, rfl, r27.1.trans (shC h1 hb (by assumption)), r27.2.ck hW⟩
              | exact ⟨_, _, rfl, rfl, r28.1.trans (shC h1 hb (by assumption)), r28.2.ck hW⟩
              | exact ⟨_, _, rfl, rfl, r29.1.trans (shC h1 hb (by assumption)), r29.2.ck hW⟩
              | exact ⟨_, _, rfl, rfl, r30.1.trans (shC h1 hb (by assumption)), r30.2.ck hW⟩
              | exact ⟨_, _, rfl, rfl, r31.1.trans (shC h1 hb (by assumption)), r31.2.ck hW⟩
              | exact ⟨_, _, rfl, rfl, r32.1.trans (shC h1 hb (by assumption)), r32.2.ck hW⟩
              | exact ⟨_, _, rfl, rfl, r33.1.trans (shC h1 hb (by assumption)), r33.2.ck hW⟩
              | exact ⟨_, _, rfl, rfl, r34.1.trans (shC h1 hb (by assumption)), r34.2.ck hW⟩
              | exact ⟨_, _, rfl, rfl, r35.1.trans (shC h1 hb (by assumption)), r35.2.ck hW⟩
              | exact ⟨_, _, rfl, rfl, r36.1.trans (shC h1 hb (by assumption)), r36.2.ck hW⟩
              | exact ⟨_, _, rfl, rfl, r37.1.trans (shC h1 hb (by assumption)), r37.2.ck hW⟩
              | exact ⟨_, _, rfl, rfl, r38.1.trans (shC h1 hb (by assumption)), r38.2.ck hW⟩
              | exact ⟨_, _, rfl, rfl, r39.1.trans (shC h1 hb (by assumption)), r39.2.ck hW⟩
        · refine x_iload_n hm rfl rfl ?_
          refine x_bipush hm rfl (v := nI 32) (by decide) ?_
          refine x_icmp_eq hm rfl (t := 36) rfl (fun h18 => ?_) (fun h18 => ?_)
          · have hb := okb_t (Or.inr (Or.inr (Or.inr h18)))
            refine x_iload_n hm rfl rfl ?_
            refine x_if_ge hm rfl (t := 47) rfl (fun h19 => ?_) (fun h19 => ?_)
            · have hn0 := h19
              refine x_iload_n hm rfl rfl ?_
              refine x_bipush hm rfl (v := nI 40) (by decide) ?_
              refine x_icmp_le hm rfl (t := 60) rfl (fun h20 => ?_) (fun h20 => ?_)
              · have hn4 := h20
                obtain ⟨z, hz, hz3⟩ : ∃ z, z ≤ 40 ∧ a3 = nI z := by
                  obtain ⟨z, hz, e⟩ := jI_of (v := a3) (fun q => Int32.not_lt.mpr hn0 q)
                  exact ⟨z, (jI_le hz (by decide)).mp (by rw [← e]; exact hn4), e⟩
                obtain ⟨s, hs, hs3⟩ := le_k (by omega) (bI_ne0 h1)
                subst hz3
                subst hs3
                exact ev_mono (u116e hW hs hz) (fun r D ⟨v, M2, g1, g2, g3, g4⟩ => ⟨v, M2, g1, g2, g3.trans (shE h1 hb hn0 hn4), g4⟩)
              · refine x_aload_n hm rfl rfl ?_
                refine x_ldcI hm rfl (v := (-1000001 : Int32)) (by decide +kernel) ?_
                refine x_cVi hm rfl rfl (t7 (by decide +kernel)) (fun v21 M21 r21 => ?_)
                refine x_iret hm rfl rfl (by first | rfl | exact bI_nar | decide) ?_
                first
                  | exact ⟨_, _, rfl, rfl, r21.1.trans (shD h1 hb hn0 (by assumption)), r21.2.ck hW⟩
                  | exact ⟨_, _, rfl, rfl, r1.1.trans (shD h1 hb hn0 (by assumption)), r1.2.ck hW⟩
                  | exact ⟨_, _, rfl, rfl, r2.1.trans (shD h1 hb hn0 (by assumption)), r2.2.ck hW⟩
                  | exact ⟨_, _, rfl, rfl, r3.1.trans (shD h1 hb hn0 (by assumption)), r3.2.ck hW⟩
                  | exact ⟨_, _, rfl, rfl, r4.1.trans (shD h1 hb hn0 (by assumption)), r4.2.ck hW⟩
                  | exact ⟨_, _, rfl, rfl, r5.1.trans (shD h1 hb hn0 (by assumption)), r5.2.ck hW⟩
                  | exact ⟨_, _, rfl, rfl, r6.1.trans (shD h1 hb hn0 (by assumption)), r6.2.ck hW⟩
                  | exact ⟨_, _, rfl, rfl, r7.1.trans (shD h1 hb hn0 (by assumption)), r7.2.ck hW⟩
                  | exact ⟨_, _, rfl, rfl, r8.1.trans (shD h1 hb hn0 (by assumption)), r8.2.ck hW⟩
                  | exact ⟨_, _, rfl, rfl, r9.1.trans (shD h1 hb hn0 (by assumption)), r9.2.ck hW⟩
                  | exact ⟨_, _, rfl, rfl, r10.1.trans (shD h1 hb hn0 (by assumption)), r10.2.ck hW⟩
                  | exact ⟨_, _, rfl, rfl, r11.1.trans (shD h1 hb hn0 (by assumption)), r11.2.ck hW⟩
                  | exact ⟨_, _, rfl, rfl, r12.1.trans (shD h1 hb hn0 (by assumption)), r12.2.ck hW⟩
                  | exact ⟨_, _, rfl, rfl, r13.1.trans (shD h1 hb hn0 (by assumption)), r13.2.ck hW⟩
                  | exact ⟨_, _, rfl, rfl, r14.1.trans (shD h1 hb hn0 (by assumption)), r14.2.ck hW⟩
                  | exact ⟨_, _, rfl, rfl, r15.1.trans (shD h1 hb hn0 (by assumption)), r15.2.ck hW⟩
                  | exact ⟨_, _, rfl, rfl, r16.1.trans (shD h1 hb hn0 (by assumption)), r16.2.ck hW⟩
                  | exact ⟨_, _, rfl, rfl, r17.1.trans (shD h1 hb hn0 (by assumption)), r17.2.ck hW⟩
                  | exact ⟨_, _, rfl, rfl, r18.1.trans (shD h1 hb hn0 (by assumption)), r18.2.ck hW⟩
                  | exact ⟨_, _, rfl, rfl, r19.1.trans (shD h1 hb hn0 (by assumption)), r19.2.ck hW⟩
                  | exact ⟨_, _, rfl, rfl, r20.1.trans (shD h1 hb hn0 (by assumption)), r20.2.ck hW⟩
                  | exact ⟨_, _, rfl, rfl, r22.1.trans (shD h1 hb hn0 (by assumption)), r22.2.ck hW⟩
                  | exact ⟨_, _, rfl, rfl, r23.1.trans (shD h1 hb hn0 (by assumption)), r23.2.ck hW⟩
                  | exact ⟨_, _, rfl, rfl, r24.1.trans (shD h1 hb hn0 (by assumption)), r24.2.ck hW⟩
                  | exact ⟨_, _, rfl, rfl, r25.1.trans (shD h1 hb hn0 (by assumption)), r25.2.ck hW⟩
                  | exact ⟨_, _, rfl, rfl, r26.1.trans (shD h1 hb hn0 (by assumption)), r26.2.ck hW⟩
                  | exact ⟨_, _, rfl, rfl, r27.1.trans (shD h1 hb hn0 (by assumption)), r27.2.ck hW⟩
                  | exact ⟨_, _, rfl, rfl, r28.1.trans (shD h1 hb hn0 (by assumption)), r28.2.ck hW⟩
                  | exact ⟨_, _, rfl, rfl, r29.1.trans (shD h1 hb hn0 (by assumption)), r29.2.ck hW⟩
                  | exact ⟨_, _, rfl, rfl, r30.1.trans (shD h1 hb hn0 (by assumption)), r30.2.ck hW⟩
                  | exact ⟨_, _, rfl, rfl, r31.1.trans (shD h1 hb hn0 (by assumption)), r31.2.ck hW⟩
                  | exact ⟨_, _, rfl, rfl, r32.1.trans (shD h1 hb hn0 (by assumption)), r32.2.ck hW⟩
                  | exact ⟨_, _, rfl, rfl, r33.1.trans (shD h1 hb hn0 (by assumption)), r33.2.ck hW⟩
                  | exact ⟨_, _, rfl, rfl, r34.1.trans (shD h1 hb hn0 (by assumption)), r34.2.ck hW⟩
                  | exact ⟨_, _, rfl, rfl, r35.1.trans (shD h1 hb hn0 (by assumption)), r35.2.ck hW⟩
                  | exact ⟨_, _, rfl, rfl, r36.1.trans (shD h1 hb hn0 (by assumption)), r36.2.ck hW⟩
                  | exact ⟨_, _, rfl, rfl, r37.1.trans (shD h1 hb hn0 (by assumption)), r37.2.ck hW⟩
                  | exact ⟨_, _, rfl, rfl, r38.1.trans (shD h1 hb hn0 (by assumption)), r38.2.ck hW⟩
                  | exact ⟨_, _, rfl, rfl, r39.1.trans (shD h1 hb hn0 (by assumption)), r39.2.ck hW⟩
            · refine x_aload_n hm rfl rfl ?_
              refine x_ldcI hm rfl (v := (-1000007 : Int32)) (by decide +kernel) ?_
              refine x_cVi hm rfl rfl (t7 (by decide +kernel)) (fun v22 M22 r22 => ?_)
              refine x_iret hm rfl rfl (by first | rfl | exact bI_nar | decide) ?_
              first
                | exact ⟨_, _, rfl, rfl, r22.1.trans (shC h1 hb (by assumption)), r22.2.ck hW⟩
                | exact ⟨_, _, rfl, rfl, r1.1.trans (shC h1 hb (by assumption)), r1.2.ck hW⟩
                | exact ⟨_, _, rfl, rfl, r2.1.trans (shC h1 hb (by assumption)), r2.2.ck hW⟩
                | exact ⟨_, _, rfl, rfl, r3.1.trans (shC h1 hb (by assumption)), r3.2.ck hW⟩
                | exact ⟨_, _, rfl, rfl, r4.1.trans (shC h1 hb (by assumption)), r4.2.ck hW⟩
                | exact ⟨_, _, rfl, rfl, r5.1.trans (shC h1 hb (by assumption)), r5.2.ck hW⟩
                | exact ⟨_, _, rfl, rfl, r6.1.trans (shC h1 hb (by assumption)), r6.2.ck hW⟩
                | exact ⟨_, _, rfl, rfl, r7.1.trans (shC h1 hb (by assumption)), r7.2.ck hW⟩
                | exact ⟨_, _, rfl, rfl, r8.1.trans (shC h1 hb (by assumption)), r8.2.ck hW⟩
                | exact ⟨_, _, rfl, rfl, r9.1.trans (shC h1 hb (by assumption)), r9.2.ck hW⟩
                | exact ⟨_, _, rfl, rfl, r10.1.trans (shC h1 hb (by assumption)), r10.2.ck hW⟩
                | exact ⟨_, _, rfl, rfl, r11.1.trans (shC h1 hb (by assumption)), r11.2.ck hW⟩
                | exact ⟨_, _, rfl, rfl, r12.1.trans (shC h1 hb (by assumption)), r12.2.ck hW⟩
                | exact ⟨_, _, rfl, rfl, r13.1.trans (shC h1 hb (by assumption)), r13.2.ck hW⟩
                | exact ⟨_, _, rfl, rfl, r14.1.trans (shC h1 hb (by assumption)), r14.2.ck hW⟩
                | exact ⟨_, _, rfl, rfl, r15.1.trans (shC h1 hb (by assumption)), r15.2.ck hW⟩
                | exact ⟨_, _, rfl, rfl, r16.1.trans (shC h1 hb (by assumption)), r16.2.ck hW⟩
                | exact ⟨_, _, rfl, rfl, r17.1.trans (shC h1 hb (by assumption)), r17.2.ck hW⟩
                | exact ⟨_, _, rfl, rfl, r18.1.trans (shC h1 hb (by assumption)), r18.2.ck hW⟩
                | exact ⟨_, _, rfl, rfl, r19.1.trans (shC h1 hb (by assumption)), r19.2.ck hW⟩
                | exact ⟨_, _, rfl, rfl, r20.1.trans (shC h1 hb (by assumption)), r20.2.ck hW⟩
                | exact ⟨_, _, rfl, rfl, r21.1.trans (shC h1 hb (by assumption)), r21.2.ck hW⟩
                | exact ⟨_, _, rfl, rfl, r23.1.trans (shC h1 hb (by assumption)), r23.2.ck hW⟩
                | exact ⟨_, _, rfl, rfl, r24.1.trans (shC h1 hb (by assumption)), r24.2.ck hW⟩
                | exact ⟨_, _, rfl, rfl, r25.1.trans (shC h1 hb (by assumption)), r25.2.ck hW⟩
                | exact ⟨_, _, rfl, rfl, r26.1.trans (shC h1 hb (by assumption)), r26.2.ck hW⟩
                | exact ⟨_, _, rfl, rfl, r27.1.trans (shC h1 hb (by assumption)), r27.2.ck hW⟩
                | exact ⟨_, _, rfl, rfl, r28.1.trans (shC h1 hb (by assumption)), r28.2.ck hW⟩
                | exact ⟨_, _, rfl, rfl, r29.1.trans (shC h1 hb (by assumption)), r29.2.ck hW⟩
                | exact ⟨_, _, rfl, rfl, r30.1.trans (shC h1 hb (by assumption)), r30.2.ck hW⟩
                | exact ⟨_, _, rfl, rfl, r31.1.trans (shC h1 hb (by assumption)), r31.2.ck hW⟩
                | exact ⟨_, _, rfl, rfl, r32.1.trans (shC h1 hb (by assumption)), r32.2.ck hW⟩
                | exact ⟨_, _, rfl, rfl, r33.1.trans (shC h1 hb (by assumption)), r33.2.ck hW⟩
                | exact ⟨_, _, rfl, rfl, r34.1.trans (shC h1 hb (by assumption)), r34.2.ck hW⟩
                | exact ⟨_, _, rfl, rfl, r35.1.trans (shC h1 hb (by assumption)), r35.2.ck hW⟩
                | exact ⟨_, _, rfl, rfl, r36.1.trans (shC h1 hb (by assumption)), r36.2.ck hW⟩
                | exact ⟨_, _, rfl, rfl, r37.1.trans (shC h1 hb (by assumption)), r37.2.ck hW⟩
                | exact ⟨_, _, rfl, rfl, r38.1.trans (shC h1 hb (by assumption)), r38.2.ck hW⟩
                | exact ⟨_, _, rfl, rfl, r39.1.trans (shC h1 hb (by assumption)), r39.2.ck hW⟩
          · refine x_aload_n hm rfl rfl ?_
            refine x_ldcI hm rfl (v := (-1000001 : Int32)) (by decide +kernel) ?_
            refine x_cVi hm rfl rfl (t7 (by decide +kernel)) (fun v23 M23 r23 => ?_)
            refine x_iret hm rfl rfl (by first | rfl | exact bI_nar | decide) ?_
            first
              | exact ⟨_, _, rfl, rfl, r23.1.trans (shA h1), r23.2.ck hW⟩
              | exact ⟨_, _, rfl, rfl, r23.1.trans (shB h1 (okb_f (by assumption) (by assumption) (by assumption) (by assumption))), r23.2.ck hW⟩
              | exact ⟨_, _, rfl, rfl, r1.1.trans (shA h1), r1.2.ck hW⟩
              | exact ⟨_, _, rfl, rfl, r1.1.trans (shB h1 (okb_f (by assumption) (by assumption) (by assumption) (by assumption))), r1.2.ck hW⟩
              | exact ⟨_, _, rfl, rfl, r2.1.trans (shA h1), r2.2.ck hW⟩
              | exact ⟨_, _, rfl, rfl, r2.1.trans (shB h1 (okb_f (by assumption) (by assumption) (by assumption) (by assumption))), r2.2.ck hW⟩
              | exact ⟨_, _, rfl, rfl, r3.1.trans (shA h1), r3.2.ck hW⟩
              | exact ⟨_, _, rfl, rfl, r3.1.trans (shB h1 (okb_f (by assumption) (by assumption) (by assumption) (by assumption))), r3.2.ck hW⟩
              | exact ⟨_, _, rfl, rfl, r4.1.trans (shA h1), r4.2.ck hW⟩
              | exact ⟨_, _, rfl, rfl, r4.1.trans (shB h1 (okb_f (by assumption) (by assumption) (by assumption) (by assumption))), r4.2.ck hW⟩
              | exact ⟨_, _, rfl, rfl, r5.1.trans (shA h1), r5.2.ck hW⟩
              | exact ⟨_, _, rfl, rfl, r5.1.trans (shB h1 (okb_f (by assumption) (by assumption) (by assumption) (by assumption))), r5.2.ck hW⟩
              | exact ⟨_, _, rfl, rfl, r6.1.trans (shA h1), r6.2.ck hW⟩
              | exact ⟨_, _, rfl, rfl, r6.1.trans (shB h1 (okb_f (by assumption) (by assumption) (by assumption) (by assumption))), r6.2.ck hW⟩
              | exact ⟨_, _, rfl, rfl, r7.1.trans (shA h1), r7.2.ck hW⟩
              | exact ⟨_, _, rfl, rfl, r7.1.trans (shB h1 (okb_f (by assumption) (by assumption) (by assumption) (by assumption))), r7.2.ck hW⟩
              | exact ⟨_, _, rfl, rfl, r8.1.trans (shA h1), r8.2.ck hW⟩
              | exact ⟨_, _, rfl, rfl, r8.1.trans (shB h1 (okb_f (by assumption) (by assumption) (by assumption) (by assumption))), r8.2.ck hW⟩
              | exact ⟨_, _, rfl, rfl, r9.1.trans (shA h1), r9.2.ck hW⟩
              | exact ⟨_, _, rfl, rfl, r9.1.trans (shB h1 (okb_f (by assumption) (by assumption) (by assumption) (by assumption))), r9.2.ck hW⟩
              | exact ⟨_, _, rfl, rfl, r10.1.trans (shA h1), r10.2.ck hW⟩
              | exact ⟨_, _, rfl, rfl, r10.1.trans (shB h1 (okb_f (by assumption) (by assumption) (by assumption) (by assumption))), r10.2.ck hW⟩
              | exact ⟨_, _, rfl, rfl, r11.1.trans (shA h1), r11.2.ck hW⟩
              | exact ⟨_, _, rfl, rfl, r11.1.trans (shB h1 (okb_f (by assumption) (by assumption) (by assumption) (by assumption))), r11.2.ck hW⟩
              | exact ⟨_, _, rfl, rfl, r12.1.trans (shA h1), r12.2.ck hW⟩
              | exact ⟨_, _, rfl, rfl, r12.1.trans (shB h1 (okb_f (by assumption) (by assumption) (by assumption) (by assumption))), r12.2.ck hW⟩
              | exact ⟨_, _, rfl, rfl, r13.1.trans (shA h1), r13.2.ck hW⟩
              | exact ⟨_, _, rfl, rfl, r13.1.trans (shB h1 (okb_f (by assumption) (by assumption) (by assumption) (by assumption))), r13.2.ck hW⟩
              | exact ⟨_, _, rfl, rfl, r14.1.trans (shA h1), r14.2.ck hW⟩
              | exact ⟨_, _, rfl, rfl, r14.1.trans (shB h1 (okb_f (by assumption) (by assumption) (by assumption) (by assumption))), r14.2.ck hW⟩
              | exact ⟨_, _, rfl, rfl, r15.1.trans (shA h1), r15.2.ck hW⟩
              | exact ⟨_, _, rfl, rfl, r15.1.trans (shB h1 (okb_f (by assumption) (by assumption) (by assumption) (by assumption))), r15.2.ck hW⟩
              | exact ⟨_, _, rfl, rfl, r16.1.trans (shA h1), r16.2.ck hW⟩
              | exact ⟨_, _, rfl, rfl, r16.1.trans (shB h1 (okb_f (by assumption) (by assumption) (by assumption) (by assumption))), r16.2.ck hW⟩
              | exact ⟨_, _, rfl, rfl, r17.1.trans (shA h1), r17.2.ck hW⟩
              | exact ⟨_, _, rfl, rfl, r17.1.trans (shB h1 (okb_f (by assumption) (by assumption) (by assumption) (by assumption))), r17.2.ck hW⟩
              | exact ⟨_, _, rfl, rfl, r18.1.trans (shA h1), r18.2.ck hW⟩
              | exact ⟨_, _, rfl, rfl, r18.1.trans (shB h1 (okb_f (by assumption) (by assumption) (by assumption) (by assumption))), r18.2.ck hW⟩
              | exact ⟨_, _, rfl, rfl, r19.1.trans (shA h1), r19.2.ck hW⟩
              | exact ⟨_, _, rfl, rfl, r19.1.trans (shB h1 (okb_f (by assumption) (by assumption) (by assumption) (by assumption))), r19.2.ck hW⟩
              | exact ⟨_, _, rfl, rfl, r20.1.trans (shA h1), r20.2.ck hW⟩
              | exact ⟨_, _, rfl, rfl, r20.1.trans (shB h1 (okb_f (by assumption) (by assumption) (by assumption) (by assumption))), r20.2.ck hW⟩
              | exact ⟨_, _, rfl, rfl, r21.1.trans (shA h1), r21.2.ck hW⟩
              | exact ⟨_, _, rfl, rfl, r21.1.trans (shB h1 (okb_f (by assumption) (by assumption) (by assumption) (by assumption))), r21.2.ck hW⟩
              | exact ⟨_, _, rfl, rfl, r22.1.trans (shA h1), r22.2.ck hW⟩
              | exact ⟨_, _, rfl, rfl, r22.1.trans (shB h1 (okb_f (by assumption) (by assumption) (by assumption) (by assumption))), r22.2.ck hW⟩
              | exact ⟨_, _, rfl, rfl, r24.1.trans (shA h1), r24.2.ck hW⟩
              | exact ⟨_, _, rfl, rfl, r24.1.trans (shB h1 (okb_f (by assumption) (by assumption) (by assumption) (by assumption))), r24.2.ck hW⟩
              | exact ⟨_, _, rfl, rfl, r25.1.trans (shA h1), r25.2.ck hW⟩
              | exact ⟨_, _, rfl, rfl, r25.1.trans (shB h1 (okb_f (by assumption) (by assumption) (by assumption) (by assumption))), r25.2.ck hW⟩
              | exact ⟨_, _, rfl, rfl, r26.1.trans (shA h1), r26.2.ck hW⟩
              | exact ⟨_, _, rfl, rfl, r26.1.trans (shB h1 (okb_f (by assumption) (by assumption) (by assumption) (by assumption))), r26.2.ck hW⟩
              | exact ⟨_, _, rfl, rfl, r27.1.trans (shA h1), r27.2.ck hW⟩
              | exact ⟨_, _, rfl, rfl, r27.1.trans (shB h1 (okb_f (by assumption) (by assumption) (by assumption) (by assumption))), r27.2.ck hW⟩
              | exact ⟨_, _, rfl, rfl, r28.1.trans (shA h1), r28.2.ck hW⟩
              | exact ⟨_, _, rfl, rfl, r28.1.trans (shB h1 (okb_f (by assumption) (by assumption) (by assumption) (by assumption))), r28.2.ck hW⟩
              | exact ⟨_, _, rfl, rfl, r29.1.trans (shA h1), r29.2.ck hW⟩
              | exact ⟨_, _, rfl, rfl, r29.1.trans (shB h1 (okb_f (by assumption) (by assumption) (by assumption) (by assumption))), r29.2.ck hW⟩
              | exact ⟨_, _, rfl, rfl, r30.1.trans (shA h1), r30.2.ck hW⟩
              | exact ⟨_, _, rfl, rfl, r30.1.trans (shB h1 (okb_f (by assumption) (by assumption) (by assumption) (by assumption))), r30.2.ck hW⟩
              | exact ⟨_, _, rfl, rfl, r31.1.trans (shA h1), r31.2.ck hW⟩
              | exact ⟨_, _, rfl, rfl, r31.1.trans (shB h1 (okb_f (by assumption) (by assumption) (by assumption) (by assumption))), r31.2.ck hW⟩
              | exact ⟨_, _, rfl, rfl, r32.1.trans (shA h1), r32.2.ck hW⟩
              | exact ⟨_, _, rfl, rfl, r32.1.trans (shB h1 (okb_f (by assumption) (by assumption) (by assumption) (by assumption))), r32.2.ck hW⟩
              | exact ⟨_, _, rfl, rfl, r33.1.trans (shA h1), r33.2.ck hW⟩
              | exact ⟨_, _, rfl, rfl, r33.1.trans (shB h1 (okb_f (by assumption) (by assumption) (by assumption) (by assumption))), r33.2.ck hW⟩
              | exact ⟨_, _, rfl, rfl, r34.1.trans (shA h1), r34.2.ck hW⟩
              | exact ⟨_, _, rfl, rfl, r34.1.trans (shB h1 (okb_f (by assumption) (by assumption) (by assumption) (by assumption))), r34.2.ck hW⟩
              | exact ⟨_, _, rfl, rfl, r35.1.trans (shA h1), r35.2.ck hW⟩
              | exact ⟨_, _, rfl, rfl, r35.1.trans (shB h1 (okb_f (by assumption) (by assumption) (by assumption) (by assumption))), r35.2.ck hW⟩
              | exact ⟨_, _, rfl, rfl, r36.1.trans (shA h1), r36.2.ck hW⟩
              | exact ⟨_, _, rfl, rfl, r36.1.trans (shB h1 (okb_f (by assumption) (by assumption) (by assumption) (by assumption))), r36.2.ck hW⟩
              | exact ⟨_, _, rfl, rfl, r37.1.trans (shA h1), r37.2.ck hW⟩
              | exact ⟨_, _, rfl, rfl, r37.1.trans (shB h1 (okb_f (by assumption) (by assumption) (by assumption) (by assumption))), r37.2.ck hW⟩
              | exact ⟨_, _, rfl, rfl, r38.1.trans (shA h1), r38.2.ck hW⟩
              | exact ⟨_, _, rfl, rfl, r38.1.trans (shB h1 (okb_f (by assumption) (by assumption) (by assumption) (by assumption))), r38.2.ck hW⟩
              | exact ⟨_, _, rfl, rfl, r39.1.trans (shA h1), r39.2.ck hW⟩
              | exact ⟨_, _, rfl, rfl, r39.1.trans (shB h1 (okb_f (by assumption) (by assumption) (by assumption) (by assumption))), r39.2.ck hW⟩
end SX
