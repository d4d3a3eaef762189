/-! ===== the reference: more trials ===== -/
section RG
variable {X : mSc} {Q : Option Value → mHp → Prop} {M : mM}
theorem ev_inv {m pc : Nat} {L : mLoc} {st : List Value} {D : mHp} (hI : Inv M) (h : mEv X (QI (fun _ M' => Sf M M')) m pc L st D) : mEv X (QI (fun _ M' => Inv M')) m pc L st D := by
  obtain ⟨n, r, D, g1, v, M2, g2, g3, g4⟩ := h
  exact ⟨n, r, D, g1, v, M2, g2, g3, g4.inv hI⟩
theorem t185 {a1 a2 : Int32} (hI : Inv M) : ∃ v M', mT X 185 [.ref 66, .int a1, .int a2] (con M) (some (.int v)) (con M') ∧ Inv M' := by
  refine ti_of (row := _) rfl (Nat.le_of_ble_eq_true rfl) ?_
  have hm : mMet 185 = some _ := rfl
  obtain ⟨nt, hn8, hnt⟩ := hI.1.nt
  refine x_aload_n hm rfl rfl ?_
  refine x_iload_n hm rfl rfl ?_
  refine x_callV hm rfl rfl (t139) ?_
  refine x_if_eq hm rfl (t := 34) rfl (fun h1 => ?_) (fun h1 => ?_)
  · refine x_aload_n hm rfl rfl ?_
    refine x_ldcI hm rfl (v := (-1000001 : Int32)) (by decide +kernel) ?_
    refine x_cVi hm rfl rfl (t135 (by decide +kernel)) (fun v2 M2 r2 => ?_)
    refine x_iret hm rfl rfl (by first | rfl | exact bI_nar | decide) ?_
    exact ⟨_, _, rfl, rfl, by first | exact hI | exact (r1.2.inv hI) | exact (r2.2.inv hI) | exact (r3.2.inv hI) | exact (r4.2.inv hI) | exact (r5.2.inv hI) | exact (r6.2.inv hI) | exact (r7.2.inv hI) | exact (r8.2.inv hI) | exact (r1.inv hI) | exact (r2.inv hI) | exact (r3.inv hI) | exact (r4.inv hI) | exact (r5.inv hI) | exact (r6.inv hI) | exact (r7.inv hI) | exact (r8.inv hI)⟩
  · obtain ⟨t, ht, rfl⟩ := in_k hnt (by omega) (bI_ne0 h1)
    refine x_iload_n hm rfl rfl ?_
    refine x_iconst hm rfl (v := nI 0) (by decide) ?_
    refine x_bipush hm rfl (v := nI 60) (by decide) ?_
    refine x_callS hm rfl rfl (t133) ?_
    refine x_if_eq hm rfl (t := 34) rfl (fun h3 => ?_) (fun h3 => ?_)
    · refine x_aload_n hm rfl rfl ?_
      refine x_ldcI hm rfl (v := (-1000001 : Int32)) (by decide +kernel) ?_
      refine x_cVi hm rfl rfl (t135 (by decide +kernel)) (fun v4 M4 r4 => ?_)
      refine x_iret hm rfl rfl (by first | rfl | exact bI_nar | decide) ?_
      exact ⟨_, _, rfl, rfl, by first | exact hI | exact (r1.2.inv hI) | exact (r2.2.inv hI) | exact (r3.2.inv hI) | exact (r4.2.inv hI) | exact (r5.2.inv hI) | exact (r6.2.inv hI) | exact (r7.2.inv hI) | exact (r8.2.inv hI) | exact (r1.inv hI) | exact (r2.inv hI) | exact (r3.inv hI) | exact (r4.inv hI) | exact (r5.inv hI) | exact (r6.inv hI) | exact (r7.inv hI) | exact (r8.inv hI)⟩
    · obtain ⟨a, ha, rfl⟩ := le_k (by omega) (bI_ne0 h3)
      refine x_aload_n hm rfl rfl ?_
      refine x_iload_n hm rfl rfl ?_
      refine x_iload_n hm rfl rfl ?_
      refine x_iconst hm rfl (v := nI 1) (by decide) ?_
      refine x_callS hm rfl rfl (t137) ?_
      refine x_bipush hm rfl (v := nI 16) (by decide) ?_
      refine x_iload_n hm rfl rfl ?_
      refine x_cVi hm rfl rfl (t186 hI.1 (by omega) (by omega) (by omega) (fun _ _ _ => Sf.thing (by omega) (by decide) (by decide) (by decide)) (by omega)) (fun v5 M5 r5 => ?_)
      refine x_goto hm rfl (t := 40) rfl ?_
      refine x_iret hm rfl rfl (by first | rfl | exact bI_nar | decide) ?_
      exact ⟨_, _, rfl, rfl, by first | exact hI | exact (r1.2.inv hI) | exact (r2.2.inv hI) | exact (r3.2.inv hI) | exact (r4.2.inv hI) | exact (r5.2.inv hI) | exact (r6.2.inv hI) | exact (r7.2.inv hI) | exact (r8.2.inv hI) | exact (r1.inv hI) | exact (r2.inv hI) | exact (r3.inv hI) | exact (r4.inv hI) | exact (r5.inv hI) | exact (r6.inv hI) | exact (r7.inv hI) | exact (r8.inv hI)⟩
theorem t187 {a1 a2 : Int32} (hI : Inv M) : ∃ v M', mT X 187 [.ref 66, .int a1, .int a2] (con M) (some (.int v)) (con M') ∧ Inv M' := by
  refine ti_of (row := _) rfl (Nat.le_of_ble_eq_true rfl) ?_
  have hm : mMet 187 = some _ := rfl
  obtain ⟨nt, hn8, hnt⟩ := hI.1.nt
  obtain ⟨np, hp8, hnp⟩ := hI.1.np
  refine x_aload_n hm rfl rfl ?_
  refine x_iload_n hm rfl rfl ?_
  refine x_callV hm rfl rfl (t139) ?_
  refine x_if_eq hm rfl (t := 42) rfl (fun h1 => ?_) (fun h1 => ?_)
  · refine x_aload_n hm rfl rfl ?_
    refine x_ldcI hm rfl (v := (-1000001 : Int32)) (by decide +kernel) ?_
    refine x_cVi hm rfl rfl (t135 (by decide +kernel)) (fun v2 M2 r2 => ?_)
    refine x_iret hm rfl rfl (by first | rfl | exact bI_nar | decide) ?_
    exact ⟨_, _, rfl, rfl, by first | exact hI | exact (r1.2.inv hI) | exact (r2.2.inv hI) | exact (r3.2.inv hI) | exact (r4.2.inv hI) | exact (r5.2.inv hI) | exact (r6.2.inv hI) | exact (r7.2.inv hI) | exact (r8.2.inv hI) | exact (r1.inv hI) | exact (r2.inv hI) | exact (r3.inv hI) | exact (r4.inv hI) | exact (r5.inv hI) | exact (r6.inv hI) | exact (r7.inv hI) | exact (r8.inv hI) | exact ((r3.trans r4.sf).inv hI) | exact ((r4.trans r5.sf).inv hI) | exact ((r2.trans r3.sf).inv hI) | exact ((r5.trans r6.sf).inv hI)⟩
  · obtain ⟨t, ht, rfl⟩ := in_k hnt (by omega) (bI_ne0 h1)
    refine x_iload_n hm rfl rfl ?_
    refine x_iconst hm rfl (v := nI 0) (by decide) ?_
    refine x_bipush hm rfl (v := nI 60) (by decide) ?_
    refine x_callS hm rfl rfl (t133) ?_
    refine x_if_eq hm rfl (t := 42) rfl (fun h3 => ?_) (fun h3 => ?_)
    · refine x_aload_n hm rfl rfl ?_
      refine x_ldcI hm rfl (v := (-1000001 : Int32)) (by decide +kernel) ?_
      refine x_cVi hm rfl rfl (t135 (by decide +kernel)) (fun v4 M4 r4 => ?_)
      refine x_iret hm rfl rfl (by first | rfl | exact bI_nar | decide) ?_
      exact ⟨_, _, rfl, rfl, by first | exact hI | exact (r1.2.inv hI) | exact (r2.2.inv hI) | exact (r3.2.inv hI) | exact (r4.2.inv hI) | exact (r5.2.inv hI) | exact (r6.2.inv hI) | exact (r7.2.inv hI) | exact (r8.2.inv hI) | exact (r1.inv hI) | exact (r2.inv hI) | exact (r3.inv hI) | exact (r4.inv hI) | exact (r5.inv hI) | exact (r6.inv hI) | exact (r7.inv hI) | exact (r8.inv hI) | exact ((r3.trans r4.sf).inv hI) | exact ((r4.trans r5.sf).inv hI) | exact ((r2.trans r3.sf).inv hI) | exact ((r5.trans r6.sf).inv hI)⟩
    · obtain ⟨a, ha, rfl⟩ := le_k (by omega) (bI_ne0 h3)
      refine x_aload_n hm rfl rfl ?_
      refine x_aload_n hm rfl rfl ?_
      refine x_iload_n hm rfl rfl ?_
      refine x_iload_n hm rfl rfl ?_
      refine x_iconst hm rfl (v := nI 4) (by decide) ?_
      refine x_callS hm rfl rfl (t137) ?_
      refine x_aload_n hm rfl rfl ?_
      refine x_getf hm rfl (gR rfl rfl) ?_
      refine x_iconst hm rfl (v := nI 2) (by decide) ?_
      refine x_iald hm rfl (lI rfl (by omega) (by decide)) ?_
      rw [hnp]
      refine x_iload_n hm rfl rfl ?_
      refine x_cVi hm rfl rfl (t186 hI.1 (by omega) (by omega) (by omega) (fun M1 v hv => Sf.owner (by omega) (by
      rcases hv with rfl | ⟨k, hk, rfl⟩
      · exact hI.1.owner (by omega)
      · exact okI2 (by omega))) (by omega)) (fun v5 M5 r5 => ?_)
      refine x_cVi hm rfl rfl (t177) (fun v6 M6 r6 => ?_)
      refine x_goto hm rfl (t := 48) rfl ?_
      refine x_iret hm rfl rfl (by first | rfl | exact bI_nar | decide) ?_
      exact ⟨_, _, rfl, rfl, by first | exact hI | exact (r1.2.inv hI) | exact (r2.2.inv hI) | exact (r3.2.inv hI) | exact (r4.2.inv hI) | exact (r5.2.inv hI) | exact (r6.2.inv hI) | exact (r7.2.inv hI) | exact (r8.2.inv hI) | exact (r1.inv hI) | exact (r2.inv hI) | exact (r3.inv hI) | exact (r4.inv hI) | exact (r5.inv hI) | exact (r6.inv hI) | exact (r7.inv hI) | exact (r8.inv hI) | exact ((r3.trans r4.sf).inv hI) | exact ((r4.trans r5.sf).inv hI) | exact ((r2.trans r3.sf).inv hI) | exact ((r5.trans r6.sf).inv hI)⟩
theorem l188 {a nb : Nat} (hW : Wf M) (ha : a ≤ 1000) (hnb : M 67 2 = nI nb) (h8 : nb ≤ 8) : ∀ (n k : Nat) (b l : Int32) (x5 : Option Value) (M1 : mM), nb - k < n → k ≤ nb → Sf M M1 → mEv X (QI (fun _ M' => Sf M M')) 188 25 [some (.ref 66), some (.int (nI a)), some (.int b), some (.int l), some (.int (nI k)), x5] [] (con M1) := by
  have hm : mMet 188 = some _ := rfl
  intro n
  induction n with
  | zero =>
    intro k b l x5 M1 hkn hkb hS
    omega
  | succ n ih =>
    intro k b l x5 M1 hkn hkb hS
    have hn1 : M1 67 2 = nI nb := hS.2.2.1.trans hnb
    refine x_iload hm rfl rfl ?_
    refine x_aload_n hm rfl rfl ?_
    refine x_getf hm rfl (gR rfl rfl) ?_
    refine x_iconst hm rfl (v := nI 2) (by decide) ?_
    refine x_iald hm rfl (lI rfl (by omega) (by decide)) ?_
    rw [hn1]
    refine x_icmp_ge hm rfl (t := 75) rfl (fun h1 => ?_) (fun h1 => ?_)
    · refine x_aload_n hm rfl rfl ?_
      refine x_iconst hm rfl (v := (-1 : Int32)) (by decide) ?_
      refine x_putf hm rfl (pI rfl rfl (by decide) (by first | exact mFit_int | rfl | decide) rfl) ?_
      have hS3 := hS.trans (Sf.put0 (M := M1) (v := -1) (kd66 (by decide : (6 : Nat) ≠ 9)) (by decide) (by decide))
      refine x_aload_n hm rfl rfl ?_
      refine x_iload_n hm rfl rfl ?_
      refine x_cVi hm rfl rfl (t177) (fun v2 M2 r2 => ?_)
      refine x_iret hm rfl rfl (by first | rfl | exact bI_nar | decide) ?_
      exact ⟨_, _, rfl, rfl, hS3.trans r2.sf⟩
    · have hk : k < nb := Nat.lt_of_not_le fun h => h1 (nI_le h (by omega))
      refine x_aload_n hm rfl rfl ?_
      refine x_iload hm rfl rfl ?_
      refine x_putf hm rfl (pI rfl rfl (by decide) (by first | exact mFit_int | rfl | decide) rfl) ?_
      have hS2 := hS.trans (Sf.put0 (M := M1) (v := nI k) (kd66 (by decide : (6 : Nat) ≠ 9)) (by decide) (by decide))
      refine x_aload_n hm rfl rfl ?_
      refine x_iload_n hm rfl rfl ?_
      refine x_cVi hm rfl rfl (t180 (hS2.1 hW) ha) (fun v3 M3 r3 => ?_)
      refine x_istore hm rfl rfl ?_
      refine x_iload hm rfl rfl ?_
      refine x_iload_n hm rfl rfl ?_
      refine x_icmp_ge hm rfl (t := 60) rfl (fun h4 => ?_) (fun h4 => ?_)
      · refine x_iload_n hm rfl rfl ?_
        refine x_istore_n hm rfl rfl ?_
        refine x_iload_n hm rfl rfl ?_
        refine x_iload hm rfl rfl ?_
        refine x_lib hm rfl rfl ?_
        dsimp only
        refine x_istore_n hm rfl rfl ?_
        refine x_iinc hm rfl rfl (v := nI 1) (by decide) rfl ?_
        rw [jI_add]
        refine x_goto hm rfl (t := 25) rfl ?_
        exact ih _ _ _ _ _ (by omega) (by omega) (hS2.trans r3)
      · refine x_iload hm rfl rfl ?_
        refine x_goto hm rfl (t := 61) rfl ?_
        refine x_istore_n hm rfl rfl ?_
        refine x_iload_n hm rfl rfl ?_
        refine x_iload hm rfl rfl ?_
        refine x_lib hm rfl rfl ?_
        dsimp only
        refine x_istore_n hm rfl rfl ?_
        refine x_iinc hm rfl rfl (v := nI 1) (by decide) rfl ?_
        rw [jI_add]
        refine x_goto hm rfl (t := 25) rfl ?_
        exact ih _ _ _ _ _ (by omega) (by omega) (hS2.trans r3)
theorem t188 {a1 : Int32} (hI : Inv M) : ∃ v M', mT X 188 [.ref 66, .int a1] (con M) (some (.int v)) (con M') ∧ Inv M' := by
  refine ti_of (row := _) rfl (Nat.le_of_ble_eq_true rfl) ?_
  have hm : mMet 188 = some _ := rfl
  obtain ⟨np, hp8, hnp⟩ := hI.1.np
  refine x_iload_n hm rfl rfl ?_
  refine x_iconst hm rfl (v := nI 0) (by decide) ?_
  refine x_bipush hm rfl (v := nI 60) (by decide) ?_
  refine x_callS hm rfl rfl (t133) ?_
  refine x_if_ne hm rfl (t := 17) rfl (fun h1 => ?_) (fun h1 => ?_)
  · obtain ⟨a, ha, rfl⟩ := le_k (by omega) (bI_ne0 h1)
    refine x_iconst hm rfl (v := (-1 : Int32)) (by decide) ?_
    refine x_istore_n hm rfl rfl ?_
    refine x_ldcI hm rfl (v := nI 2147483647) (by decide +kernel) ?_
    refine x_istore_n hm rfl rfl ?_
    refine x_iconst hm rfl (v := nI 0) (by decide) ?_
    refine x_istore hm rfl rfl ?_
    exact ev_inv hI (l188 hI.1 (by omega) hnp hp8 _ 0 _ _ _ _ (Nat.lt_succ_self _) (Nat.zero_le _) Sf.rf)
  · refine x_aload_n hm rfl rfl ?_
    refine x_ldcI hm rfl (v := (-1000001 : Int32)) (by decide +kernel) ?_
    refine x_cVi hm rfl rfl (t135 (by decide +kernel)) (fun v2 M2 r2 => ?_)
    refine x_iret hm rfl rfl (by first | rfl | exact bI_nar | decide) ?_
    exact ⟨_, _, rfl, rfl, by first | exact hI | exact (r1.2.inv hI) | exact (r2.2.inv hI) | exact (r3.2.inv hI) | exact (r1.inv hI) | exact (r2.inv hI) | exact (r3.inv hI)⟩
theorem t191 {a1 a2 : Int32} : ∃ v, mT X 191 [.int a1, .int a2] (con M) (some (.int v)) (con M) ∧ (v = nI 0 ∨ v = nI 1) := by
  refine te_of (row := _) rfl (Nat.le_of_ble_eq_true rfl) ?_
  have hm : mMet 191 = some _ := rfl
  refine x_iload_n hm rfl rfl ?_
  refine x_iload_n hm rfl rfl ?_
  refine x_ishr hm rfl ?_
  refine x_iconst hm rfl (v := nI 1) (by decide) ?_
  refine x_iand hm rfl ?_
  refine x_iconst hm rfl (v := nI 1) (by decide) ?_
  refine x_icmp_ne hm rfl (t := 13) rfl (fun h1 => ?_) (fun h1 => ?_)
  · refine x_iconst hm rfl (v := nI 0) (by decide) ?_
    refine x_iret hm rfl rfl (by first | rfl | exact bI_nar | decide) ?_
    exact ⟨_, rfl, rfl, by first | exact Or.inl rfl | exact Or.inr rfl⟩
  · refine x_iconst hm rfl (v := nI 1) (by decide) ?_
    refine x_goto hm rfl (t := 14) rfl ?_
    refine x_iret hm rfl rfl (by first | rfl | exact bI_nar | decide) ?_
    exact ⟨_, rfl, rfl, by first | exact Or.inl rfl | exact Or.inr rfl⟩
theorem l190b {nb : Nat} (hW : Wf M) (hnb : M 67 1 = nI nb) (h8 : nb ≤ 8) {s : Int32} {a lo : Int32} : ∀ (n k : Nat) (M1 : mM), nb - k < n → k ≤ nb → Sf M M1 → mEv X (QI (fun _ M' => Sf M M')) 190 68 [some (.ref 66), some (.int s), some (.int a), some (.int lo), some (.int (nI k))] [] (con M1) := by
  have hm : mMet 190 = some _ := rfl
  intro n
  induction n with
  | zero =>
    intro k M1 hkn hkb hS
    omega
  | succ n ih =>
    intro k M1 hkn hkb hS
    have hn1 : M1 67 1 = nI nb := hS.2.1.trans hnb
    refine x_iload hm rfl rfl ?_
    refine x_aload_n hm rfl rfl ?_
    refine x_getf hm rfl (gR rfl rfl) ?_
    refine x_iconst hm rfl (v := nI 1) (by decide) ?_
    refine x_iald hm rfl (lI rfl (by omega) (by decide)) ?_
    rw [hn1]
    refine x_icmp_ge hm rfl (t := 103) rfl (fun h1 => ?_) (fun h1 => ?_)
    · refine x_iload_n hm rfl rfl ?_
      refine x_iret hm rfl rfl (by first | rfl | exact bI_nar | decide) ?_
      exact ⟨_, _, rfl, rfl, hS⟩
    · have hk : k < nb := Nat.lt_of_not_le fun h => h1 (nI_le h (by omega))
      refine x_aload_n hm rfl rfl ?_
      refine x_getf hm rfl (gR rfl rfl) ?_
      refine x_iload hm rfl rfl ?_
      refine x_iconst hm rfl (v := nI 3) (by decide) ?_
      refine x_callS hm rfl rfl (t137) ?_
      refine x_aload_n hm rfl rfl ?_
      refine x_getf hm rfl (gR rfl rfl) ?_
      refine x_iload hm rfl rfl ?_
      refine x_iald hm rfl (lI rfl (by omega) (by decide)) ?_
      refine x_iast hm rfl (sI rfl (by omega) (by decide)) ?_
      refine x_iinc hm rfl rfl (v := nI 1) (by decide) rfl ?_
      rw [jI_add]
      refine x_goto hm rfl (t := 68) rfl ?_
      exact ih _ _ (by omega) (by omega) (hS.trans (Sf.thing (by omega) (by decide) (by decide) (by decide)))
theorem l190a {nb : Nat} (hW : Wf M) (hnb : M 67 1 = nI nb) (h8 : nb ≤ 8) {s : Int32} {a : Nat} (ha : a ≤ 1000) : ∀ (n k : Nat) (M1 : mM), nb - k < n → k ≤ nb → Sf M M1 → mEv X (QI (fun _ M' => Sf M M')) 190 2 [some (.ref 66), some (.int s), some (.int (nI a)), some (.int (nI k)), none] [] (con M1) := by
  have hm : mMet 190 = some _ := rfl
  intro n
  induction n with
  | zero =>
    intro k M1 hkn hkb hS
    omega
  | succ n ih =>
    intro k M1 hkn hkb hS
    have hn1 : M1 67 1 = nI nb := hS.2.1.trans hnb
    refine x_iload_n hm rfl rfl ?_
    refine x_aload_n hm rfl rfl ?_
    refine x_getf hm rfl (gR rfl rfl) ?_
    refine x_iconst hm rfl (v := nI 1) (by decide) ?_
    refine x_iald hm rfl (lI rfl (by omega) (by decide)) ?_
    rw [hn1]
    refine x_icmp_ge hm rfl (t := 59) rfl (fun h1 => ?_) (fun h1 => ?_)
    · refine x_aload_n hm rfl rfl ?_
      refine x_iload_n hm rfl rfl ?_
      refine x_cVi hm rfl rfl (t180 (hS.1 hW) ha) (fun v2 M2 r2 => ?_)
      refine x_istore_n hm rfl rfl ?_
      refine x_iconst hm rfl (v := nI 0) (by decide) ?_
      refine x_istore hm rfl rfl ?_
      exact l190b hW hnb h8 _ 0 _ (Nat.lt_succ_self _) (Nat.zero_le _) (hS.trans r2)
    · have hk : k < nb := Nat.lt_of_not_le fun h => h1 (nI_le h (by omega))
      refine x_aload_n hm rfl rfl ?_
      refine x_getf hm rfl (gR rfl rfl) ?_
      refine x_iload_n hm rfl rfl ?_
      refine x_aload_n hm rfl rfl ?_
      refine x_iload_n hm rfl rfl ?_
      refine x_iconst hm rfl (v := nI 3) (by decide) ?_
      refine x_callV hm rfl rfl (t143 (by omega) (by omega)) ?_
      refine x_iast hm rfl (sI rfl (by omega) (by decide)) ?_
      refine x_aload_n hm rfl rfl ?_
      refine x_getf hm rfl (gR rfl rfl) ?_
      refine x_iload_n hm rfl rfl ?_
      refine x_iconst hm rfl (v := nI 3) (by decide) ?_
      refine x_callS hm rfl rfl (t137) ?_
      refine x_iload_n hm rfl rfl ?_
      refine x_iload_n hm rfl rfl ?_
      refine x_cSe hm rfl rfl (t191) (fun v3 r3 => ?_)
      refine x_if_eq hm rfl (t := 46) rfl (fun h4 => ?_) (fun h4 => ?_)
      · refine x_aload_n hm rfl rfl ?_
        refine x_getf hm rfl (gR rfl rfl) ?_
        refine x_iload_n hm rfl rfl ?_
        refine x_iald hm rfl (lI rfl (by omega) (by decide)) ?_
        refine x_iast hm rfl (sI rfl (by omega) (by decide)) ?_
        refine x_iinc hm rfl rfl (v := nI 1) (by decide) rfl ?_
        rw [jI_add]
        refine x_goto hm rfl (t := 2) rfl ?_
        exact ih _ _ (by omega) (by omega) ((hS.trans (Sf.put0 (kd72 _) (by decide) (by decide))).trans (Sf.thing (by omega) (by decide) (by decide) (by decide)))
      · refine x_bipush hm rfl (v := nI 9) (by decide) ?_
        refine x_goto hm rfl (t := 52) rfl ?_
        refine x_iast hm rfl (sI rfl (by omega) (by decide)) ?_
        refine x_iinc hm rfl rfl (v := nI 1) (by decide) rfl ?_
        rw [jI_add]
        refine x_goto hm rfl (t := 2) rfl ?_
        exact ih _ _ (by omega) (by omega) ((hS.trans (Sf.put0 (kd72 _) (by decide) (by decide))).trans (Sf.thing (by omega) (by decide) (by decide) (by decide)))
theorem t190 {s : Int32} {a : Nat} (hW : Wf M) (ha : a ≤ 1000) : ∃ v M', mT X 190 [.ref 66, .int s, .int (nI a)] (con M) (some (.int v)) (con M') ∧ Sf M M' := by
  refine ti_of (row := _) rfl (Nat.le_of_ble_eq_true rfl) ?_
  have hm : mMet 190 = some _ := rfl
  obtain ⟨nb, h8, hnb⟩ := hW.nt
  refine x_iconst hm rfl (v := nI 0) (by decide) ?_
  refine x_istore_n hm rfl rfl ?_
  exact l190a hW hnb h8 ha _ 0 _ (Nat.lt_succ_self _) (Nat.zero_le _) Sf.rf
theorem l189 {a nb : Nat} {c m : Int32} (hW : Wf M) (ha : a ≤ 1000) (hnb : M 67 1 = nI nb) (h8 : nb ≤ 8) : ∀ (n k : Nat) (b l : Int32) (x7 : Option Value) (M1 : mM), 2 ^ nb - k < n → k ≤ 2 ^ nb → Sf M M1 → mEv X (QI (fun _ M' => Sf M M')) 189 48 [some (.ref 66), some (.int c), some (.int (nI a)), some (.int m), some (.int b), some (.int l), some (.int (nI k)), x7] [] (con M1) := by
  have hm : mMet 189 = some _ := rfl
  intro n
  induction n with
  | zero =>
    intro k b l x7 M1 hkn hkb hS
    omega
  | succ n ih =>
    intro k b l x7 M1 hkn hkb hS
    have hn1 : M1 67 1 = nI nb := hS.2.1.trans hnb
    have hpw := pow_k h8
    refine x_iload hm rfl rfl ?_
    refine x_iconst hm rfl (v := nI 1) (by decide) ?_
    refine x_aload_n hm rfl rfl ?_
    refine x_getf hm rfl (gR rfl rfl) ?_
    refine x_iconst hm rfl (v := nI 1) (by decide) ?_
    refine x_iald hm rfl (lI rfl (by omega) (by decide)) ?_
    rw [hn1]
    refine x_ishl hm rfl ?_
    rw [shl_k nb h8]
    refine x_icmp_ge hm rfl (t := 115) rfl (fun h1 => ?_) (fun h1 => ?_)
    · refine x_iload hm rfl rfl ?_
      refine x_iret hm rfl rfl (by first | rfl | exact bI_nar | decide) ?_
      exact ⟨_, _, rfl, rfl, hS⟩
    · have hk : k < 2 ^ nb := Nat.lt_of_not_le fun h => h1 (nI_le h (by omega))
      refine x_iload hm rfl rfl ?_
      refine x_cSe hm rfl rfl (t168) (fun v2 r2 => ?_)
      refine x_iload_n hm rfl rfl ?_
      refine x_icmp_ne hm rfl (t := 80) rfl (fun h3 => ?_) (fun h3 => ?_)
      · refine x_ldcI hm rfl (v := nI 2147483647) (by decide +kernel) ?_
        refine x_istore hm rfl rfl ?_
        refine x_iload hm rfl rfl ?_
        refine x_iload hm rfl rfl ?_
        refine x_icmp_ge hm rfl (t := 96) rfl (fun h4 => ?_) (fun h4 => ?_)
        · refine x_iload hm rfl rfl ?_
          refine x_istore hm rfl rfl ?_
          refine x_iload hm rfl rfl ?_
          refine x_iload hm rfl rfl ?_
          refine x_lib hm rfl rfl ?_
          dsimp only
          refine x_istore hm rfl rfl ?_
          refine x_iinc hm rfl rfl (v := nI 1) (by decide) rfl ?_
          rw [jI_add]
          refine x_goto hm rfl (t := 48) rfl ?_
          first
            | exact ih _ _ _ _ _ (by omega) (by omega) hS
            | exact ih _ _ _ _ _ (by omega) (by omega) (hS.trans r4)
            | exact ih _ _ _ _ _ (by omega) (by omega) (hS.trans r5)
            | exact ih _ _ _ _ _ (by omega) (by omega) (hS.trans r6)
        · refine x_iload hm rfl rfl ?_
          refine x_goto hm rfl (t := 98) rfl ?_
          refine x_istore hm rfl rfl ?_
          refine x_iload hm rfl rfl ?_
          refine x_iload hm rfl rfl ?_
          refine x_lib hm rfl rfl ?_
          dsimp only
          refine x_istore hm rfl rfl ?_
          refine x_iinc hm rfl rfl (v := nI 1) (by decide) rfl ?_
          rw [jI_add]
          refine x_goto hm rfl (t := 48) rfl ?_
          first
            | exact ih _ _ _ _ _ (by omega) (by omega) hS
            | exact ih _ _ _ _ _ (by omega) (by omega) (hS.trans r4)
            | exact ih _ _ _ _ _ (by omega) (by omega) (hS.trans r5)
            | exact ih _ _ _ _ _ (by omega) (by omega) (hS.trans r6)
      · refine x_aload_n hm rfl rfl ?_
        refine x_iload hm rfl rfl ?_
        refine x_iload_n hm rfl rfl ?_
        refine x_cVi hm rfl rfl (t190 (hS.1 hW) (by omega)) (fun v5 M5 r5 => ?_)
        refine x_goto hm rfl (t := 82) rfl ?_
        refine x_istore hm rfl rfl ?_
        refine x_iload hm rfl rfl ?_
        refine x_iload hm rfl rfl ?_
        refine x_icmp_ge hm rfl (t := 96) rfl (fun h6 => ?_) (fun h6 => ?_)
        · refine x_iload hm rfl rfl ?_
          refine x_istore hm rfl rfl ?_
          refine x_iload hm rfl rfl ?_
          refine x_iload hm rfl rfl ?_
          refine x_lib hm rfl rfl ?_
          dsimp only
          refine x_istore hm rfl rfl ?_
          refine x_iinc hm rfl rfl (v := nI 1) (by decide) rfl ?_
          rw [jI_add]
          refine x_goto hm rfl (t := 48) rfl ?_
          first
            | exact ih _ _ _ _ _ (by omega) (by omega) (hS.trans r5)
            | exact ih _ _ _ _ _ (by omega) (by omega) hS
            | exact ih _ _ _ _ _ (by omega) (by omega) (hS.trans r4)
            | exact ih _ _ _ _ _ (by omega) (by omega) (hS.trans r6)
        · refine x_iload hm rfl rfl ?_
          refine x_goto hm rfl (t := 98) rfl ?_
          refine x_istore hm rfl rfl ?_
          refine x_iload hm rfl rfl ?_
          refine x_iload hm rfl rfl ?_
          refine x_lib hm rfl rfl ?_
          dsimp only
          refine x_istore hm rfl rfl ?_
          refine x_iinc hm rfl rfl (v := nI 1) (by decide) rfl ?_
          rw [jI_add]
          refine x_goto hm rfl (t := 48) rfl ?_
          first
            | exact ih _ _ _ _ _ (by omega) (by omega) (hS.trans r5)
            | exact ih _ _ _ _ _ (by omega) (by omega) hS
            | exact ih _ _ _ _ _ (by omega) (by omega) (hS.trans r4)
            | exact ih _ _ _ _ _ (by omega) (by omega) (hS.trans r6)
theorem t189 {a1 a2 : Int32} (hI : Inv M) : ∃ v M', mT X 189 [.ref 66, .int a1, .int a2] (con M) (some (.int v)) (con M') ∧ Inv M' := by
  refine ti_of (row := _) rfl (Nat.le_of_ble_eq_true rfl) ?_
  have hm : mMet 189 = some _ := rfl
  obtain ⟨nt, hn8, hnt⟩ := hI.1.nt
  refine x_iload_n hm rfl rfl ?_
  refine x_iconst hm rfl (v := nI 0) (by decide) ?_
  refine x_bipush hm rfl (v := nI 8) (by decide) ?_
  refine x_callS hm rfl rfl (t133) ?_
  refine x_if_eq hm rfl (t := 20) rfl (fun h1 => ?_) (fun h1 => ?_)
  · refine x_aload_n hm rfl rfl ?_
    refine x_ldcI hm rfl (v := (-1000001 : Int32)) (by decide +kernel) ?_
    refine x_cVi hm rfl rfl (t135 (by decide +kernel)) (fun v2 M2 r2 => ?_)
    refine x_iret hm rfl rfl (by first | rfl | exact bI_nar | decide) ?_
    exact ⟨_, _, rfl, rfl, by first | exact hI | exact (r1.2.inv hI) | exact (r2.2.inv hI) | exact (r3.2.inv hI) | exact (r4.2.inv hI) | exact (r5.2.inv hI) | exact (r1.inv hI) | exact (r2.inv hI) | exact (r3.inv hI) | exact (r4.inv hI) | exact (r5.inv hI)⟩
  · 
    refine x_iload_n hm rfl rfl ?_
    refine x_iconst hm rfl (v := nI 0) (by decide) ?_
    refine x_bipush hm rfl (v := nI 60) (by decide) ?_
    refine x_callS hm rfl rfl (t133) ?_
    refine x_if_ne hm rfl (t := 27) rfl (fun h3 => ?_) (fun h3 => ?_)
    · obtain ⟨a, ha, rfl⟩ := le_k (by omega) (bI_ne0 h3)
      refine x_iload_n hm rfl rfl ?_
      refine x_aload_n hm rfl rfl ?_
      refine x_getf hm rfl (gR rfl rfl) ?_
      refine x_iconst hm rfl (v := nI 1) (by decide) ?_
      refine x_iald hm rfl (lI rfl (by omega) (by decide)) ?_
      refine x_lib hm rfl rfl ?_
      dsimp only
      refine x_istore_n hm rfl rfl ?_
      refine x_iconst hm rfl (v := nI 0) (by decide) ?_
      refine x_istore hm rfl rfl ?_
      refine x_ldcI hm rfl (v := nI 2147483647) (by decide +kernel) ?_
      refine x_istore hm rfl rfl ?_
      refine x_iconst hm rfl (v := nI 0) (by decide) ?_
      refine x_istore hm rfl rfl ?_
      exact ev_inv hI (l189 hI.1 (by omega) hnt hn8 _ 0 _ _ _ _ (Nat.lt_succ_self _) (Nat.zero_le _) Sf.rf)
    · refine x_aload_n hm rfl rfl ?_
      refine x_ldcI hm rfl (v := (-1000001 : Int32)) (by decide +kernel) ?_
      refine x_cVi hm rfl rfl (t135 (by decide +kernel)) (fun v4 M4 r4 => ?_)
      refine x_iret hm rfl rfl (by first | rfl | exact bI_nar | decide) ?_
      exact ⟨_, _, rfl, rfl, by first | exact hI | exact (r1.2.inv hI) | exact (r2.2.inv hI) | exact (r3.2.inv hI) | exact (r4.2.inv hI) | exact (r5.2.inv hI) | exact (r1.inv hI) | exact (r2.inv hI) | exact (r3.inv hI) | exact (r4.inv hI) | exact (r5.inv hI)⟩
theorem l192 {t a : Nat} {c : Int32} (hW : Wf M) (ht : t < 8) (ha : a ≤ 1000) : ∀ (n : Nat) (x b : Int32) (M1 : mM), (x.toInt + 1).toNat < n → Sf M M1 → mEv X (QI (fun _ M' => Sf M M')) 192 39 [some (.ref 66), some (.int (nI t)), some (.int (nI a)), some (.int c), some (.int b), some (.int x)] [] (con M1) := by
  have hm : mMet 192 = some _ := rfl
  intro n
  induction n with
  | zero =>
    intro x b M1 hx hS
    omega
  | succ n ih =>
    intro x b M1 hx hS
    refine x_iload hm rfl rfl ?_
    refine x_if_lt hm rfl (t := 80) rfl (fun h1 => ?_) (fun h1 => ?_)
    · refine x_aload_n hm rfl rfl ?_
      refine x_getf hm rfl (gR rfl rfl) ?_
      refine x_iload_n hm rfl rfl ?_
      refine x_iconst hm rfl (v := nI 3) (by decide) ?_
      refine x_callS hm rfl rfl (t137) ?_
      refine x_iload_n hm rfl rfl ?_
      refine x_iast hm rfl (sI rfl (by omega) (by decide)) ?_
      have hS3 := hS.trans (Sf.thing (M := M1) (v := c) ht (by decide : 3 < 5) (by decide) (by decide))
      refine x_aload_n hm rfl rfl ?_
      refine x_iload hm rfl rfl ?_
      refine x_cVi hm rfl rfl (t177) (fun v2 M2 r2 => ?_)
      refine x_iret hm rfl rfl (by first | rfl | exact bI_nar | decide) ?_
      exact ⟨_, _, rfl, rfl, by first | exact hS3.trans r2.sf | exact hS3.trans r3.sf⟩
    · have hx0 : ¬ x < 0 := h1
      have hd := dec_int hx0
      have hx1 : 0 ≤ x.toInt := by
        have := Int32.not_lt.mp hx0
        simpa using Int32.le_iff_toInt_le.mp this
      refine x_aload_n hm rfl rfl ?_
      refine x_getf hm rfl (gR rfl rfl) ?_
      refine x_iload_n hm rfl rfl ?_
      refine x_iconst hm rfl (v := nI 3) (by decide) ?_
      refine x_callS hm rfl rfl (t137) ?_
      refine x_iload hm rfl rfl ?_
      refine x_iast hm rfl (sI rfl (by omega) (by decide)) ?_
      have hS2 := hS.trans (Sf.thing (M := M1) (v := x) ht (by decide : 3 < 5) (by decide) (by decide))
      refine x_aload_n hm rfl rfl ?_
      refine x_iload_n hm rfl rfl ?_
      refine x_iload_n hm rfl rfl ?_
      refine x_cVi hm rfl rfl (t173 (hS2.1 hW) ht ha) (fun v3 M3 r3 => ?_)
      refine x_if_le hm rfl (t := 70) rfl (fun h4 => ?_) (fun h4 => ?_)
      · refine x_iload hm rfl rfl ?_
        refine x_istore hm rfl rfl ?_
        refine x_iinc hm rfl rfl (v := (-1 : Int32)) (by decide) rfl ?_
        refine x_goto hm rfl (t := 39) rfl ?_
        first
          | exact ih _ _ _ (by omega) (hS2.trans r3)
          | exact ih _ _ _ (by omega) (hS2.trans r2)
          | exact ih _ _ _ (by omega) (hS2.trans r4)
      · refine x_iload hm rfl rfl ?_
        refine x_goto hm rfl (t := 72) rfl ?_
        refine x_istore hm rfl rfl ?_
        refine x_iinc hm rfl rfl (v := (-1 : Int32)) (by decide) rfl ?_
        refine x_goto hm rfl (t := 39) rfl ?_
        first
          | exact ih _ _ _ (by omega) (hS2.trans r3)
          | exact ih _ _ _ (by omega) (hS2.trans r2)
          | exact ih _ _ _ (by omega) (hS2.trans r4)
theorem t192 {a1 a2 : Int32} (hI : Inv M) : ∃ v M', mT X 192 [.ref 66, .int a1, .int a2] (con M) (some (.int v)) (con M') ∧ Inv M' := by
  refine ti_of (row := _) rfl (Nat.le_of_ble_eq_true rfl) ?_
  have hm : mMet 192 = some _ := rfl
  obtain ⟨nt, hn8, hnt⟩ := hI.1.nt
  refine x_aload_n hm rfl rfl ?_
  refine x_iload_n hm rfl rfl ?_
  refine x_callV hm rfl rfl (t139) ?_
  refine x_if_eq hm rfl (t := 18) rfl (fun h1 => ?_) (fun h1 => ?_)
  · refine x_aload_n hm rfl rfl ?_
    refine x_ldcI hm rfl (v := (-1000001 : Int32)) (by decide +kernel) ?_
    refine x_cVi hm rfl rfl (t135 (by decide +kernel)) (fun v2 M2 r2 => ?_)
    refine x_iret hm rfl rfl (by first | rfl | exact bI_nar | decide) ?_
    exact ⟨_, _, rfl, rfl, by first | exact hI | exact (r1.2.inv hI) | exact (r2.2.inv hI) | exact (r3.2.inv hI) | exact (r4.2.inv hI) | exact (r5.2.inv hI) | exact (r1.inv hI) | exact (r2.inv hI) | exact (r3.inv hI) | exact (r4.inv hI) | exact (r5.inv hI)⟩
  · obtain ⟨t, ht, rfl⟩ := in_k hnt (by omega) (bI_ne0 h1)
    refine x_iload_n hm rfl rfl ?_
    refine x_iconst hm rfl (v := nI 0) (by decide) ?_
    refine x_bipush hm rfl (v := nI 60) (by decide) ?_
    refine x_callS hm rfl rfl (t133) ?_
    refine x_if_ne hm rfl (t := 25) rfl (fun h3 => ?_) (fun h3 => ?_)
    · obtain ⟨a, ha, rfl⟩ := le_k (by omega) (bI_ne0 h3)
      refine x_aload_n hm rfl rfl ?_
      refine x_iload_n hm rfl rfl ?_
      refine x_iconst hm rfl (v := nI 3) (by decide) ?_
      refine x_callV hm rfl rfl (t143 (by omega) (by omega)) ?_
      refine x_istore_n hm rfl rfl ?_
      refine x_iconst hm rfl (v := (-1 : Int32)) (by decide) ?_
      refine x_istore hm rfl rfl ?_
      refine x_bipush hm rfl (v := nI 9) (by decide) ?_
      refine x_istore hm rfl rfl ?_
      exact ev_inv hI (l192 hI.1 (by omega) (by omega) _ _ _ _ (Nat.lt_succ_self _) Sf.rf)
    · refine x_aload_n hm rfl rfl ?_
      refine x_ldcI hm rfl (v := (-1000001 : Int32)) (by decide +kernel) ?_
      refine x_cVi hm rfl rfl (t135 (by decide +kernel)) (fun v4 M4 r4 => ?_)
      refine x_iret hm rfl rfl (by first | rfl | exact bI_nar | decide) ?_
      exact ⟨_, _, rfl, rfl, by first | exact hI | exact (r1.2.inv hI) | exact (r2.2.inv hI) | exact (r3.2.inv hI) | exact (r4.2.inv hI) | exact (r5.2.inv hI) | exact (r1.inv hI) | exact (r2.inv hI) | exact (r3.inv hI) | exact (r4.inv hI) | exact (r5.inv hI)⟩
theorem l176 {t : Nat} (hW : Wf M) (ht : t < 8) : ∀ (n k : Nat) (M1 : mM), 100 - k < n → k ≤ 100 → Dy (cp M 67 69 118) M1 → mEv X (QI (fun _ M' => Sf M M')) 176 28 [some (.ref 66), some (.int (nI t)), some (.int (nI k))] [] (con M1) := by
  have hm : mMet 176 = some _ := rfl
  intro n
  induction n with
  | zero =>
    intro k M1 hkn hkb hD
    omega
  | succ n ih =>
    intro k M1 hkn hkb hD
    refine x_iload_n hm rfl rfl ?_
    refine x_bipush hm rfl (v := nI 100) (by decide) ?_
    refine x_icmp_ge hm rfl (t := 52) rfl (fun h1 => ?_) (fun h1 => ?_)
    · refine x_aload_n hm rfl rfl ?_
      refine x_aload_n hm rfl rfl ?_
      refine x_aload_n hm rfl rfl ?_
      refine x_iload_n hm rfl rfl ?_
      refine x_callV hm rfl rfl (t146 (by omega)) ?_
      refine x_if_eq hm rfl (t := 66) rfl (fun h2 => ?_) (fun h2 => ?_)
      · refine x_iconst hm rfl (v := (-1 : Int32)) (by decide) ?_
        refine x_callV hm rfl rfl (t175) ?_
        refine x_cVi hm rfl rfl (t177) (fun v3 M3 r3 => ?_)
        refine x_iret hm rfl rfl (by first | rfl | exact bI_nar | decide) ?_
        exact ⟨_, _, rfl, rfl, by first | exact (Sf.trial hD).trans r3.sf | exact (Sf.trial hD).trans r4.sf | exact (Sf.trial hD).trans r5.sf | exact (Sf.trial hD).trans r6.sf | exact (Sf.trial hD).trans r7.sf | exact (Sf.trial hD).trans r8.sf⟩
      · refine x_iload_n hm rfl rfl ?_
        refine x_goto hm rfl (t := 67) rfl ?_
        refine x_callV hm rfl rfl (t175) ?_
        refine x_cVi hm rfl rfl (t177) (fun v4 M4 r4 => ?_)
        refine x_iret hm rfl rfl (by first | rfl | exact bI_nar | decide) ?_
        exact ⟨_, _, rfl, rfl, by first | exact (Sf.trial hD).trans r3.sf | exact (Sf.trial hD).trans r4.sf | exact (Sf.trial hD).trans r5.sf | exact (Sf.trial hD).trans r6.sf | exact (Sf.trial hD).trans r7.sf | exact (Sf.trial hD).trans r8.sf⟩
    · have hk : k < 100 := Nat.lt_of_not_le fun h => h1 (nI_le h (by omega))
      refine x_aload_n hm rfl rfl ?_
      refine x_iload_n hm rfl rfl ?_
      refine x_callV hm rfl rfl (t146 (by omega)) ?_
      refine x_if_ne hm rfl (t := 52) rfl (fun h5 => ?_) (fun h5 => ?_)
      · refine x_aload_n hm rfl rfl ?_
        refine x_aload_n hm rfl rfl ?_
        refine x_aload_n hm rfl rfl ?_
        refine x_iload_n hm rfl rfl ?_
        refine x_callV hm rfl rfl (t146 (by omega)) ?_
        refine x_if_eq hm rfl (t := 66) rfl (fun h6 => ?_) (fun h6 => ?_)
        · refine x_iconst hm rfl (v := (-1 : Int32)) (by decide) ?_
          refine x_callV hm rfl rfl (t175) ?_
          refine x_cVi hm rfl rfl (t177) (fun v7 M7 r7 => ?_)
          refine x_iret hm rfl rfl (by first | rfl | exact bI_nar | decide) ?_
          exact ⟨_, _, rfl, rfl, by first | exact (Sf.trial hD).trans r3.sf | exact (Sf.trial hD).trans r4.sf | exact (Sf.trial hD).trans r5.sf | exact (Sf.trial hD).trans r6.sf | exact (Sf.trial hD).trans r7.sf | exact (Sf.trial hD).trans r8.sf⟩
        · refine x_iload_n hm rfl rfl ?_
          refine x_goto hm rfl (t := 67) rfl ?_
          refine x_callV hm rfl rfl (t175) ?_
          refine x_cVi hm rfl rfl (t177) (fun v8 M8 r8 => ?_)
          refine x_iret hm rfl rfl (by first | rfl | exact bI_nar | decide) ?_
          exact ⟨_, _, rfl, rfl, by first | exact (Sf.trial hD).trans r3.sf | exact (Sf.trial hD).trans r4.sf | exact (Sf.trial hD).trans r5.sf | exact (Sf.trial hD).trans r6.sf | exact (Sf.trial hD).trans r7.sf | exact (Sf.trial hD).trans r8.sf⟩
      · refine x_aload_n hm rfl rfl ?_
        refine x_cVv hm rfl rfl (t165 (hD.1.1 hW.aside)) (fun M9 r9 => ?_)
        refine x_iinc hm rfl rfl (v := nI 1) (by decide) rfl ?_
        rw [jI_add]
        refine x_goto hm rfl (t := 28) rfl ?_
        first
          | exact ih _ _ (by omega) (by omega) (hD.trans r9)
          | exact ih _ _ (by omega) (by omega) (hD.trans r3)
          | exact ih _ _ (by omega) (by omega) (hD.trans r4)
          | exact ih _ _ (by omega) (by omega) (hD.trans r5)
          | exact ih _ _ (by omega) (by omega) (hD.trans r6)
          | exact ih _ _ (by omega) (by omega) (hD.trans r7)
          | exact ih _ _ (by omega) (by omega) (hD.trans r8)
          | exact ih _ _ (by omega) (by omega) (hD.trans r10)
          | exact ih _ _ (by omega) (by omega) (hD.trans r11)
          | exact ih _ _ (by omega) (by omega) (hD.trans r2)
theorem t176 {a1 : Int32} (hI : Inv M) : ∃ v M', mT X 176 [.ref 66, .int a1] (con M) (some (.int v)) (con M') ∧ Inv M' := by
  refine ti_of (row := _) rfl (Nat.le_of_ble_eq_true rfl) ?_
  have hm : mMet 176 = some _ := rfl
  obtain ⟨nt, hn8, hnt⟩ := hI.1.nt
  refine x_aload_n hm rfl rfl ?_
  refine x_iload_n hm rfl rfl ?_
  refine x_callV hm rfl rfl (t139) ?_
  refine x_if_ne hm rfl (t := 15) rfl (fun h1 => ?_) (fun h1 => ?_)
  · obtain ⟨t, ht, rfl⟩ := in_k hnt (by omega) (bI_ne0 h1)
    refine x_aload_n hm rfl rfl ?_
    refine x_getf hm rfl (gR rfl rfl) ?_
    refine x_aload_n hm rfl rfl ?_
    refine x_getf hm rfl (gR rfl rfl) ?_
    refine x_callS hm rfl rfl (t174 rfl rfl (by decide)) ?_
    refine x_iconst hm rfl (v := nI 0) (by decide) ?_
    refine x_istore_n hm rfl rfl ?_
    exact ev_inv hI (l176 hI.1 (by omega) _ 0 _ (Nat.lt_succ_self _) (Nat.zero_le _) Dy.rf)
  · refine x_aload_n hm rfl rfl ?_
    refine x_ldcI hm rfl (v := (-1000001 : Int32)) (by decide +kernel) ?_
    refine x_cVi hm rfl rfl (t135 (by decide +kernel)) (fun v2 M2 r2 => ?_)
    refine x_iret hm rfl rfl (by first | rfl | exact bI_nar | decide) ?_
    exact ⟨_, _, rfl, rfl, by first | exact hI | exact (r1.2.inv hI) | exact (r2.2.inv hI) | exact (r3.2.inv hI) | exact (r4.2.inv hI) | exact (r5.2.inv hI) | exact (r1.inv hI) | exact (r2.inv hI) | exact (r3.inv hI) | exact (r4.inv hI) | exact (r5.inv hI)⟩
theorem l181 {p t : Nat} (hI : Inv M) (hp : p < 8) (ht : t < 8) : ∀ (n k : Nat) (x : Int32), 16 - k < n → k ≤ 16 → mEv X (QI (fun _ M' => Inv M')) 181 33 [some (.ref 66), some (.int (nI p)), some (.int (nI t)), some (.int x), some (.int (nI k))] [] (con M) := by
  have hm : mMet 181 = some _ := rfl
  intro n
  induction n with
  | zero =>
    intro k x hkn hkb
    omega
  | succ n ih =>
    intro k x hkn hkb
    refine x_iload hm rfl rfl ?_
    refine x_bipush hm rfl (v := nI 16) (by decide) ?_
    refine x_icmp_ge hm rfl (t := 68) rfl (fun h1 => ?_) (fun h1 => ?_)
    · refine x_iload hm rfl rfl ?_
      refine x_bipush hm rfl (v := nI 16) (by decide) ?_
      refine x_icmp_ge hm rfl (t := 80) rfl (fun h2 => ?_) (fun h2 => ?_)
      · refine x_aload_n hm rfl rfl ?_
        refine x_ldcI hm rfl (v := (-1000004 : Int32)) (by decide +kernel) ?_
        refine x_cVi hm rfl rfl (t135 (by decide +kernel)) (fun v3 M3 r3 => ?_)
        refine x_iret hm rfl rfl (by first | rfl | exact bI_nar | decide) ?_
        exact ⟨_, _, rfl, rfl, by first | exact hI | exact (r1.2.inv hI) | exact (r2.2.inv hI) | exact (r3.2.inv hI) | exact (r4.2.inv hI) | exact (r5.2.inv hI) | exact (r6.2.inv hI) | exact (r7.2.inv hI) | exact (r1.inv hI) | exact (r2.inv hI) | exact (r3.inv hI) | exact (r4.inv hI) | exact (r5.inv hI) | exact (r6.inv hI) | exact (r7.inv hI)⟩
      · refine x_iload hm rfl rfl ?_
        refine x_goto hm rfl (t := 86) rfl ?_
        refine x_iret hm rfl rfl (by first | rfl | exact bI_nar | decide) ?_
        exact ⟨_, _, rfl, rfl, by first | exact hI | exact (r1.2.inv hI) | exact (r2.2.inv hI) | exact (r3.2.inv hI) | exact (r4.2.inv hI) | exact (r5.2.inv hI) | exact (r6.2.inv hI) | exact (r7.2.inv hI) | exact (r1.inv hI) | exact (r2.inv hI) | exact (r3.inv hI) | exact (r4.inv hI) | exact (r5.inv hI) | exact (r6.inv hI) | exact (r7.inv hI)⟩
    · have hk : k < 16 := Nat.lt_of_not_le fun h => h1 (nI_le h (by omega))
      refine x_iload_n hm rfl rfl ?_
      refine x_aload_n hm rfl rfl ?_
      refine x_iload_n hm rfl rfl ?_
      refine x_iconst hm rfl (v := nI 1) (by decide) ?_
      refine x_callV hm rfl rfl (t143 (by omega) (by omega)) ?_
      refine x_icmp_eq hm rfl (t := 68) rfl (fun h4 => ?_) (fun h4 => ?_)
      · refine x_iload hm rfl rfl ?_
        refine x_bipush hm rfl (v := nI 16) (by decide) ?_
        refine x_icmp_ge hm rfl (t := 80) rfl (fun h5 => ?_) (fun h5 => ?_)
        · refine x_aload_n hm rfl rfl ?_
          refine x_ldcI hm rfl (v := (-1000004 : Int32)) (by decide +kernel) ?_
          refine x_cVi hm rfl rfl (t135 (by decide +kernel)) (fun v6 M6 r6 => ?_)
          refine x_iret hm rfl rfl (by first | rfl | exact bI_nar | decide) ?_
          exact ⟨_, _, rfl, rfl, by first | exact hI | exact (r1.2.inv hI) | exact (r2.2.inv hI) | exact (r3.2.inv hI) | exact (r4.2.inv hI) | exact (r5.2.inv hI) | exact (r6.2.inv hI) | exact (r7.2.inv hI) | exact (r1.inv hI) | exact (r2.inv hI) | exact (r3.inv hI) | exact (r4.inv hI) | exact (r5.inv hI) | exact (r6.inv hI) | exact (r7.inv hI)⟩
        · refine x_iload hm rfl rfl ?_
          refine x_goto hm rfl (t := 86) rfl ?_
          refine x_iret hm rfl rfl (by first | rfl | exact bI_nar | decide) ?_
          exact ⟨_, _, rfl, rfl, by first | exact hI | exact (r1.2.inv hI) | exact (r2.2.inv hI) | exact (r3.2.inv hI) | exact (r4.2.inv hI) | exact (r5.2.inv hI) | exact (r6.2.inv hI) | exact (r7.2.inv hI) | exact (r1.inv hI) | exact (r2.inv hI) | exact (r3.inv hI) | exact (r4.inv hI) | exact (r5.inv hI) | exact (r6.inv hI) | exact (r7.inv hI)⟩
      · refine x_iload_n hm rfl rfl ?_
        refine x_aload_n hm rfl rfl ?_
        refine x_iload_n hm rfl rfl ?_
        refine x_iconst hm rfl (v := nI 2) (by decide) ?_
        refine x_callV hm rfl rfl (t141 (by omega) (by omega)) ?_
        refine x_iadd hm rfl ?_
        refine x_bipush hm rfl (v := nI 16) (by decide) ?_
        refine x_irem hm rfl (by decide) ?_
        refine x_istore_n hm rfl rfl ?_
        refine x_iinc hm rfl rfl (v := nI 1) (by decide) rfl ?_
        rw [jI_add]
        refine x_goto hm rfl (t := 33) rfl ?_
        exact ih _ _ (by omega) (by omega)
theorem t181 {a1 a2 : Int32} (hI : Inv M) : ∃ v M', mT X 181 [.ref 66, .int a1, .int a2] (con M) (some (.int v)) (con M') ∧ Inv M' := by
  refine ti_of (row := _) rfl (Nat.le_of_ble_eq_true rfl) ?_
  have hm : mMet 181 = some _ := rfl
  obtain ⟨nt, hn8, hnt⟩ := hI.1.nt
  obtain ⟨np, hp8, hnp⟩ := hI.1.np
  refine x_aload_n hm rfl rfl ?_
  refine x_iload_n hm rfl rfl ?_
  refine x_callV hm rfl rfl (t153) ?_
  refine x_if_eq hm rfl (t := 16) rfl (fun h1 => ?_) (fun h1 => ?_)
  · refine x_aload_n hm rfl rfl ?_
    refine x_ldcI hm rfl (v := (-1000001 : Int32)) (by decide +kernel) ?_
    refine x_cVi hm rfl rfl (t135 (by decide +kernel)) (fun v2 M2 r2 => ?_)
    refine x_iret hm rfl rfl (by first | rfl | exact bI_nar | decide) ?_
    exact ⟨_, _, rfl, rfl, by first | exact hI | exact (r1.2.inv hI) | exact (r2.2.inv hI) | exact (r3.2.inv hI) | exact (r4.2.inv hI) | exact (r5.2.inv hI) | exact (r1.inv hI) | exact (r2.inv hI) | exact (r3.inv hI) | exact (r4.inv hI) | exact (r5.inv hI)⟩
  · obtain ⟨p, hp, rfl⟩ := in_k hnp (by omega) (bI_ne0 h1)
    refine x_aload_n hm rfl rfl ?_
    refine x_iload_n hm rfl rfl ?_
    refine x_callV hm rfl rfl (t139) ?_
    refine x_if_ne hm rfl (t := 23) rfl (fun h3 => ?_) (fun h3 => ?_)
    · obtain ⟨t, ht, rfl⟩ := in_k hnt (by omega) (bI_ne0 h3)
      refine x_aload_n hm rfl rfl ?_
      refine x_iload_n hm rfl rfl ?_
      refine x_iconst hm rfl (v := nI 1) (by decide) ?_
      refine x_callV hm rfl rfl (t141 (by omega) (by omega)) ?_
      refine x_istore_n hm rfl rfl ?_
      refine x_iconst hm rfl (v := nI 0) (by decide) ?_
      refine x_istore hm rfl rfl ?_
      exact l181 hI (by omega) (by omega) _ 0 _ (Nat.lt_succ_self _) (Nat.zero_le _)
    · refine x_aload_n hm rfl rfl ?_
      refine x_ldcI hm rfl (v := (-1000001 : Int32)) (by decide +kernel) ?_
      refine x_cVi hm rfl rfl (t135 (by decide +kernel)) (fun v4 M4 r4 => ?_)
      refine x_iret hm rfl rfl (by first | rfl | exact bI_nar | decide) ?_
      exact ⟨_, _, rfl, rfl, by first | exact hI | exact (r1.2.inv hI) | exact (r2.2.inv hI) | exact (r3.2.inv hI) | exact (r4.2.inv hI) | exact (r5.2.inv hI) | exact (r1.inv hI) | exact (r2.inv hI) | exact (r3.inv hI) | exact (r4.inv hI) | exact (r5.inv hI)⟩
end RG
