/-! ===== the reference: trials ===== -/
theorem mFit_int {x : Int32} : mFit .int (.int x) = true := by
  unfold mFit
  simp [narrow, fits]
theorem Sf.trial {M M2 : mM} (h : Dy (cp M 67 69 118) M2) : Sf M (cp M2 69 67 118) := by
  have e : ∀ j, j < 118 → cp M2 69 67 118 67 j = M 67 j := by
    intro j hj
    show (if 67 = 67 ∧ j < 118 then M2 69 j else M2 67 j) = _
    rw [if_pos ⟨rfl, hj⟩, h.2]
    show (if 69 = 69 ∧ j < 118 then M 67 j else M 69 j) = _
    rw [if_pos ⟨rfl, hj⟩]
  refine ⟨fun hW => (h.1.1 (hW.ofcp (Or.inl rfl) (Or.inr (Or.inr rfl)))).ofcp (Or.inr (Or.inr rfl)) (Or.inl rfl), e 1 (by decide), e 2 (by decide), fun t ht => e _ (by omega), ?_⟩
  have e8 : cp M2 69 67 118 68 = M2 68 := by
    funext j
    show (if 68 = 67 ∧ j < 118 then M2 69 j else M2 68 j) = _
    rw [if_neg (by omega)]
  rw [e8, h.1.2.2.2.2]
  funext j
  show (if 68 = 69 ∧ j < 118 then M 67 j else M 68 j) = _
  rw [if_neg (by omega)]
theorem Wf.aside {M : mM} (h : Wf M) : Wf (cp M 67 69 118) := h.ofcp (Or.inl rfl) (Or.inr (Or.inr rfl))
theorem dec_int {x : Int32} (h : ¬ x < 0) : (x + (-1)).toInt = x.toInt - 1 := by
  have h0 : (0 : Int) ≤ x.toInt := by
    have := Int32.not_lt.mp h
    simpa using Int32.le_iff_toInt_le.mp this
  have h1 := x.toInt_lt
  have e : (-1 : Int32).toInt = -1 := by decide +kernel
  rw [Int32.toInt_add, e]
  rw [Int.bmod_def]
  omega
theorem shl_k : ∀ k, k ≤ 8 → nI 1 <<< (nI k &&& 31) = nI (2 ^ k) := by decide +kernel
theorem pow_k {k : Nat} (h : k ≤ 8) : 2 ^ k ≤ 256 := by
  have := Nat.pow_le_pow_right (n := 2) (by decide) h
  omega
section RF
variable {X : mSc} {Q : Option Value → mHp → Prop} {M : mM}
theorem t173 {t a : Nat} (hW : Wf M) (ht : t < 8) (ha : a ≤ 1000) : ∃ v M', mT X 173 [.ref 66, .int (nI t), .int (nI a)] (con M) (some (.int v)) (con M') ∧ Sf M M' := by
  refine ti_of (row := _) rfl (Nat.le_of_ble_eq_true rfl) ?_
  have hm : mMet 173 = some _ := rfl
  refine x_aload_n hm rfl rfl ?_
  refine x_getf hm rfl (gR rfl rfl) ?_
  refine x_aload_n hm rfl rfl ?_
  refine x_getf hm rfl (gR rfl rfl) ?_
  refine x_callS hm rfl rfl (t174 rfl rfl (by decide)) ?_
  refine x_aload_n hm rfl rfl ?_
  refine x_iload_n hm rfl rfl ?_
  refine x_cVv hm rfl rfl (t164 hW.aside (by omega)) (fun M1 r1 => ?_)
  refine x_aload_n hm rfl rfl ?_
  refine x_aload_n hm rfl rfl ?_
  refine x_iload_n hm rfl rfl ?_
  refine x_iconst hm rfl (v := nI 2) (by decide) ?_
  refine x_callV hm rfl rfl (t143 (by omega) (by omega)) ?_
  refine x_callV hm rfl rfl (t175) ?_
  refine x_iret hm rfl rfl (by first | rfl | exact bI_nar | decide) ?_
  exact ⟨_, _, rfl, rfl, Sf.trial r1⟩
theorem t180 {a : Nat} (hW : Wf M) (ha : a ≤ 1000) : ∃ v M', mT X 180 [.ref 66, .int (nI a)] (con M) (some (.int v)) (con M') ∧ Sf M M' := by
  refine ti_of (row := _) rfl (Nat.le_of_ble_eq_true rfl) ?_
  have hm : mMet 180 = some _ := rfl
  refine x_aload_n hm rfl rfl ?_
  refine x_cVe hm rfl rfl (t170 hW) (fun v1 r1 => ?_)
  refine x_istore_n hm rfl rfl ?_
  refine x_aload_n hm rfl rfl ?_
  refine x_getf hm rfl (gR rfl rfl) ?_
  refine x_aload_n hm rfl rfl ?_
  refine x_getf hm rfl (gR rfl rfl) ?_
  refine x_callS hm rfl rfl (t174 rfl rfl (by decide)) ?_
  refine x_aload_n hm rfl rfl ?_
  refine x_iload_n hm rfl rfl ?_
  refine x_cVv hm rfl rfl (t164 hW.aside (by omega)) (fun M2 r2 => ?_)
  refine x_aload_n hm rfl rfl ?_
  refine x_iload_n hm rfl rfl ?_
  refine x_aload_n hm rfl rfl ?_
  refine x_cVe hm rfl rfl (t170 (r2.1.1 hW.aside)) (fun v3 r3 => ?_)
  refine x_isub hm rfl ?_
  refine x_callV hm rfl rfl (t175) ?_
  refine x_iret hm rfl rfl (by first | rfl | exact bI_nar | decide) ?_
  exact ⟨_, _, rfl, rfl, Sf.trial r2⟩
theorem t177 {a1 : Int32} : ∃ v M', mT X 177 [.ref 66, .int a1] (con M) (some (.int v)) (con M') ∧ Fnd M M' := by
  refine ti_of (row := _) rfl (Nat.le_of_ble_eq_true rfl) ?_
  have hm : mMet 177 = some _ := rfl
  refine x_iload_n hm rfl rfl ?_
  refine x_if_ge hm rfl (t := 13) rfl (fun h1 => ?_) (fun h1 => ?_)
  · refine x_iload_n hm rfl rfl ?_
    refine x_iret hm rfl rfl (by first | rfl | exact bI_nar | decide) ?_
    exact ⟨_, _, rfl, rfl, by first | exact r2.2 | exact Fnd.rf⟩
  · refine x_aload_n hm rfl rfl ?_
    refine x_ldcI hm rfl (v := (-1000004 : Int32)) (by decide +kernel) ?_
    refine x_cVi hm rfl rfl (t135 (by decide +kernel)) (fun v2 M2 r2 => ?_)
    refine x_goto hm rfl (t := 14) rfl ?_
    refine x_iret hm rfl rfl (by first | rfl | exact bI_nar | decide) ?_
    exact ⟨_, _, rfl, rfl, by first | exact r2.2 | exact Fnd.rf⟩
theorem l183 {pl many a : Nat} (hW : Wf M) (ha : a ≤ 1000) (hmb : many ≤ 1000) (hpl : ∀ (M1 : mM) (v : Int32), (v = M 67 pl ∨ ∃ k, k < many ∧ v = nI k) → Sf M1 (mput M1 67 pl v)) (hpb : pl < 118) : ∀ (n k : Nat) (b l : Int32) (x8 : Option Value) (M1 : mM), many - k < n → k ≤ many → Sf M M1 → mEv X (QI (fun _ M' => Sf M M')) 183 18 [some (.ref 66), some (.int (nI pl)), some (.int (nI many)), some (.int (nI a)), some (.int (M 67 pl)), some (.int b), some (.int l), some (.int (nI k)), x8] [] (con M1) := by
  have hm : mMet 183 = some _ := rfl
  intro n
  induction n with
  | zero =>
    intro k b l x8 M1 hkn hkb hS
    omega
  | succ n ih =>
    intro k b l x8 M1 hkn hkb hS
    refine x_iload hm rfl rfl ?_
    refine x_iload_n hm rfl rfl ?_
    refine x_icmp_ge hm rfl (t := 70) rfl (fun h1 => ?_) (fun h1 => ?_)
    · refine x_aload_n hm rfl rfl ?_
      refine x_getf hm rfl (gR rfl rfl) ?_
      refine x_iload_n hm rfl rfl ?_
      refine x_iload hm rfl rfl ?_
      refine x_iast hm rfl (sI rfl (by omega) (by decide)) ?_
      refine x_iload hm rfl rfl ?_
      refine x_iret hm rfl rfl (by first | rfl | exact bI_nar | decide) ?_
      exact ⟨_, _, rfl, rfl, hS.trans (hpl _ _ (Or.inl rfl))⟩
    · have hk : k < many := Nat.lt_of_not_le fun h => h1 (nI_le h (by omega))
      refine x_aload_n hm rfl rfl ?_
      refine x_getf hm rfl (gR rfl rfl) ?_
      refine x_iload_n hm rfl rfl ?_
      refine x_iload hm rfl rfl ?_
      refine x_iast hm rfl (sI rfl (by omega) (by decide)) ?_
      have hS2 := hS.trans (hpl M1 (nI k) (Or.inr ⟨k, hk, rfl⟩))
      refine x_aload_n hm rfl rfl ?_
      refine x_iload_n hm rfl rfl ?_
      refine x_cVi hm rfl rfl (t180 (hS2.1 hW) ha) (fun v2 M2 r2 => ?_)
      refine x_istore hm rfl rfl ?_
      refine x_iload hm rfl rfl ?_
      refine x_iload hm rfl rfl ?_
      refine x_icmp_ge hm rfl (t := 51) rfl (fun h3 => ?_) (fun h3 => ?_)
      · refine x_iload hm rfl rfl ?_
        refine x_istore hm rfl rfl ?_
        refine x_iload hm rfl rfl ?_
        refine x_iload hm rfl rfl ?_
        refine x_lib hm rfl rfl ?_
        dsimp only
        refine x_istore hm rfl rfl ?_
        refine x_iinc hm rfl rfl (v := nI 1) (by decide) rfl ?_
        rw [jI_add]
        refine x_goto hm rfl (t := 18) rfl ?_
        exact ih _ _ _ _ _ (by omega) (by omega) (hS2.trans r2)
      · refine x_iload hm rfl rfl ?_
        refine x_goto hm rfl (t := 53) rfl ?_
        refine x_istore hm rfl rfl ?_
        refine x_iload hm rfl rfl ?_
        refine x_iload hm rfl rfl ?_
        refine x_lib hm rfl rfl ?_
        dsimp only
        refine x_istore hm rfl rfl ?_
        refine x_iinc hm rfl rfl (v := nI 1) (by decide) rfl ?_
        rw [jI_add]
        refine x_goto hm rfl (t := 18) rfl ?_
        exact ih _ _ _ _ _ (by omega) (by omega) (hS2.trans r2)
theorem t183 {pl many a : Nat} (hW : Wf M) (ha : a ≤ 1000) (hmb : many ≤ 1000) (hpl : ∀ (M1 : mM) (v : Int32), (v = M 67 pl ∨ ∃ k, k < many ∧ v = nI k) → Sf M1 (mput M1 67 pl v)) (hpb : pl < 118) : ∃ v M', mT X 183 [.ref 66, .int (nI pl), .int (nI many), .int (nI a)] (con M) (some (.int v)) (con M') ∧ Sf M M' := by
  refine ti_of (row := _) rfl (Nat.le_of_ble_eq_true rfl) ?_
  have hm : mMet 183 = some _ := rfl
  refine x_aload_n hm rfl rfl ?_
  refine x_getf hm rfl (gR rfl rfl) ?_
  refine x_iload_n hm rfl rfl ?_
  refine x_iald hm rfl (lI rfl (by omega) (by decide)) ?_
  refine x_istore hm rfl rfl ?_
  refine x_iconst hm rfl (v := nI 0) (by decide) ?_
  refine x_istore hm rfl rfl ?_
  refine x_ldcI hm rfl (v := nI 2147483647) (by decide +kernel) ?_
  refine x_istore hm rfl rfl ?_
  refine x_iconst hm rfl (v := nI 0) (by decide) ?_
  refine x_istore hm rfl rfl ?_
  exact l183 hW ha hmb hpl hpb _ 0 _ _ _ _ (Nat.lt_succ_self _) (Nat.zero_le _) Sf.rf
theorem l186 {t pl many a : Nat} (hW : Wf M) (ht : t < 8) (ha : a ≤ 1000) (hmb : many ≤ 1000) (hpl : ∀ (M1 : mM) (v : Int32), (v = M 67 pl ∨ ∃ k, k < many ∧ v = nI k) → Sf M1 (mput M1 67 pl v)) (hpb : pl < 118) : ∀ (n k : Nat) (b l : Int32) (x8 : Option Value) (M1 : mM), many - k < n → k ≤ many → Sf M M1 → mEv X (QI (fun _ M' => Sf M M')) 186 17 [some (.ref 66), some (.int (nI t)), some (.int (nI pl)), some (.int (nI many)), some (.int (nI a)), some (.int (M 67 pl)), some (.int b), some (.int l), some (.int (nI k)), x8] [] (con M1) := by
  have hm : mMet 186 = some _ := rfl
  intro n
  induction n with
  | zero =>
    intro k b l x8 M1 hkn hkb hS
    omega
  | succ n ih =>
    intro k b l x8 M1 hkn hkb hS
    refine x_iload hm rfl rfl ?_
    refine x_iload_n hm rfl rfl ?_
    refine x_icmp_ge hm rfl (t := 71) rfl (fun h1 => ?_) (fun h1 => ?_)
    · refine x_aload_n hm rfl rfl ?_
      refine x_getf hm rfl (gR rfl rfl) ?_
      refine x_iload_n hm rfl rfl ?_
      refine x_iload hm rfl rfl ?_
      refine x_iast hm rfl (sI rfl (by omega) (by decide)) ?_
      refine x_iload hm rfl rfl ?_
      refine x_iret hm rfl rfl (by first | rfl | exact bI_nar | decide) ?_
      exact ⟨_, _, rfl, rfl, hS.trans (hpl _ _ (Or.inl rfl))⟩
    · have hk : k < many := Nat.lt_of_not_le fun h => h1 (nI_le h (by omega))
      refine x_aload_n hm rfl rfl ?_
      refine x_getf hm rfl (gR rfl rfl) ?_
      refine x_iload_n hm rfl rfl ?_
      refine x_iload hm rfl rfl ?_
      refine x_iast hm rfl (sI rfl (by omega) (by decide)) ?_
      have hS2 := hS.trans (hpl M1 (nI k) (Or.inr ⟨k, hk, rfl⟩))
      refine x_aload_n hm rfl rfl ?_
      refine x_iload_n hm rfl rfl ?_
      refine x_iload hm rfl rfl ?_
      refine x_cVi hm rfl rfl (t173 (hS2.1 hW) ht ha) (fun v2 M2 r2 => ?_)
      refine x_istore hm rfl rfl ?_
      refine x_iload hm rfl rfl ?_
      refine x_iload hm rfl rfl ?_
      refine x_icmp_le hm rfl (t := 52) rfl (fun h3 => ?_) (fun h3 => ?_)
      · refine x_iload hm rfl rfl ?_
        refine x_istore hm rfl rfl ?_
        refine x_iload hm rfl rfl ?_
        refine x_iload hm rfl rfl ?_
        refine x_lib hm rfl rfl ?_
        dsimp only
        refine x_istore hm rfl rfl ?_
        refine x_iinc hm rfl rfl (v := nI 1) (by decide) rfl ?_
        rw [jI_add]
        refine x_goto hm rfl (t := 17) rfl ?_
        exact ih _ _ _ _ _ (by omega) (by omega) (hS2.trans r2)
      · refine x_iload hm rfl rfl ?_
        refine x_goto hm rfl (t := 54) rfl ?_
        refine x_istore hm rfl rfl ?_
        refine x_iload hm rfl rfl ?_
        refine x_iload hm rfl rfl ?_
        refine x_lib hm rfl rfl ?_
        dsimp only
        refine x_istore hm rfl rfl ?_
        refine x_iinc hm rfl rfl (v := nI 1) (by decide) rfl ?_
        rw [jI_add]
        refine x_goto hm rfl (t := 17) rfl ?_
        exact ih _ _ _ _ _ (by omega) (by omega) (hS2.trans r2)
theorem t186 {t pl many a : Nat} (hW : Wf M) (ht : t < 8) (ha : a ≤ 1000) (hmb : many ≤ 1000) (hpl : ∀ (M1 : mM) (v : Int32), (v = M 67 pl ∨ ∃ k, k < many ∧ v = nI k) → Sf M1 (mput M1 67 pl v)) (hpb : pl < 118) : ∃ v M', mT X 186 [.ref 66, .int (nI t), .int (nI pl), .int (nI many), .int (nI a)] (con M) (some (.int v)) (con M') ∧ Sf M M' := by
  refine ti_of (row := _) rfl (Nat.le_of_ble_eq_true rfl) ?_
  have hm : mMet 186 = some _ := rfl
  refine x_aload_n hm rfl rfl ?_
  refine x_getf hm rfl (gR rfl rfl) ?_
  refine x_iload_n hm rfl rfl ?_
  refine x_iald hm rfl (lI rfl (by omega) (by decide)) ?_
  refine x_istore hm rfl rfl ?_
  refine x_iconst hm rfl (v := (-1 : Int32)) (by decide) ?_
  refine x_istore hm rfl rfl ?_
  refine x_iconst hm rfl (v := (-1 : Int32)) (by decide) ?_
  refine x_istore hm rfl rfl ?_
  refine x_iconst hm rfl (v := nI 0) (by decide) ?_
  refine x_istore hm rfl rfl ?_
  exact l186 hW ht ha hmb hpl hpb _ 0 _ _ _ _ (Nat.lt_succ_self _) (Nat.zero_le _) Sf.rf
theorem t172 {a1 a2 : Int32} (hI : Inv M) : ∃ v M', mT X 172 [.ref 66, .int a1, .int a2] (con M) (some (.int v)) (con M') ∧ Inv M' := by
  refine ti_of (row := _) rfl (Nat.le_of_ble_eq_true rfl) ?_
  have hm : mMet 172 = some _ := rfl
  obtain ⟨nt, hn8, hnt⟩ := hI.1.nt
  refine x_aload_n hm rfl rfl ?_
  refine x_iload_n hm rfl rfl ?_
  refine x_callV hm rfl rfl (t139) ?_
  refine x_if_eq hm rfl (t := 27) rfl (fun h1 => ?_) (fun h1 => ?_)
  · refine x_aload_n hm rfl rfl ?_
    refine x_ldcI hm rfl (v := (-1000001 : Int32)) (by decide +kernel) ?_
    refine x_cVi hm rfl rfl (t135 (by decide +kernel)) (fun v2 M2 r2 => ?_)
    refine x_iret hm rfl rfl (by first | rfl | exact bI_nar | decide) ?_
    exact ⟨_, _, rfl, rfl, by first | exact hI | exact (r1.2.inv hI) | exact (r2.2.inv hI) | exact (r3.2.inv hI) | exact (r4.2.inv hI) | exact (r5.2.inv hI) | exact (r6.2.inv hI) | exact (r7.2.inv hI) | exact (r8.2.inv hI) | exact (r1.inv hI) | exact (r2.inv hI) | exact (r3.inv hI) | exact (r4.inv hI) | exact (r5.inv hI) | exact (r6.inv hI) | exact (r7.inv hI) | exact (r8.inv hI)⟩
  · obtain ⟨t, ht, rfl⟩ := in_k hnt (by omega) (bI_ne0 h1)
    refine x_iload_n hm rfl rfl ?_
    refine x_iconst hm rfl (v := nI 0) (by decide) ?_
    refine x_bipush hm rfl (v := nI 100) (by decide) ?_
    refine x_callS hm rfl rfl (t133) ?_
    refine x_if_eq hm rfl (t := 27) rfl (fun h3 => ?_) (fun h3 => ?_)
    · refine x_aload_n hm rfl rfl ?_
      refine x_ldcI hm rfl (v := (-1000001 : Int32)) (by decide +kernel) ?_
      refine x_cVi hm rfl rfl (t135 (by decide +kernel)) (fun v4 M4 r4 => ?_)
      refine x_iret hm rfl rfl (by first | rfl | exact bI_nar | decide) ?_
      exact ⟨_, _, rfl, rfl, by first | exact hI | exact (r1.2.inv hI) | exact (r2.2.inv hI) | exact (r3.2.inv hI) | exact (r4.2.inv hI) | exact (r5.2.inv hI) | exact (r6.2.inv hI) | exact (r7.2.inv hI) | exact (r8.2.inv hI) | exact (r1.inv hI) | exact (r2.inv hI) | exact (r3.inv hI) | exact (r4.inv hI) | exact (r5.inv hI) | exact (r6.inv hI) | exact (r7.inv hI) | exact (r8.inv hI)⟩
    · obtain ⟨a, ha, rfl⟩ := le_k (by omega) (bI_ne0 h3)
      refine x_aload_n hm rfl rfl ?_
      refine x_iload_n hm rfl rfl ?_
      refine x_iload_n hm rfl rfl ?_
      refine x_cVi hm rfl rfl (t173 hI.1 (by omega) (by omega)) (fun v5 M5 r5 => ?_)
      refine x_goto hm rfl (t := 33) rfl ?_
      refine x_iret hm rfl rfl (by first | rfl | exact bI_nar | decide) ?_
      exact ⟨_, _, rfl, rfl, by first | exact hI | exact (r1.2.inv hI) | exact (r2.2.inv hI) | exact (r3.2.inv hI) | exact (r4.2.inv hI) | exact (r5.2.inv hI) | exact (r6.2.inv hI) | exact (r7.2.inv hI) | exact (r8.2.inv hI) | exact (r1.inv hI) | exact (r2.inv hI) | exact (r3.inv hI) | exact (r4.inv hI) | exact (r5.inv hI) | exact (r6.inv hI) | exact (r7.inv hI) | exact (r8.inv hI)⟩
theorem t178 {a1 : Int32} (hI : Inv M) : ∃ v M', mT X 178 [.ref 66, .int a1] (con M) (some (.int v)) (con M') ∧ Inv M' := by
  refine ti_of (row := _) rfl (Nat.le_of_ble_eq_true rfl) ?_
  have hm : mMet 178 = some _ := rfl
  refine x_iload_n hm rfl rfl ?_
  refine x_iconst hm rfl (v := nI 0) (by decide) ?_
  refine x_bipush hm rfl (v := nI 100) (by decide) ?_
  refine x_callS hm rfl rfl (t133) ?_
  refine x_if_ne hm rfl (t := 17) rfl (fun h1 => ?_) (fun h1 => ?_)
  · obtain ⟨a, ha, rfl⟩ := le_k (by omega) (bI_ne0 h1)
    refine x_aload_n hm rfl rfl ?_
    refine x_getf hm rfl (gR rfl rfl) ?_
    refine x_aload_n hm rfl rfl ?_
    refine x_getf hm rfl (gR rfl rfl) ?_
    refine x_callS hm rfl rfl (t174 rfl rfl (by decide)) ?_
    refine x_aload_n hm rfl rfl ?_
    refine x_iload_n hm rfl rfl ?_
    refine x_cVv hm rfl rfl (t164 hI.1.aside (by omega)) (fun M2 r2 => ?_)
    refine x_aload_n hm rfl rfl ?_
    refine x_aload_n hm rfl rfl ?_
    refine x_cVe hm rfl rfl (t167 (r2.1.1 hI.1.aside)) (fun v3 r3 => ?_)
    refine x_callV hm rfl rfl (t175) ?_
    refine x_iret hm rfl rfl (by first | rfl | exact bI_nar | decide) ?_
    exact ⟨_, _, rfl, rfl, by first | exact hI | exact (r4.2.inv hI) | exact (r3.2.inv hI) | exact (r5.2.inv hI) | exact ((Sf.trial r2).inv hI)⟩
  · refine x_aload_n hm rfl rfl ?_
    refine x_ldcI hm rfl (v := (-1000001 : Int32)) (by decide +kernel) ?_
    refine x_cVi hm rfl rfl (t135 (by decide +kernel)) (fun v4 M4 r4 => ?_)
    refine x_iret hm rfl rfl (by first | rfl | exact bI_nar | decide) ?_
    exact ⟨_, _, rfl, rfl, by first | exact hI | exact (r4.2.inv hI) | exact (r3.2.inv hI) | exact (r5.2.inv hI) | exact ((Sf.trial r2).inv hI)⟩
theorem t179 {a1 : Int32} (hI : Inv M) : ∃ v M', mT X 179 [.ref 66, .int a1] (con M) (some (.int v)) (con M') ∧ Inv M' := by
  refine ti_of (row := _) rfl (Nat.le_of_ble_eq_true rfl) ?_
  have hm : mMet 179 = some _ := rfl
  refine x_iload_n hm rfl rfl ?_
  refine x_iconst hm rfl (v := nI 0) (by decide) ?_
  refine x_bipush hm rfl (v := nI 100) (by decide) ?_
  refine x_callS hm rfl rfl (t133) ?_
  refine x_if_eq hm rfl (t := 18) rfl (fun h1 => ?_) (fun h1 => ?_)
  · refine x_aload_n hm rfl rfl ?_
    refine x_ldcI hm rfl (v := (-1000001 : Int32)) (by decide +kernel) ?_
    refine x_cVi hm rfl rfl (t135 (by decide +kernel)) (fun v2 M2 r2 => ?_)
    refine x_iret hm rfl rfl (by first | rfl | exact bI_nar | decide) ?_
    exact ⟨_, _, rfl, rfl, by first | exact hI | exact (r1.2.inv hI) | exact (r2.2.inv hI) | exact (r3.2.inv hI) | exact (r4.2.inv hI) | exact (r5.2.inv hI) | exact (r6.2.inv hI) | exact (r7.2.inv hI) | exact (r8.2.inv hI) | exact (r1.inv hI) | exact (r2.inv hI) | exact (r3.inv hI) | exact (r4.inv hI) | exact (r5.inv hI) | exact (r6.inv hI) | exact (r7.inv hI) | exact (r8.inv hI)⟩
  · obtain ⟨a, ha, rfl⟩ := le_k (by omega) (bI_ne0 h1)
    refine x_aload_n hm rfl rfl ?_
    refine x_iload_n hm rfl rfl ?_
    refine x_cVi hm rfl rfl (t180 hI.1 (by omega)) (fun v3 M3 r3 => ?_)
    refine x_goto hm rfl (t := 24) rfl ?_
    refine x_iret hm rfl rfl (by first | rfl | exact bI_nar | decide) ?_
    exact ⟨_, _, rfl, rfl, by first | exact hI | exact (r1.2.inv hI) | exact (r2.2.inv hI) | exact (r3.2.inv hI) | exact (r4.2.inv hI) | exact (r5.2.inv hI) | exact (r6.2.inv hI) | exact (r7.2.inv hI) | exact (r8.2.inv hI) | exact (r1.inv hI) | exact (r2.inv hI) | exact (r3.inv hI) | exact (r4.inv hI) | exact (r5.inv hI) | exact (r6.inv hI) | exact (r7.inv hI) | exact (r8.inv hI)⟩
theorem t182 {a1 a2 : Int32} (hI : Inv M) : ∃ v M', mT X 182 [.ref 66, .int a1, .int a2] (con M) (some (.int v)) (con M') ∧ Inv M' := by
  refine ti_of (row := _) rfl (Nat.le_of_ble_eq_true rfl) ?_
  have hm : mMet 182 = some _ := rfl
  obtain ⟨np, hp8, hnp⟩ := hI.1.np
  refine x_aload_n hm rfl rfl ?_
  refine x_iload_n hm rfl rfl ?_
  refine x_callV hm rfl rfl (t153) ?_
  refine x_if_eq hm rfl (t := 33) rfl (fun h1 => ?_) (fun h1 => ?_)
  · refine x_aload_n hm rfl rfl ?_
    refine x_ldcI hm rfl (v := (-1000001 : Int32)) (by decide +kernel) ?_
    refine x_cVi hm rfl rfl (t135 (by decide +kernel)) (fun v2 M2 r2 => ?_)
    refine x_iret hm rfl rfl (by first | rfl | exact bI_nar | decide) ?_
    exact ⟨_, _, rfl, rfl, by first | exact hI | exact (r1.2.inv hI) | exact (r2.2.inv hI) | exact (r3.2.inv hI) | exact (r4.2.inv hI) | exact (r5.2.inv hI) | exact (r6.2.inv hI) | exact (r7.2.inv hI) | exact (r8.2.inv hI) | exact (r1.inv hI) | exact (r2.inv hI) | exact (r3.inv hI) | exact (r4.inv hI) | exact (r5.inv hI) | exact (r6.inv hI) | exact (r7.inv hI) | exact (r8.inv hI)⟩
  · obtain ⟨p, hp, rfl⟩ := in_k hnp (by omega) (bI_ne0 h1)
    refine x_iload_n hm rfl rfl ?_
    refine x_iconst hm rfl (v := nI 0) (by decide) ?_
    refine x_bipush hm rfl (v := nI 60) (by decide) ?_
    refine x_callS hm rfl rfl (t133) ?_
    refine x_if_eq hm rfl (t := 33) rfl (fun h3 => ?_) (fun h3 => ?_)
    · refine x_aload_n hm rfl rfl ?_
      refine x_ldcI hm rfl (v := (-1000001 : Int32)) (by decide +kernel) ?_
      refine x_cVi hm rfl rfl (t135 (by decide +kernel)) (fun v4 M4 r4 => ?_)
      refine x_iret hm rfl rfl (by first | rfl | exact bI_nar | decide) ?_
      exact ⟨_, _, rfl, rfl, by first | exact hI | exact (r1.2.inv hI) | exact (r2.2.inv hI) | exact (r3.2.inv hI) | exact (r4.2.inv hI) | exact (r5.2.inv hI) | exact (r6.2.inv hI) | exact (r7.2.inv hI) | exact (r8.2.inv hI) | exact (r1.inv hI) | exact (r2.inv hI) | exact (r3.inv hI) | exact (r4.inv hI) | exact (r5.inv hI) | exact (r6.inv hI) | exact (r7.inv hI) | exact (r8.inv hI)⟩
    · obtain ⟨a, ha, rfl⟩ := le_k (by omega) (bI_ne0 h3)
      refine x_aload_n hm rfl rfl ?_
      refine x_iload_n hm rfl rfl ?_
      refine x_iconst hm rfl (v := nI 0) (by decide) ?_
      refine x_callS hm rfl rfl (t142) ?_
      refine x_bipush hm rfl (v := nI 7) (by decide) ?_
      refine x_iload_n hm rfl rfl ?_
      refine x_cVi hm rfl rfl (t183 hI.1 (by omega) (by omega) (fun _ _ _ => Sf.person (by omega) (by decide)) (by omega)) (fun v5 M5 r5 => ?_)
      refine x_goto hm rfl (t := 39) rfl ?_
      refine x_iret hm rfl rfl (by first | rfl | exact bI_nar | decide) ?_
      exact ⟨_, _, rfl, rfl, by first | exact hI | exact (r1.2.inv hI) | exact (r2.2.inv hI) | exact (r3.2.inv hI) | exact (r4.2.inv hI) | exact (r5.2.inv hI) | exact (r6.2.inv hI) | exact (r7.2.inv hI) | exact (r8.2.inv hI) | exact (r1.inv hI) | exact (r2.inv hI) | exact (r3.inv hI) | exact (r4.inv hI) | exact (r5.inv hI) | exact (r6.inv hI) | exact (r7.inv hI) | exact (r8.inv hI)⟩
theorem t184 {a1 a2 : Int32} (hI : Inv M) : ∃ v M', mT X 184 [.ref 66, .int a1, .int a2] (con M) (some (.int v)) (con M') ∧ Inv M' := by
  refine ti_of (row := _) rfl (Nat.le_of_ble_eq_true rfl) ?_
  have hm : mMet 184 = some _ := rfl
  obtain ⟨np, hp8, hnp⟩ := hI.1.np
  refine x_aload_n hm rfl rfl ?_
  refine x_iload_n hm rfl rfl ?_
  refine x_callV hm rfl rfl (t153) ?_
  refine x_if_eq hm rfl (t := 33) rfl (fun h1 => ?_) (fun h1 => ?_)
  · refine x_aload_n hm rfl rfl ?_
    refine x_ldcI hm rfl (v := (-1000001 : Int32)) (by decide +kernel) ?_
    refine x_cVi hm rfl rfl (t135 (by decide +kernel)) (fun v2 M2 r2 => ?_)
    refine x_iret hm rfl rfl (by first | rfl | exact bI_nar | decide) ?_
    exact ⟨_, _, rfl, rfl, by first | exact hI | exact (r1.2.inv hI) | exact (r2.2.inv hI) | exact (r3.2.inv hI) | exact (r4.2.inv hI) | exact (r5.2.inv hI) | exact (r6.2.inv hI) | exact (r7.2.inv hI) | exact (r8.2.inv hI) | exact (r1.inv hI) | exact (r2.inv hI) | exact (r3.inv hI) | exact (r4.inv hI) | exact (r5.inv hI) | exact (r6.inv hI) | exact (r7.inv hI) | exact (r8.inv hI)⟩
  · obtain ⟨p, hp, rfl⟩ := in_k hnp (by omega) (bI_ne0 h1)
    refine x_iload_n hm rfl rfl ?_
    refine x_iconst hm rfl (v := nI 0) (by decide) ?_
    refine x_bipush hm rfl (v := nI 60) (by decide) ?_
    refine x_callS hm rfl rfl (t133) ?_
    refine x_if_eq hm rfl (t := 33) rfl (fun h3 => ?_) (fun h3 => ?_)
    · refine x_aload_n hm rfl rfl ?_
      refine x_ldcI hm rfl (v := (-1000001 : Int32)) (by decide +kernel) ?_
      refine x_cVi hm rfl rfl (t135 (by decide +kernel)) (fun v4 M4 r4 => ?_)
      refine x_iret hm rfl rfl (by first | rfl | exact bI_nar | decide) ?_
      exact ⟨_, _, rfl, rfl, by first | exact hI | exact (r1.2.inv hI) | exact (r2.2.inv hI) | exact (r3.2.inv hI) | exact (r4.2.inv hI) | exact (r5.2.inv hI) | exact (r6.2.inv hI) | exact (r7.2.inv hI) | exact (r8.2.inv hI) | exact (r1.inv hI) | exact (r2.inv hI) | exact (r3.inv hI) | exact (r4.inv hI) | exact (r5.inv hI) | exact (r6.inv hI) | exact (r7.inv hI) | exact (r8.inv hI)⟩
    · obtain ⟨a, ha, rfl⟩ := le_k (by omega) (bI_ne0 h3)
      refine x_aload_n hm rfl rfl ?_
      refine x_iload_n hm rfl rfl ?_
      refine x_iconst hm rfl (v := nI 2) (by decide) ?_
      refine x_callS hm rfl rfl (t142) ?_
      refine x_bipush hm rfl (v := nI 16) (by decide) ?_
      refine x_iload_n hm rfl rfl ?_
      refine x_cVi hm rfl rfl (t183 hI.1 (by omega) (by omega) (fun _ _ _ => Sf.person (by omega) (by decide)) (by omega)) (fun v5 M5 r5 => ?_)
      refine x_goto hm rfl (t := 39) rfl ?_
      refine x_iret hm rfl rfl (by first | rfl | exact bI_nar | decide) ?_
      exact ⟨_, _, rfl, rfl, by first | exact hI | exact (r1.2.inv hI) | exact (r2.2.inv hI) | exact (r3.2.inv hI) | exact (r4.2.inv hI) | exact (r5.2.inv hI) | exact (r6.2.inv hI) | exact (r7.2.inv hI) | exact (r8.2.inv hI) | exact (r1.inv hI) | exact (r2.inv hI) | exact (r3.inv hI) | exact (r4.inv hI) | exact (r5.inv hI) | exact (r6.inv hI) | exact (r7.inv hI) | exact (r8.inv hI)⟩
end RF
