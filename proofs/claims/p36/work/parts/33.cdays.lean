/-! ===== the class: towns change ===== -/
section CB
variable {X : mSc} {Q : Option Value → mHp → Prop} {M : mM} {b : Nat}
theorem l31b (hb : b = 1 ∨ b = 18 ∨ b = 35) {i nb : Nat} (hW : Wf M) (hnb : M b 3 = nI nb) (h8 : nb ≤ 8) (hout : ∀ (g : Int32) (x3 x4 : Option Value) (M1 : mM), Tw b M M1 → mEv X (QV (fun M' => Tw b M M')) 31 4 [some (.ref b), some (.int g), some (.int (nI (i + 1))), x3, x4] [] (con M1)) : ∀ (n k : Nat) (g : Int32) (x4 : Option Value) (M1 : mM), nb - k < n → k ≤ nb → Tw b M M1 → mEv X (QV (fun M' => Tw b M M')) 31 18 [some (.ref b), some (.int g), some (.int (nI i)), some (.int (nI k)), x4] [] (con M1) := by
  have hm : mMet 31 = some _ := rfl
  intro n
  induction n with
  | zero =>
    intro k g x4 M1 hkn hkb hT
    omega
  | succ n ih =>
    intro k g x4 M1 hkn hkb hT
    have hW1 := hT.1 hW
    have hn1 : M1 b 3 = nI nb := (hT.2.2 b hb).1.trans hnb
    refine x_iload_n hm rfl rfl ?_
    refine x_aload_n hm rfl rfl ?_
    refine x_getf hm rfl (gI (tO hb) rfl) ?_
    rw [hn1]
    refine x_icmp_ge hm rfl (t := 76) rfl (fun h1 => ?_) (fun h1 => ?_)
    · refine x_iinc hm rfl rfl (v := nI 1) (by decide) rfl ?_
      rw [jI_add]
      refine x_goto hm rfl (t := 4) rfl ?_
      exact hout _ _ _ _ hT
    · have hk : k < nb := Nat.lt_of_not_le fun h => h1 (nI_le h (by omega))
      refine x_aload_n hm rfl rfl ?_
      refine x_getf hm rfl (gR (tO hb) rfl) ?_
      refine x_iconst hm rfl (v := nI 5) (by decide) ?_
      refine x_aald hm rfl (by first | exact lQ 3 (Or.inr (Or.inl rfl)) (tI hb) rfl (by omega) (by decide) | exact lQ 3 (Or.inr (Or.inl rfl)) (tF hb) rfl (by omega) (by decide) | exact lQ 3 (Or.inr (Or.inl rfl)) (tI hb) (tIk (by omega)) (by omega) (by decide) | exact lQ 3 (Or.inr (Or.inl rfl)) (tF hb) (tFk (by omega)) (by omega) (by decide)) ?_
      refine x_iload_n hm rfl rfl ?_
      refine x_iald hm rfl (by first | exact lI (tRow hb (by omega)) (by omega) (by decide) | exact lI (tRowI hb (by omega)) (by omega) (by decide) | exact lI (tRowF hb (by omega)) (by omega) (by decide) | exact lI (tSp hb) (by omega) (by decide) | exact lI rfl (by omega) (by decide)) ?_
      have hg2 := hW1.chang hb k
      generalize M1 (b + 7) k = c at hg2 ⊢
      refine x_istore hm rfl rfl ?_
      refine x_iload hm rfl rfl ?_
      refine x_iconst hm rfl (v := (-1 : Int32)) (by decide) ?_
      refine x_icmp_eq hm rfl (t := 70) rfl (fun h2 => ?_) (fun h2 => ?_)
      · refine x_iinc hm rfl rfl (v := nI 1) (by decide) rfl ?_
        rw [jI_add]
        refine x_goto hm rfl (t := 18) rfl ?_
        first | exact ih _ _ _ _ (by omega) (by omega) hT | exact ih _ _ _ _ (by omega) (by omega) (hT.trans (Tw.row (j := 4) hb (by decide) (by decide) trivial))
      · obtain ⟨z, hz, rfl⟩ := (ok2 hg2).resolve_left h2
        refine x_aload_n hm rfl rfl ?_
        refine x_iload hm rfl rfl ?_
        refine x_callV hm rfl (mCallT hb (by decide) rfl rfl rfl rfl rfl) (t32 hb (by omega)) ?_
        refine x_if_eq hm rfl (t := 70) rfl (fun h3 => ?_) (fun h3 => ?_)
        · refine x_iinc hm rfl rfl (v := nI 1) (by decide) rfl ?_
          rw [jI_add]
          refine x_goto hm rfl (t := 18) rfl ?_
          first | exact ih _ _ _ _ (by omega) (by omega) hT | exact ih _ _ _ _ (by omega) (by omega) (hT.trans (Tw.row (j := 4) hb (by decide) (by decide) trivial))
        · refine x_aload_n hm rfl rfl ?_
          refine x_iload_n hm rfl rfl ?_
          refine x_callV hm rfl (mCallT hb (by decide) rfl rfl rfl rfl rfl) (t32 hb (by omega)) ?_
          refine x_if_ne hm rfl (t := 70) rfl (fun h4 => ?_) (fun h4 => ?_)
          · refine x_iinc hm rfl rfl (v := nI 1) (by decide) rfl ?_
            rw [jI_add]
            refine x_goto hm rfl (t := 18) rfl ?_
            first | exact ih _ _ _ _ (by omega) (by omega) hT | exact ih _ _ _ _ (by omega) (by omega) (hT.trans (Tw.row (j := 4) hb (by decide) (by decide) trivial))
          · refine x_aload_n hm rfl rfl ?_
            refine x_getf hm rfl (gR (tO hb) rfl) ?_
            refine x_iconst hm rfl (v := nI 2) (by decide) ?_
            refine x_aald hm rfl (by first | exact lQ 3 (Or.inr (Or.inl rfl)) (tI hb) rfl (by omega) (by decide) | exact lQ 3 (Or.inr (Or.inl rfl)) (tF hb) rfl (by omega) (by decide) | exact lQ 3 (Or.inr (Or.inl rfl)) (tI hb) (tIk (by omega)) (by omega) (by decide) | exact lQ 3 (Or.inr (Or.inl rfl)) (tF hb) (tFk (by omega)) (by omega) (by decide)) ?_
            refine x_iload_n hm rfl rfl ?_
            refine x_iconst hm rfl (v := nI 0) (by decide) ?_
            refine x_iast hm rfl (by first | exact sI (tRow hb (by omega)) (by omega) (by decide) | exact sI (tRowI hb (by omega)) (by omega) (by decide) | exact sI (tRowF hb (by omega)) (by omega) (by decide) | exact sI (tSp hb) (by omega) (by decide) | exact sI rfl (by omega) (by decide)) ?_
            refine x_iconst hm rfl (v := nI 1) (by decide) ?_
            refine x_istore_n hm rfl rfl ?_
            refine x_iinc hm rfl rfl (v := nI 1) (by decide) rfl ?_
            rw [jI_add]
            refine x_goto hm rfl (t := 18) rfl ?_
            first | exact ih _ _ _ _ (by omega) (by omega) hT | exact ih _ _ _ _ (by omega) (by omega) (hT.trans (Tw.row (j := 4) hb (by decide) (by decide) trivial))
theorem l31a (hb : b = 1 ∨ b = 18 ∨ b = 35) {nb : Nat} (hW : Wf M) (hnb : M b 3 = nI nb) (h8 : nb ≤ 8) : ∀ (n i : Nat) (g : Int32) (x3 x4 : Option Value) (M1 : mM), 8 - i < n → i ≤ 8 → Tw b M M1 → mEv X (QV (fun M' => Tw b M M')) 31 4 [some (.ref b), some (.int g), some (.int (nI i)), x3, x4] [] (con M1) := by
  have hm : mMet 31 = some _ := rfl
  intro n
  induction n with
  | zero =>
    intro i g x3 x4 M1 hin hi hT
    omega
  | succ n ih =>
    intro i g x3 x4 M1 hin hi hT
    refine x_iload_n hm rfl rfl ?_
    refine x_bipush hm rfl (v := nI 8) (by decide) ?_
    refine x_icmp_ge hm rfl (t := 82) rfl (fun h1 => ?_) (fun h1 => ?_)
    · refine x_ret hm rfl rfl ?_
      exact ⟨_, rfl, rfl, hT⟩
    · have hk : i < 8 := Nat.lt_of_not_le fun h => h1 (nI_le h (by omega))
      refine x_iload_n hm rfl rfl ?_
      refine x_if_eq hm rfl (t := 82) rfl (fun h2 => ?_) (fun h2 => ?_)
      · refine x_ret hm rfl rfl ?_
        exact ⟨_, rfl, rfl, hT⟩
      · refine x_iconst hm rfl (v := nI 0) (by decide) ?_
        refine x_istore_n hm rfl rfl ?_
        refine x_iconst hm rfl (v := nI 0) (by decide) ?_
        refine x_istore_n hm rfl rfl ?_
        exact l31b hb hW hnb h8 (fun g x3 x4 M2 h => ih _ _ _ _ _ (by omega) (by omega) h) _ 0 _ _ _ (Nat.lt_succ_self _) (Nat.zero_le _) hT
theorem t31 (hb : b = 1 ∨ b = 18 ∨ b = 35)  (hW : Wf M) : ∃ M', mT X 31 [.ref b] (con M) none (con M') ∧ Tw b M M' := by
  refine tv_of (row := _) rfl (Nat.le_of_ble_eq_true rfl) ?_
  have hm : mMet 31 = some _ := rfl
  obtain ⟨nb, h8, hnb⟩ := hW.ct hb
  refine x_iconst hm rfl (v := nI 1) (by decide) ?_
  refine x_istore_n hm rfl rfl ?_
  refine x_iconst hm rfl (v := nI 0) (by decide) ?_
  refine x_istore_n hm rfl rfl ?_
  exact l31a hb hW hnb h8 _ 0 _ _ _ _ (Nat.lt_succ_self _) (Nat.zero_le _) Tw.rf
theorem l33 (hb : b = 1 ∨ b = 18 ∨ b = 35) {nb : Nat} (hnb : M b 4 = nI nb) (h8 : nb ≤ 8) : ∀ (n k : Nat) (M1 : mM), nb - k < n → k ≤ nb → Tw b M M1 → mEv X (QV (fun M' => Tw b M M')) 33 2 [some (.ref b), some (.int (nI k))] [] (con M1) := by
  have hm : mMet 33 = some _ := rfl
  intro n
  induction n with
  | zero =>
    intro k M1 hkn hkb hT
    omega
  | succ n ih =>
    intro k M1 hkn hkb hT
    have hn1 : M1 b 4 = nI nb := (hT.2.2 b hb).2.trans hnb
    refine x_iload_n hm rfl rfl ?_
    refine x_aload_n hm rfl rfl ?_
    refine x_getf hm rfl (gI (tO hb) rfl) ?_
    rw [hn1]
    refine x_icmp_ge hm rfl (t := 43) rfl (fun h1 => ?_) (fun h1 => ?_)
    · refine x_ret hm rfl rfl ?_
      exact ⟨_, rfl, rfl, hT⟩
    · have hk : k < nb := Nat.lt_of_not_le fun h => h1 (nI_le h (by omega))
      refine x_aload_n hm rfl rfl ?_
      refine x_getf hm rfl (gR (tO hb) rfl) ?_
      refine x_iconst hm rfl (v := nI 1) (by decide) ?_
      refine x_aald hm rfl (by first | exact lQ 3 (Or.inr (Or.inl rfl)) (tI hb) rfl (by omega) (by decide) | exact lQ 3 (Or.inr (Or.inl rfl)) (tF hb) rfl (by omega) (by decide) | exact lQ 3 (Or.inr (Or.inl rfl)) (tI hb) (tIk (by omega)) (by omega) (by decide) | exact lQ 3 (Or.inr (Or.inl rfl)) (tF hb) (tFk (by omega)) (by omega) (by decide)) ?_
      refine x_iload_n hm rfl rfl ?_
      refine x_aload_n hm rfl rfl ?_
      refine x_getf hm rfl (gR (tO hb) rfl) ?_
      refine x_iconst hm rfl (v := nI 1) (by decide) ?_
      refine x_aald hm rfl (by first | exact lQ 3 (Or.inr (Or.inl rfl)) (tI hb) rfl (by omega) (by decide) | exact lQ 3 (Or.inr (Or.inl rfl)) (tF hb) rfl (by omega) (by decide) | exact lQ 3 (Or.inr (Or.inl rfl)) (tI hb) (tIk (by omega)) (by omega) (by decide) | exact lQ 3 (Or.inr (Or.inl rfl)) (tF hb) (tFk (by omega)) (by omega) (by decide)) ?_
      refine x_iload_n hm rfl rfl ?_
      refine x_iald hm rfl (by first | exact lI (tRow hb (by omega)) (by omega) (by decide) | exact lI (tRowI hb (by omega)) (by omega) (by decide) | exact lI (tRowF hb (by omega)) (by omega) (by decide) | exact lI (tSp hb) (by omega) (by decide) | exact lI rfl (by omega) (by decide)) ?_
      refine x_aload_n hm rfl rfl ?_
      refine x_getf hm rfl (gR (tO hb) rfl) ?_
      refine x_iconst hm rfl (v := nI 2) (by decide) ?_
      refine x_aald hm rfl (by first | exact lQ 3 (Or.inr (Or.inl rfl)) (tI hb) rfl (by omega) (by decide) | exact lQ 3 (Or.inr (Or.inl rfl)) (tF hb) rfl (by omega) (by decide) | exact lQ 3 (Or.inr (Or.inl rfl)) (tI hb) (tIk (by omega)) (by omega) (by decide) | exact lQ 3 (Or.inr (Or.inl rfl)) (tF hb) (tFk (by omega)) (by omega) (by decide)) ?_
      refine x_iload_n hm rfl rfl ?_
      refine x_iald hm rfl (by first | exact lI (tRow hb (by omega)) (by omega) (by decide) | exact lI (tRowI hb (by omega)) (by omega) (by decide) | exact lI (tRowF hb (by omega)) (by omega) (by decide) | exact lI (tSp hb) (by omega) (by decide) | exact lI rfl (by omega) (by decide)) ?_
      refine x_cSe hm rfl rfl (t34) (fun v2 r2 => ?_)
      refine x_iast hm rfl (by first | exact sI (tRow hb (by omega)) (by omega) (by decide) | exact sI (tRowI hb (by omega)) (by omega) (by decide) | exact sI (tRowF hb (by omega)) (by omega) (by decide) | exact sI (tSp hb) (by omega) (by decide) | exact sI rfl (by omega) (by decide)) ?_
      refine x_iinc hm rfl rfl (v := nI 1) (by decide) rfl ?_
      rw [jI_add]
      refine x_goto hm rfl (t := 2) rfl ?_
      exact ih _ _ (by omega) (by omega) (hT.trans (Tw.row (j := 10) hb (by decide) (by decide) trivial))
theorem t33 (hb : b = 1 ∨ b = 18 ∨ b = 35)  (hW : Wf M) : ∃ M', mT X 33 [.ref b] (con M) none (con M') ∧ Tw b M M' := by
  refine tv_of (row := _) rfl (Nat.le_of_ble_eq_true rfl) ?_
  have hm : mMet 33 = some _ := rfl
  obtain ⟨nb, h8, hnb⟩ := hW.cpn hb
  refine x_iconst hm rfl (v := nI 0) (by decide) ?_
  refine x_istore_n hm rfl rfl ?_
  exact l33 hb hnb h8 _ 0 _ (Nat.lt_succ_self _) (Nat.zero_le _) Tw.rf
theorem l83 (hb : b = 1 ∨ b = 18 ∨ b = 35) {nb : Nat} (hnb : M b 4 = nI nb) (h8 : nb ≤ 8) : ∀ (n k : Nat) (M1 : mM), nb - k < n → k ≤ nb → Tw b M M1 → mEv X (QV (fun M' => Tw b M M')) 83 2 [some (.ref b), some (.int (nI k))] [] (con M1) := by
  have hm : mMet 83 = some _ := rfl
  intro n
  induction n with
  | zero =>
    intro k M1 hkn hkb hT
    omega
  | succ n ih =>
    intro k M1 hkn hkb hT
    have hn1 : M1 b 4 = nI nb := (hT.2.2 b hb).2.trans hnb
    refine x_iload_n hm rfl rfl ?_
    refine x_aload_n hm rfl rfl ?_
    refine x_getf hm rfl (gI (tO hb) rfl) ?_
    rw [hn1]
    refine x_icmp_ge hm rfl (t := 49) rfl (fun h1 => ?_) (fun h1 => ?_)
    · refine x_ret hm rfl rfl ?_
      exact ⟨_, rfl, rfl, hT⟩
    · have hk : k < nb := Nat.lt_of_not_le fun h => h1 (nI_le h (by omega))
      refine x_aload_n hm rfl rfl ?_
      refine x_aload_n hm rfl rfl ?_
      refine x_getf hm rfl (gI (tO hb) rfl) ?_
      refine x_ldcI hm rfl (v := nI 1103515245) (by decide +kernel) ?_
      refine x_imul hm rfl ?_
      refine x_sipush hm rfl (v := nI 12345) (by decide) ?_
      refine x_iadd hm rfl ?_
      refine x_putf hm rfl (pI (tO hb) rfl (by decide) (by first | exact mFit_int | rfl | decide) rfl) ?_
      refine x_aload_n hm rfl rfl ?_
      refine x_getf hm rfl (gR (tO hb) rfl) ?_
      refine x_iconst hm rfl (v := nI 1) (by decide) ?_
      refine x_aald hm rfl (by first | exact lQ 3 (Or.inr (Or.inl rfl)) (tI hb) rfl (by omega) (by decide) | exact lQ 3 (Or.inr (Or.inl rfl)) (tF hb) rfl (by omega) (by decide) | exact lQ 3 (Or.inr (Or.inl rfl)) (tI hb) (tIk (by omega)) (by omega) (by decide) | exact lQ 3 (Or.inr (Or.inl rfl)) (tF hb) (tFk (by omega)) (by omega) (by decide)) ?_
      refine x_iload_n hm rfl rfl ?_
      refine x_aload_n hm rfl rfl ?_
      refine x_getf hm rfl (gI (tO hb) rfl) ?_
      refine x_bipush hm rfl (v := nI 8) (by decide) ?_
      refine x_iushr hm rfl ?_
      refine x_bipush hm rfl (v := nI 16) (by decide) ?_
      refine x_irem hm rfl (by decide) ?_
      refine x_iast hm rfl (by first | exact sI (tRow hb (by omega)) (by omega) (by decide) | exact sI (tRowI hb (by omega)) (by omega) (by decide) | exact sI (tRowF hb (by omega)) (by omega) (by decide) | exact sI (tSp hb) (by omega) (by decide) | exact sI rfl (by omega) (by decide)) ?_
      refine x_iinc hm rfl rfl (v := nI 1) (by decide) rfl ?_
      rw [jI_add]
      refine x_goto hm rfl (t := 2) rfl ?_
      exact ih _ _ (by omega) (by omega) ((hT.trans (Tw.fld hb (by decide) (by decide))).trans (Tw.row (j := 10) hb (by decide) (by decide) trivial))
theorem t83 (hb : b = 1 ∨ b = 18 ∨ b = 35)  (hW : Wf M) : ∃ M', mT X 83 [.ref b] (con M) none (con M') ∧ Tw b M M' := by
  refine tv_of (row := _) rfl (Nat.le_of_ble_eq_true rfl) ?_
  have hm : mMet 83 = some _ := rfl
  obtain ⟨nb, h8, hnb⟩ := hW.cpn hb
  refine x_iconst hm rfl (v := nI 0) (by decide) ?_
  refine x_istore_n hm rfl rfl ?_
  exact l83 hb hnb h8 _ 0 _ (Nat.lt_succ_self _) (Nat.zero_le _) Tw.rf
theorem l30b (hb : b = 1 ∨ b = 18 ∨ b = 35) {a i nb : Nat} (hW : Wf M) (hnb : M b 3 = nI nb) (h8 : nb ≤ 8) (hout : ∀ (x3 : Option Value) (M1 : mM), Tw b M M1 → mEv X (QV (fun M' => Tw b M M')) 30 2 [some (.ref b), some (.int (nI a)), some (.int (nI (i + 1))), x3] [] (con M1)) : ∀ (n k : Nat) (M1 : mM), nb - k < n → k ≤ nb → Tw b M M1 → mEv X (QV (fun M' => Tw b M M')) 30 9 [some (.ref b), some (.int (nI a)), some (.int (nI i)), some (.int (nI k))] [] (con M1) := by
  have hm : mMet 30 = some _ := rfl
  intro n
  induction n with
  | zero =>
    intro k M1 hkn hkb hT
    omega
  | succ n ih =>
    intro k M1 hkn hkb hT
    have hW1 := hT.1 hW
    have hn1 : M1 b 3 = nI nb := (hT.2.2 b hb).1.trans hnb
    refine x_iload_n hm rfl rfl ?_
    refine x_aload_n hm rfl rfl ?_
    refine x_getf hm rfl (gI (tO hb) rfl) ?_
    rw [hn1]
    refine x_icmp_ge hm rfl (t := 39) rfl (fun h1 => ?_) (fun h1 => ?_)
    · refine x_aload_n hm rfl rfl ?_
      refine x_cVv hm rfl (mCallT hb (by decide) rfl rfl rfl rfl rfl) (t31 hb hW1) (fun M2 r2 => ?_)
      refine x_aload_n hm rfl rfl ?_
      refine x_cVv hm rfl (mCallT hb (by decide) rfl rfl rfl rfl rfl) (t33 hb (r2.1 hW1)) (fun M3 r3 => ?_)
      refine x_aload_n hm rfl rfl ?_
      refine x_dup hm rfl rfl ?_
      refine x_getf hm rfl (gI (tO hb) rfl) ?_
      refine x_iconst hm rfl (v := nI 1) (by decide) ?_
      refine x_iadd hm rfl ?_
      refine x_putf hm rfl (pI (tO hb) rfl (by decide) (by first | exact mFit_int | rfl | decide) rfl) ?_
      refine x_iinc hm rfl rfl (v := nI 1) (by decide) rfl ?_
      rw [jI_add]
      refine x_goto hm rfl (t := 2) rfl ?_
      exact hout _ _ (((hT.trans r2).trans r3).trans (Tw.fld hb (by decide) (by decide)))
    · have hk : k < nb := Nat.lt_of_not_le fun h => h1 (nI_le h (by omega))
      refine x_aload_n hm rfl rfl ?_
      refine x_getf hm rfl (gR (tO hb) rfl) ?_
      refine x_iconst hm rfl (v := nI 2) (by decide) ?_
      refine x_aald hm rfl (by first | exact lQ 3 (Or.inr (Or.inl rfl)) (tI hb) rfl (by omega) (by decide) | exact lQ 3 (Or.inr (Or.inl rfl)) (tF hb) rfl (by omega) (by decide) | exact lQ 3 (Or.inr (Or.inl rfl)) (tI hb) (tIk (by omega)) (by omega) (by decide) | exact lQ 3 (Or.inr (Or.inl rfl)) (tF hb) (tFk (by omega)) (by omega) (by decide)) ?_
      refine x_iload_n hm rfl rfl ?_
      refine x_dup2 hm rfl rfl rfl ?_
      refine x_iald hm rfl (by first | exact lI (tRow hb (by omega)) (by omega) (by decide) | exact lI (tRowI hb (by omega)) (by omega) (by decide) | exact lI (tRowF hb (by omega)) (by omega) (by decide) | exact lI (tSp hb) (by omega) (by decide) | exact lI rfl (by omega) (by decide)) ?_
      refine x_aload_n hm rfl rfl ?_
      refine x_iload_n hm rfl rfl ?_
      refine x_cVe hm rfl (mCallT hb (by decide) rfl rfl rfl rfl rfl) (t11 hb (by omega) hW1) (fun v4 r4 => ?_)
      refine x_isub hm rfl ?_
      refine x_iast hm rfl (by first | exact sI (tRow hb (by omega)) (by omega) (by decide) | exact sI (tRowI hb (by omega)) (by omega) (by decide) | exact sI (tRowF hb (by omega)) (by omega) (by decide) | exact sI (tSp hb) (by omega) (by decide) | exact sI rfl (by omega) (by decide)) ?_
      refine x_iinc hm rfl rfl (v := nI 1) (by decide) rfl ?_
      rw [jI_add]
      refine x_goto hm rfl (t := 9) rfl ?_
      exact ih _ _ (by omega) (by omega) (hT.trans (Tw.row (j := 4) hb (by decide) (by decide) trivial))
theorem l30a (hb : b = 1 ∨ b = 18 ∨ b = 35) {a nb : Nat} (hW : Wf M) (ha : a ≤ 1000) (hnb : M b 3 = nI nb) (h8 : nb ≤ 8) : ∀ (n i : Nat) (x3 : Option Value) (M1 : mM), a - i < n → i ≤ a → Tw b M M1 → mEv X (QV (fun M' => Tw b M M')) 30 2 [some (.ref b), some (.int (nI a)), some (.int (nI i)), x3] [] (con M1) := by
  have hm : mMet 30 = some _ := rfl
  intro n
  induction n with
  | zero =>
    intro i x3 M1 hin hi hT
    omega
  | succ n ih =>
    intro i x3 M1 hin hi hT
    refine x_iload_n hm rfl rfl ?_
    refine x_iload_n hm rfl rfl ?_
    refine x_icmp_ge hm rfl (t := 63) rfl (fun h1 => ?_) (fun h1 => ?_)
    · refine x_ret hm rfl rfl ?_
      exact ⟨_, rfl, rfl, hT⟩
    · have hk : i < a := Nat.lt_of_not_le fun h => h1 (nI_le h (by omega))
      refine x_iconst hm rfl (v := nI 0) (by decide) ?_
      refine x_istore_n hm rfl rfl ?_
      exact l30b hb hW hnb h8 (fun x3 M2 h => ih _ _ _ (by omega) (by omega) h) _ 0 _ (Nat.lt_succ_self _) (Nat.zero_le _) hT
theorem t30 (hb : b = 1 ∨ b = 18 ∨ b = 35) {a : Nat} (ha : a ≤ 1000) (hW : Wf M) : ∃ M', mT X 30 [.ref b, .int (nI a)] (con M) none (con M') ∧ Tw b M M' := by
  refine tv_of (row := _) rfl (Nat.le_of_ble_eq_true rfl) ?_
  have hm : mMet 30 = some _ := rfl
  obtain ⟨nb, h8, hnb⟩ := hW.ct hb
  refine x_iconst hm rfl (v := nI 0) (by decide) ?_
  refine x_istore_n hm rfl rfl ?_
  exact l30a hb hW ha hnb h8 _ 0 _ _ (Nat.lt_succ_self _) (Nat.zero_le _) Tw.rf
end CB
