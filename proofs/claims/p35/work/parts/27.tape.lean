section
/-! ===== the reference: what was worn, strollers, odds, the tape ===== -/
section RI
variable {X : mSc} {Q : Option Value → mHp → Prop} {M : mM}
def lk (M : mM) (s : Int32) : Int32 := if nI 0 ≤ s ∧ s ≤ nI 3 then (if M 76 s.toNatClampNeg = 0 then (-1000006) else nI 0) else (-1000001)
theorem lk_fd {s : Int32} (h : ¬ lk M s = 0) : FD (lk M s) := by
  unfold lk at h ⊢
  split
  · rename_i h1
    rw [if_pos h1] at h
    split
    · decide
    · rename_i h2
      rw [if_neg h2] at h
      exact absurd rfl h
  · decide
theorem lk_k {s : Int32} (h : lk M s = 0) : ∃ k, k ≤ 3 ∧ s = nI k := by
  unfold lk at h
  split at h
  · rename_i h1
    exact le_k (by decide) h1
  · exact absurd h (by decide)
theorem le1_k {v : Int32} {n : Nat} (hn : n ≤ 999) (h : nI 1 ≤ v ∧ v ≤ nI n) : ∃ k, k ≤ n ∧ 1 ≤ k ∧ v = nI k := by
  have h0 : nI 0 ≤ v := Int32.le_trans (by decide) h.1
  obtain ⟨k, hk, rfl⟩ := le_k hn ⟨h0, h.2⟩
  exact ⟨k, hk, (jI_le (by decide) (by omega)).mp h.1, rfl⟩
theorem odd_k : ∀ b, b ≤ 16 → 1 ≤ b → nI b - nI b / nI 2 * nI 2 = 0 → 1 ≤ b / 2 ∧ b / 2 < b ∧ nI b / nI 2 = nI (b / 2) := by decide +kernel
theorem dec1 (i : Nat) : nI (i + 1) + (-1) = nI i := by
  rw [← jI_add i 1]
  have e : nI 1 = 1 := rfl
  rw [e, Int32.add_assoc]
  have e2 : (1 : Int32) + (-1) = 0 := by decide +kernel
  rw [e2, Int32.add_zero]
theorem sub1 (v : Int32) : v - nI 1 = v + (-1) := by
  have e : nI 1 = 1 := rfl
  rw [e, Int32.sub_eq_add_neg]
theorem mput_ne {a b i j : Nat} {v : Int32} (h : i ≠ a) : mput M a b v i j = M i j := by
  unfold mput
  rw [if_neg fun e => h e.1]
theorem Sf.taped {v : Int32} (h : okx 4 v) : Sf M (mput M 66 9 v) := Sf.put h (by decide) (fun e => absurd e (by decide))
def QL (P : Int64 → mM → Prop) : Option Value → mHp → Prop := fun r D => ∃ v M', r = some (.long v) ∧ D = con M' ∧ P v M'
theorem tl_of {mid : Nat} {row : mRow} {as : List Value} {P : Int64 → mM → Prop} (hm : mMet mid = some row) (hb : as.length ≤ row.2.2.2.1) (h : mEv X (QL P) mid 0 (mEnv row.2.2.2.1 as) [] (con M)) : ∃ v M', mT X mid as (con M) (some (.long v)) (con M') ∧ P v M' := by
  obtain ⟨n, r1, D1, h1, v, M', rfl, rfl, hr⟩ := h
  exact ⟨v, M', ⟨row, n, hm, hb, h1⟩, hr⟩
theorem t209 {s : Int32} : mT X 209 [.ref 66, .int s] (con M) (some (.int (lk M s))) (con M) := by
  refine mT.of (row := _) rfl (Nat.le_of_ble_eq_true rfl) ?_
  have hm : mMet 209 = some _ := rfl
  refine x_iload_n hm rfl rfl ?_
  refine x_callS hm rfl rfl (t210) ?_
  refine x_if_ne hm rfl (t := 12) rfl (fun h1 => ?_) (fun h1 => ?_)
  · have hs := bI_ne0 h1
    obtain ⟨k, hk, e⟩ := le_k (by decide) hs
    subst e
    refine x_aload_n hm rfl rfl ?_
    refine x_getf hm rfl (gR rfl rfl) ?_
    refine x_iload_n hm rfl rfl ?_
    refine x_iald hm rfl (lI rfl (by omega) (by decide)) ?_
    refine x_if_ne hm rfl (t := 26) rfl (fun h2 => ?_) (fun h2 => ?_)
    · refine x_iconst hm rfl (v := nI 0) (by decide) ?_
      refine x_iret hm rfl rfl (by first | rfl | exact bI_nar | decide) ?_
      exact qt (congrArg Value.int (by unfold lk; first | rw [if_neg (bI_eq0.mp h1)] | rw [if_pos hs, jI_nat (by omega), if_pos h2] | rw [if_pos hs, jI_nat (by omega), if_neg h2]))
    · refine x_ldcI hm rfl (v := (-1000006 : Int32)) (by decide +kernel) ?_
      refine x_goto hm rfl (t := 27) rfl ?_
      refine x_iret hm rfl rfl (by first | rfl | exact bI_nar | decide) ?_
      exact qt (congrArg Value.int (by unfold lk; first | rw [if_neg (bI_eq0.mp h1)] | rw [if_pos hs, jI_nat (by omega), if_pos h2] | rw [if_pos hs, jI_nat (by omega), if_neg h2]))
  · refine x_ldcI hm rfl (v := (-1000001 : Int32)) (by decide +kernel) ?_
    refine x_goto hm rfl (t := 27) rfl ?_
    refine x_iret hm rfl rfl (by first | rfl | exact bI_nar | decide) ?_
    exact qt (congrArg Value.int (by unfold lk; first | rw [if_neg (bI_eq0.mp h1)] | rw [if_pos hs, jI_nat (by omega), if_pos h2] | rw [if_pos hs, jI_nat (by omega), if_neg h2]))
theorem l212 {s t : Nat} (hW : Wf M) (hs : s ≤ 3) (ht : t < 8) : ∀ (n k : Nat) (b : Int32) (x5 : Option Value) (M1 : mM), 41 - k < n → k ≤ 41 → (b = nI 0 ∨ b = nI 1) → Dy (cp M 67 69 118) M1 → mEv X (QI (fun v M' => (v = nI 0 ∨ v = nI 1) ∧ Sf M M')) 212 16 [some (.ref 66), some (.int (nI s)), some (.int (nI t)), some (.int b), some (.int (nI k)), x5] [] (con M1) := by
  have hm : mMet 212 = some _ := rfl
  intro n
  induction n with
  | zero =>
    intro k b x5 M1 hkn hkb h01 hD
    omega
  | succ n ih =>
    intro k b x5 M1 hkn hkb h01 hD
    have hW1 := hD.1.1 hW.aside
    obtain ⟨z, hz, hz2⟩ := ok5 (show okx 5 (M1 77 s) from hW1 77 s)
    refine x_iload hm rfl rfl ?_
    refine x_aload_n hm rfl rfl ?_
    refine x_getf hm rfl (gR rfl rfl) ?_
    refine x_iload_n hm rfl rfl ?_
    refine x_iald hm rfl (lI rfl (by omega) (by decide)) ?_
    rw [hz2]
    refine x_icmp_ge hm rfl (t := 78) rfl (fun h1 => ?_) (fun h1 => ?_)
    · refine x_aload_n hm rfl rfl ?_
      refine x_getf hm rfl (gR rfl rfl) ?_
      refine x_aload_n hm rfl rfl ?_
      refine x_getf hm rfl (gR rfl rfl) ?_
      refine x_callS hm rfl rfl (t174 rfl rfl (by decide)) ?_
      refine x_iload_n hm rfl rfl ?_
      refine x_iret hm rfl rfl (nar01 h01) ?_
      exact ⟨_, _, rfl, rfl, h01, Sf.trial hD⟩ --stop
    · have hk : k < z := Nat.lt_of_not_le fun h => h1 (nI_le h (by omega))
      refine x_iload_n hm rfl rfl ?_
      refine x_if_eq hm rfl (t := 78) rfl (fun h2 => ?_) (fun h2 => ?_)
      · refine x_aload_n hm rfl rfl ?_
        refine x_getf hm rfl (gR rfl rfl) ?_
        refine x_aload_n hm rfl rfl ?_
        refine x_getf hm rfl (gR rfl rfl) ?_
        refine x_callS hm rfl rfl (t174 rfl rfl (by decide)) ?_
        refine x_iload_n hm rfl rfl ?_
        refine x_iret hm rfl rfl (nar01 h01) ?_
        exact ⟨_, _, rfl, rfl, h01, Sf.trial hD⟩ --stop
      · refine x_aload_n hm rfl rfl ?_
        refine x_getf hm rfl (gR rfl rfl) ?_
        refine x_bipush hm rfl (v := nI 40) (by decide) ?_
        refine x_iload_n hm rfl rfl ?_
        refine x_imul hm rfl ?_
        rw [jI_mul]
        refine x_iload hm rfl rfl ?_
        refine x_iadd hm rfl ?_
        rw [jI_add]
        refine x_iald hm rfl (lI rfl (by omega) (by decide)) ?_
        refine x_istore hm rfl rfl ?_
        refine x_iload hm rfl rfl ?_
        refine x_iconst hm rfl (v := (-1 : Int32)) (by decide) ?_
        refine x_icmp_eq hm rfl (t := 62) rfl (fun h3 => ?_) (fun h3 => ?_)
        · refine x_iconst hm rfl (v := nI 1) (by decide) ?_
          refine x_goto hm rfl (t := 67) rfl ?_
          refine x_istore_n hm rfl rfl ?_
          refine x_aload_n hm rfl rfl ?_
          refine x_cVv hm rfl rfl (t165 hW1) (fun M4 r4 => ?_)
          refine x_iinc hm rfl rfl (v := nI 1) (by decide) rfl ?_
          rw [jI_add]
          refine x_goto hm rfl (t := 16) rfl ?_
          first
            | exact ih _ _ _ _ (by omega) (by omega) (by first | exact Or.inl rfl | exact Or.inr rfl) (hD.trans r4)
            | exact ih _ _ _ _ (by omega) (by omega) (by first | exact Or.inl rfl | exact Or.inr rfl) (hD.trans r2)
            | exact ih _ _ _ _ (by omega) (by omega) (by first | exact Or.inl rfl | exact Or.inr rfl) (hD.trans r3)
            | exact ih _ _ _ _ (by omega) (by omega) (by first | exact Or.inl rfl | exact Or.inr rfl) (hD.trans r5)
            | exact ih _ _ _ _ (by omega) (by omega) (by first | exact Or.inl rfl | exact Or.inr rfl) (hD.trans r6)
            | exact ih _ _ _ _ (by omega) (by omega) (by first | exact Or.inl rfl | exact Or.inr rfl) (hD.trans r7)
            | exact ih _ _ _ _ (by omega) (by omega) (by first | exact Or.inl rfl | exact Or.inr rfl) (hD.trans r8)
            | exact ih _ _ _ _ (by omega) (by omega) (by first | exact Or.inl rfl | exact Or.inr rfl) (hD.trans r9)
            | exact ih _ _ _ _ (by omega) (by omega) (by first | exact Or.inl rfl | exact Or.inr rfl) (hD.trans r10)
            | exact ih _ _ _ _ (by omega) (by omega) (by first | exact Or.inl rfl | exact Or.inr rfl) (hD.trans r11)
        · refine x_iload hm rfl rfl ?_
          refine x_aload_n hm rfl rfl ?_
          refine x_iload_n hm rfl rfl ?_
          refine x_iconst hm rfl (v := nI 2) (by decide) ?_
          refine x_callV hm rfl rfl (t143 (by omega) (by omega)) ?_
          refine x_icmp_ne hm rfl (t := 66) rfl (fun h5 => ?_) (fun h5 => ?_)
          · refine x_iconst hm rfl (v := nI 0) (by decide) ?_
            refine x_istore_n hm rfl rfl ?_
            refine x_aload_n hm rfl rfl ?_
            refine x_cVv hm rfl rfl (t165 hW1) (fun M6 r6 => ?_)
            refine x_iinc hm rfl rfl (v := nI 1) (by decide) rfl ?_
            rw [jI_add]
            refine x_goto hm rfl (t := 16) rfl ?_
            first
              | exact ih _ _ _ _ (by omega) (by omega) (by first | exact Or.inl rfl | exact Or.inr rfl) (hD.trans r6)
              | exact ih _ _ _ _ (by omega) (by omega) (by first | exact Or.inl rfl | exact Or.inr rfl) (hD.trans r2)
              | exact ih _ _ _ _ (by omega) (by omega) (by first | exact Or.inl rfl | exact Or.inr rfl) (hD.trans r3)
              | exact ih _ _ _ _ (by omega) (by omega) (by first | exact Or.inl rfl | exact Or.inr rfl) (hD.trans r4)
              | exact ih _ _ _ _ (by omega) (by omega) (by first | exact Or.inl rfl | exact Or.inr rfl) (hD.trans r5)
              | exact ih _ _ _ _ (by omega) (by omega) (by first | exact Or.inl rfl | exact Or.inr rfl) (hD.trans r7)
              | exact ih _ _ _ _ (by omega) (by omega) (by first | exact Or.inl rfl | exact Or.inr rfl) (hD.trans r8)
              | exact ih _ _ _ _ (by omega) (by omega) (by first | exact Or.inl rfl | exact Or.inr rfl) (hD.trans r9)
              | exact ih _ _ _ _ (by omega) (by omega) (by first | exact Or.inl rfl | exact Or.inr rfl) (hD.trans r10)
              | exact ih _ _ _ _ (by omega) (by omega) (by first | exact Or.inl rfl | exact Or.inr rfl) (hD.trans r11)
          · refine x_iconst hm rfl (v := nI 1) (by decide) ?_
            refine x_goto hm rfl (t := 67) rfl ?_
            refine x_istore_n hm rfl rfl ?_
            refine x_aload_n hm rfl rfl ?_
            refine x_cVv hm rfl rfl (t165 hW1) (fun M7 r7 => ?_)
            refine x_iinc hm rfl rfl (v := nI 1) (by decide) rfl ?_
            rw [jI_add]
            refine x_goto hm rfl (t := 16) rfl ?_
            first
              | exact ih _ _ _ _ (by omega) (by omega) (by first | exact Or.inl rfl | exact Or.inr rfl) (hD.trans r7)
              | exact ih _ _ _ _ (by omega) (by omega) (by first | exact Or.inl rfl | exact Or.inr rfl) (hD.trans r2)
              | exact ih _ _ _ _ (by omega) (by omega) (by first | exact Or.inl rfl | exact Or.inr rfl) (hD.trans r3)
              | exact ih _ _ _ _ (by omega) (by omega) (by first | exact Or.inl rfl | exact Or.inr rfl) (hD.trans r4)
              | exact ih _ _ _ _ (by omega) (by omega) (by first | exact Or.inl rfl | exact Or.inr rfl) (hD.trans r5)
              | exact ih _ _ _ _ (by omega) (by omega) (by first | exact Or.inl rfl | exact Or.inr rfl) (hD.trans r6)
              | exact ih _ _ _ _ (by omega) (by omega) (by first | exact Or.inl rfl | exact Or.inr rfl) (hD.trans r8)
              | exact ih _ _ _ _ (by omega) (by omega) (by first | exact Or.inl rfl | exact Or.inr rfl) (hD.trans r9)
              | exact ih _ _ _ _ (by omega) (by omega) (by first | exact Or.inl rfl | exact Or.inr rfl) (hD.trans r10)
              | exact ih _ _ _ _ (by omega) (by omega) (by first | exact Or.inl rfl | exact Or.inr rfl) (hD.trans r11)
theorem t212 {s t : Nat} (hW : Wf M) (hs : s ≤ 3) (ht : t < 8) : ∃ v M', mT X 212 [.ref 66, .int (nI s), .int (nI t)] (con M) (some (.int v)) (con M') ∧ (v = nI 0 ∨ v = nI 1) ∧ Sf M M' := by
  refine ti_of (row := _) rfl (Nat.le_of_ble_eq_true rfl) ?_
  have hm : mMet 212 = some _ := rfl
  refine x_aload_n hm rfl rfl ?_
  refine x_getf hm rfl (gR rfl rfl) ?_
  refine x_aload_n hm rfl rfl ?_
  refine x_getf hm rfl (gR rfl rfl) ?_
  refine x_callS hm rfl rfl (t174 rfl rfl (by decide)) ?_
  refine x_iconst hm rfl (v := nI 1) (by decide) ?_
  refine x_istore_n hm rfl rfl ?_
  refine x_iconst hm rfl (v := nI 0) (by decide) ?_
  refine x_istore hm rfl rfl ?_
  exact l212 hW hs ht _ 0 _ _ _ (Nat.lt_succ_self _) (Nat.zero_le _) (Or.inr rfl) Dy.rf
theorem l211 {s p t : Nat} {i : Nat} {c : Int32} (hW : Wf M) (hs : s ≤ 3) (ht : t < 8) (hp : p < 8) (hi : i < 7) : ∀ (n k : Nat) (b : Int32) (M1 : mM), 10 - k < n → k ≤ 10 → Sf M M1 → mEv X (QI (fun _ M' => Sf M M')) 211 29 [some (.ref 66), some (.int (nI s)), some (.int (nI p)), some (.int (nI t)), some (.int (nI (62 + 7 * p + i))), some (.int c), some (.int b), some (.int (nI k))] [] (con M1) := by
  have hm : mMet 211 = some _ := rfl
  intro n
  induction n with
  | zero =>
    intro k b M1 hkn hkb hS
    omega
  | succ n ih =>
    intro k b M1 hkn hkb hS
    refine x_iload hm rfl rfl ?_
    refine x_bipush hm rfl (v := nI 9) (by decide) ?_
    refine x_icmp_gt hm rfl (t := 73) rfl (fun h1 => ?_) (fun h1 => ?_)
    · refine x_aload_n hm rfl rfl ?_
      refine x_getf hm rfl (gR rfl rfl) ?_
      refine x_iload hm rfl rfl ?_
      refine x_iload hm rfl rfl ?_
      refine x_iast hm rfl (sI rfl (by omega) (by decide)) ?_
      refine x_iload hm rfl rfl ?_
      refine x_iret hm rfl rfl (by first | rfl | exact bI_nar | decide) ?_
      exact ⟨_, _, rfl, rfl, hS.trans (Sf.person hp hi)⟩
    · have hk : k ≤ 9 := Nat.le_of_not_lt fun h => h1 (nI_lt h (by omega))
      refine x_aload_n hm rfl rfl ?_
      refine x_getf hm rfl (gR rfl rfl) ?_
      refine x_iload hm rfl rfl ?_
      refine x_iload hm rfl rfl ?_
      refine x_iast hm rfl (sI rfl (by omega) (by decide)) ?_
      have hS2 := hS.trans (Sf.person (M := M1) (v := nI k) hp hi)
      refine x_iload hm rfl rfl ?_
      refine x_aload_n hm rfl rfl ?_
      refine x_iload_n hm rfl rfl ?_
      refine x_iload_n hm rfl rfl ?_
      refine x_cVi hm rfl rfl (t212 (hS2.1 hW) hs ht) (fun v2 M2 r2 => ?_)
      refine x_if_eq hm rfl (t := 63) rfl (fun h3 => ?_) (fun h3 => ?_)
      · refine x_iconst hm rfl (v := nI 0) (by decide) ?_
        refine x_ior hm rfl ?_
        refine x_istore hm rfl rfl ?_
        refine x_iinc hm rfl rfl (v := nI 1) (by decide) rfl ?_
        rw [jI_add]
        refine x_goto hm rfl (t := 29) rfl ?_
        exact ih _ _ _ (by omega) (by omega) (hS2.trans r2.2)
      · refine x_iconst hm rfl (v := nI 1) (by decide) ?_
        refine x_iload hm rfl rfl ?_
        refine x_ishl hm rfl ?_
        refine x_goto hm rfl (t := 64) rfl ?_
        refine x_ior hm rfl ?_
        refine x_istore hm rfl rfl ?_
        refine x_iinc hm rfl rfl (v := nI 1) (by decide) rfl ?_
        rw [jI_add]
        refine x_goto hm rfl (t := 29) rfl ?_
        exact ih _ _ _ (by omega) (by omega) (hS2.trans r2.2)
theorem t211 {s p t : Nat} (hW : Wf M) (hs : s ≤ 3) (ht : t < 8) (hp : p < 8) : ∃ v M', mT X 211 [.ref 66, .int (nI s), .int (nI p), .int (nI t)] (con M) (some (.int v)) (con M') ∧ Sf M M' := by
  refine ti_of (row := _) rfl (Nat.le_of_ble_eq_true rfl) ?_
  have hm : mMet 211 = some _ := rfl
  obtain ⟨w, hw3, hw⟩ := hW.sort ht
  refine x_iload_n hm rfl rfl ?_
  refine x_iconst hm rfl (v := nI 3) (by decide) ?_
  refine x_aload_n hm rfl rfl ?_
  refine x_iload_n hm rfl rfl ?_
  refine x_iconst hm rfl (v := nI 0) (by decide) ?_
  refine x_callV hm rfl rfl (t143 (by omega) (by omega)) ?_
  rw [hw]
  refine x_iadd hm rfl ?_
  rw [jI_add]
  refine x_callS hm rfl rfl (t142) ?_
  refine x_istore hm rfl rfl ?_
  refine x_aload_n hm rfl rfl ?_
  refine x_getf hm rfl (gR rfl rfl) ?_
  refine x_iload hm rfl rfl ?_
  refine x_iald hm rfl (lI rfl (by omega) (by decide)) ?_
  refine x_istore hm rfl rfl ?_
  refine x_iconst hm rfl (v := nI 0) (by decide) ?_
  refine x_istore hm rfl rfl ?_
  refine x_iconst hm rfl (v := nI 0) (by decide) ?_
  refine x_istore hm rfl rfl ?_
  exact l211 hW hs ht hp (by omega) _ 0 _ _ (Nat.lt_succ_self _) (Nat.zero_le _) Sf.rf
theorem t208 {a1 a2 a3 : Int32} (hI : Inv M) : ∃ v M', mT X 208 [.ref 66, .int a1, .int a2, .int a3] (con M) (some (.int v)) (con M') ∧ Inv M' := by
  refine ti_of (row := _) rfl (Nat.le_of_ble_eq_true rfl) ?_
  have hm : mMet 208 = some _ := rfl
  obtain ⟨np, hp8, hnp⟩ := hI.1.np
  obtain ⟨nt, hn8, hnt⟩ := hI.1.nt
  refine x_aload_n hm rfl rfl ?_
  refine x_iload_n hm rfl rfl ?_
  refine x_callV hm rfl rfl (t209) ?_
  refine x_if_eq hm rfl (t := 18) rfl (fun h1 => ?_) (fun h1 => ?_)
  · obtain ⟨s, hs, rfl⟩ := lk_k h1
    refine x_aload_n hm rfl rfl ?_
    refine x_iload_n hm rfl rfl ?_
    refine x_callV hm rfl rfl (t153) ?_
    refine x_if_eq hm rfl (t := 47) rfl (fun h2 => ?_) (fun h2 => ?_)
    · refine x_aload_n hm rfl rfl ?_
      refine x_ldcI hm rfl (v := (-1000001 : Int32)) (by decide +kernel) ?_
      refine x_cVi hm rfl rfl (t135 (by decide +kernel)) (fun v3 M3 r3 => ?_)
      refine x_iret hm rfl rfl (by first | rfl | exact bI_nar | decide) ?_
      exact ⟨_, _, rfl, rfl, by first | exact hI | exact (r1.2.inv hI) | exact (r2.2.inv hI) | exact (r3.2.inv hI) | exact (r4.2.inv hI) | exact (r5.2.inv hI) | exact (r6.2.inv hI) | exact (r7.2.inv hI) | exact (r8.2.inv hI) | exact (r1.inv hI) | exact (r2.inv hI) | exact (r3.inv hI) | exact (r4.inv hI) | exact (r5.inv hI) | exact (r6.inv hI) | exact (r7.inv hI) | exact (r8.inv hI)⟩
    · obtain ⟨p, hp, rfl⟩ := in_k hnp (by omega) (bI_ne0 h2)
      refine x_aload_n hm rfl rfl ?_
      refine x_iload_n hm rfl rfl ?_
      refine x_callV hm rfl rfl (t139) ?_
      refine x_if_eq hm rfl (t := 47) rfl (fun h4 => ?_) (fun h4 => ?_)
      · refine x_aload_n hm rfl rfl ?_
        refine x_ldcI hm rfl (v := (-1000001 : Int32)) (by decide +kernel) ?_
        refine x_cVi hm rfl rfl (t135 (by decide +kernel)) (fun v5 M5 r5 => ?_)
        refine x_iret hm rfl rfl (by first | rfl | exact bI_nar | decide) ?_
        exact ⟨_, _, rfl, rfl, by first | exact hI | exact (r1.2.inv hI) | exact (r2.2.inv hI) | exact (r3.2.inv hI) | exact (r4.2.inv hI) | exact (r5.2.inv hI) | exact (r6.2.inv hI) | exact (r7.2.inv hI) | exact (r8.2.inv hI) | exact (r1.inv hI) | exact (r2.inv hI) | exact (r3.inv hI) | exact (r4.inv hI) | exact (r5.inv hI) | exact (r6.inv hI) | exact (r7.inv hI) | exact (r8.inv hI)⟩
      · obtain ⟨t, ht, rfl⟩ := in_k hnt (by omega) (bI_ne0 h4)
        refine x_aload_n hm rfl rfl ?_
        refine x_iload_n hm rfl rfl ?_
        refine x_iload_n hm rfl rfl ?_
        refine x_iload_n hm rfl rfl ?_
        refine x_cVi hm rfl rfl (t211 hI.1 (by omega) (by omega) (by omega)) (fun v6 M6 r6 => ?_)
        refine x_cSe hm rfl rfl (t168) (fun v7 r7 => ?_)
        refine x_goto hm rfl (t := 53) rfl ?_
        refine x_iret hm rfl rfl (by first | rfl | exact bI_nar | decide) ?_
        exact ⟨_, _, rfl, rfl, by first | exact hI | exact (r1.2.inv hI) | exact (r2.2.inv hI) | exact (r3.2.inv hI) | exact (r4.2.inv hI) | exact (r5.2.inv hI) | exact (r6.2.inv hI) | exact (r7.2.inv hI) | exact (r8.2.inv hI) | exact (r1.inv hI) | exact (r2.inv hI) | exact (r3.inv hI) | exact (r4.inv hI) | exact (r5.inv hI) | exact (r6.inv hI) | exact (r7.inv hI) | exact (r8.inv hI)⟩
  · refine x_aload_n hm rfl rfl ?_
    refine x_aload_n hm rfl rfl ?_
    refine x_iload_n hm rfl rfl ?_
    refine x_callV hm rfl rfl (t209) ?_
    refine x_cVi hm rfl rfl (t135 (lk_fd h1)) (fun v8 M8 r8 => ?_)
    refine x_iret hm rfl rfl (by first | rfl | exact bI_nar | decide) ?_
    exact ⟨_, _, rfl, rfl, by first | exact hI | exact (r1.2.inv hI) | exact (r2.2.inv hI) | exact (r3.2.inv hI) | exact (r4.2.inv hI) | exact (r5.2.inv hI) | exact (r6.2.inv hI) | exact (r7.2.inv hI) | exact (r8.2.inv hI) | exact (r1.inv hI) | exact (r2.inv hI) | exact (r3.inv hI) | exact (r4.inv hI) | exact (r5.inv hI) | exact (r6.inv hI) | exact (r7.inv hI) | exact (r8.inv hI)⟩
theorem l213 {s p t : Nat} {c : Int32} {M0 : mM} (hI : Inv M0) (hS : Sf M0 M) : ∀ (n k : Nat), 11 - k < n → k ≤ 10 → mEv X (QI (fun _ M' => Inv M')) 213 53 [some (.ref 66), some (.int (nI s)), some (.int (nI p)), some (.int (nI t)), some (.int c), some (.int (nI k))] [] (con M) := by
  have hm : mMet 213 = some _ := rfl
  intro n
  induction n with
  | zero =>
    intro k hkn hkb
    omega
  | succ n ih =>
    intro k hkn hkb
    refine x_iload hm rfl rfl ?_
    refine x_bipush hm rfl (v := nI 9) (by decide) ?_
    refine x_icmp_gt hm rfl (t := 76) rfl (fun h1 => ?_) (fun h1 => ?_)
    · refine x_iload hm rfl rfl ?_
      refine x_bipush hm rfl (v := nI 9) (by decide) ?_
      refine x_icmp_le hm rfl (t := 92) rfl (fun h2 => ?_) (fun h2 => ?_)
      · refine x_iload hm rfl rfl ?_
        refine x_iret hm rfl rfl (by first | rfl | exact bI_nar | decide) ?_
        exact ⟨_, _, rfl, rfl, by first | exact hS.inv hI | exact (hS.trans r3.2.sf).inv hI | exact (hS.trans r4.2.sf).inv hI | exact (hS.trans r5.2.sf).inv hI | exact (hS.trans r6.2.sf).inv hI | exact (hS.trans r7.2.sf).inv hI | exact (hS.trans r8.2.sf).inv hI | exact (hS.trans r2.2.sf).inv hI⟩
      · refine x_aload_n hm rfl rfl ?_
        refine x_ldcI hm rfl (v := (-1000004 : Int32)) (by decide +kernel) ?_
        refine x_cVi hm rfl rfl (t135 (by decide +kernel)) (fun v3 M3 r3 => ?_)
        refine x_goto hm rfl (t := 94) rfl ?_
        refine x_iret hm rfl rfl (by first | rfl | exact bI_nar | decide) ?_
        exact ⟨_, _, rfl, rfl, by first | exact hS.inv hI | exact (hS.trans r3.2.sf).inv hI | exact (hS.trans r4.2.sf).inv hI | exact (hS.trans r5.2.sf).inv hI | exact (hS.trans r6.2.sf).inv hI | exact (hS.trans r7.2.sf).inv hI | exact (hS.trans r8.2.sf).inv hI | exact (hS.trans r2.2.sf).inv hI⟩
    · have hk : k ≤ 9 := Nat.le_of_not_lt fun h => h1 (nI_lt h (by omega))
      refine x_iload hm rfl rfl ?_
      refine x_iload hm rfl rfl ?_
      refine x_cSe hm rfl rfl (t191) (fun v4 r4 => ?_)
      refine x_if_ne hm rfl (t := 76) rfl (fun h5 => ?_) (fun h5 => ?_)
      · refine x_iload hm rfl rfl ?_
        refine x_bipush hm rfl (v := nI 9) (by decide) ?_
        refine x_icmp_le hm rfl (t := 92) rfl (fun h6 => ?_) (fun h6 => ?_)
        · refine x_iload hm rfl rfl ?_
          refine x_iret hm rfl rfl (by first | rfl | exact bI_nar | decide) ?_
          exact ⟨_, _, rfl, rfl, by first | exact hS.inv hI | exact (hS.trans r3.2.sf).inv hI | exact (hS.trans r4.2.sf).inv hI | exact (hS.trans r5.2.sf).inv hI | exact (hS.trans r6.2.sf).inv hI | exact (hS.trans r7.2.sf).inv hI | exact (hS.trans r8.2.sf).inv hI | exact (hS.trans r2.2.sf).inv hI⟩
        · refine x_aload_n hm rfl rfl ?_
          refine x_ldcI hm rfl (v := (-1000004 : Int32)) (by decide +kernel) ?_
          refine x_cVi hm rfl rfl (t135 (by decide +kernel)) (fun v7 M7 r7 => ?_)
          refine x_goto hm rfl (t := 94) rfl ?_
          refine x_iret hm rfl rfl (by first | rfl | exact bI_nar | decide) ?_
          exact ⟨_, _, rfl, rfl, by first | exact hS.inv hI | exact (hS.trans r3.2.sf).inv hI | exact (hS.trans r4.2.sf).inv hI | exact (hS.trans r5.2.sf).inv hI | exact (hS.trans r6.2.sf).inv hI | exact (hS.trans r7.2.sf).inv hI | exact (hS.trans r8.2.sf).inv hI | exact (hS.trans r2.2.sf).inv hI⟩
      · refine x_iinc hm rfl rfl (v := nI 1) (by decide) rfl ?_
        rw [jI_add]
        refine x_goto hm rfl (t := 53) rfl ?_
        exact ih _ (by omega) (by omega)
theorem t213 {a1 a2 a3 : Int32} (hI : Inv M) : ∃ v M', mT X 213 [.ref 66, .int a1, .int a2, .int a3] (con M) (some (.int v)) (con M') ∧ Inv M' := by
  refine ti_of (row := _) rfl (Nat.le_of_ble_eq_true rfl) ?_
  have hm : mMet 213 = some _ := rfl
  obtain ⟨np, hp8, hnp⟩ := hI.1.np
  obtain ⟨nt, hn8, hnt⟩ := hI.1.nt
  refine x_aload_n hm rfl rfl ?_
  refine x_iload_n hm rfl rfl ?_
  refine x_callV hm rfl rfl (t209) ?_
  refine x_if_eq hm rfl (t := 18) rfl (fun h1 => ?_) (fun h1 => ?_)
  · obtain ⟨s, hs, rfl⟩ := lk_k h1
    refine x_aload_n hm rfl rfl ?_
    refine x_iload_n hm rfl rfl ?_
    refine x_callV hm rfl rfl (t153) ?_
    refine x_if_eq hm rfl (t := 34) rfl (fun h2 => ?_) (fun h2 => ?_)
    · refine x_aload_n hm rfl rfl ?_
      refine x_ldcI hm rfl (v := (-1000001 : Int32)) (by decide +kernel) ?_
      refine x_cVi hm rfl rfl (t135 (by decide +kernel)) (fun v3 M3 r3 => ?_)
      refine x_iret hm rfl rfl (by first | rfl | exact bI_nar | decide) ?_
      exact ⟨_, _, rfl, rfl, by first | exact hI | exact (r1.2.inv hI) | exact (r2.2.inv hI) | exact (r3.2.inv hI) | exact (r4.2.inv hI) | exact (r5.2.inv hI) | exact (r6.2.inv hI) | exact (r7.2.inv hI) | exact (r8.2.inv hI) | exact (r1.inv hI) | exact (r2.inv hI) | exact (r3.inv hI) | exact (r4.inv hI) | exact (r5.inv hI) | exact (r6.inv hI) | exact (r7.inv hI) | exact (r8.inv hI)⟩
    · obtain ⟨p, hp, rfl⟩ := in_k hnp (by omega) (bI_ne0 h2)
      refine x_aload_n hm rfl rfl ?_
      refine x_iload_n hm rfl rfl ?_
      refine x_callV hm rfl rfl (t139) ?_
      refine x_if_ne hm rfl (t := 41) rfl (fun h4 => ?_) (fun h4 => ?_)
      · obtain ⟨t, ht, rfl⟩ := in_k hnt (by omega) (bI_ne0 h4)
        refine x_aload_n hm rfl rfl ?_
        refine x_iload_n hm rfl rfl ?_
        refine x_iload_n hm rfl rfl ?_
        refine x_iload_n hm rfl rfl ?_
        refine x_cVi hm rfl rfl (t211 hI.1 (by omega) (by omega) (by omega)) (fun v5 M5 r5 => ?_)
        refine x_istore hm rfl rfl ?_
        refine x_iconst hm rfl (v := nI 0) (by decide) ?_
        refine x_istore hm rfl rfl ?_
        first
          | exact l213 hI r5 _ 0 (Nat.lt_succ_self _) (Nat.zero_le _)
          | exact l213 hI r1 _ 0 (Nat.lt_succ_self _) (Nat.zero_le _)
          | exact l213 hI r2 _ 0 (Nat.lt_succ_self _) (Nat.zero_le _)
          | exact l213 hI r3 _ 0 (Nat.lt_succ_self _) (Nat.zero_le _)
          | exact l213 hI r4 _ 0 (Nat.lt_succ_self _) (Nat.zero_le _)
          | exact l213 hI r6 _ 0 (Nat.lt_succ_self _) (Nat.zero_le _)
          | exact l213 hI r7 _ 0 (Nat.lt_succ_self _) (Nat.zero_le _)
          | exact l213 hI r8 _ 0 (Nat.lt_succ_self _) (Nat.zero_le _)
      · refine x_aload_n hm rfl rfl ?_
        refine x_ldcI hm rfl (v := (-1000001 : Int32)) (by decide +kernel) ?_
        refine x_cVi hm rfl rfl (t135 (by decide +kernel)) (fun v6 M6 r6 => ?_)
        refine x_iret hm rfl rfl (by first | rfl | exact bI_nar | decide) ?_
        exact ⟨_, _, rfl, rfl, by first | exact hI | exact (r1.2.inv hI) | exact (r2.2.inv hI) | exact (r3.2.inv hI) | exact (r4.2.inv hI) | exact (r5.2.inv hI) | exact (r6.2.inv hI) | exact (r7.2.inv hI) | exact (r8.2.inv hI) | exact (r1.inv hI) | exact (r2.inv hI) | exact (r3.inv hI) | exact (r4.inv hI) | exact (r5.inv hI) | exact (r6.inv hI) | exact (r7.inv hI) | exact (r8.inv hI)⟩
  · refine x_aload_n hm rfl rfl ?_
    refine x_aload_n hm rfl rfl ?_
    refine x_iload_n hm rfl rfl ?_
    refine x_callV hm rfl rfl (t209) ?_
    refine x_cVi hm rfl rfl (t135 (lk_fd h1)) (fun v7 M7 r7 => ?_)
    refine x_iret hm rfl rfl (by first | rfl | exact bI_nar | decide) ?_
    exact ⟨_, _, rfl, rfl, by first | exact hI | exact (r1.2.inv hI) | exact (r2.2.inv hI) | exact (r3.2.inv hI) | exact (r4.2.inv hI) | exact (r5.2.inv hI) | exact (r6.2.inv hI) | exact (r7.2.inv hI) | exact (r8.2.inv hI) | exact (r1.inv hI) | exact (r2.inv hI) | exact (r3.inv hI) | exact (r4.inv hI) | exact (r5.inv hI) | exact (r6.inv hI) | exact (r7.inv hI) | exact (r8.inv hI)⟩
theorem t215  : ∃ v M', mT X 215 [.ref 66] (con M) (some (.int v)) (con M') ∧ Dy M M' := by
  refine ti_of (row := _) rfl (Nat.le_of_ble_eq_true rfl) ?_
  have hm : mMet 215 = some _ := rfl
  refine x_aload_n hm rfl rfl ?_
  refine x_getf hm rfl (gR rfl rfl) ?_
  refine x_iconst hm rfl (v := nI 3) (by decide) ?_
  refine x_aload_n hm rfl rfl ?_
  refine x_getf hm rfl (gR rfl rfl) ?_
  refine x_iconst hm rfl (v := nI 3) (by decide) ?_
  refine x_iald hm rfl (lI rfl (by omega) (by decide)) ?_
  refine x_ldcI hm rfl (v := nI 1103515245) (by decide +kernel) ?_
  refine x_imul hm rfl ?_
  refine x_sipush hm rfl (v := nI 12345) (by decide) ?_
  refine x_iadd hm rfl ?_
  refine x_iast hm rfl (sI rfl (by omega) (by decide)) ?_
  refine x_aload_n hm rfl rfl ?_
  refine x_getf hm rfl (gR rfl rfl) ?_
  refine x_iconst hm rfl (v := nI 3) (by decide) ?_
  refine x_iald hm rfl (lI rfl (by omega) (by decide)) ?_
  refine x_bipush hm rfl (v := nI 8) (by decide) ?_
  refine x_iushr hm rfl ?_
  refine x_iret hm rfl rfl (by first | rfl | exact bI_nar | decide) ?_
  exact ⟨_, _, rfl, rfl, Dy.put Sf.draw (by decide)⟩
theorem l214b {a nb j : Nat} {c : Int32} (hW : Wf M) (hnb : M 67 2 = nI nb) (h8 : nb ≤ 8) (hout : ∀ (M1 : mM) (x : Option Value), Dy M M1 → mEv X (QI (fun _ M' => Dy M M')) 214 44 [some (.ref 66), some (.int (nI a)), some (.int c), some (.int (nI (j + 1))), x] [] (con M1)) : ∀ (n k : Nat) (M1 : mM), nb - k < n → k ≤ nb → Dy M M1 → mEv X (QI (fun _ M' => Dy M M')) 214 52 [some (.ref 66), some (.int (nI a)), some (.int c), some (.int (nI j)), some (.int (nI k))] [] (con M1) := by
  have hm : mMet 214 = some _ := rfl
  intro n
  induction n with
  | zero =>
    intro k M1 hkn hkb hD
    omega
  | succ n ih =>
    intro k M1 hkn hkb hD
    have hW1 := hD.1.1 hW
    have hn1 : M1 67 2 = nI nb := hD.1.2.2.1.trans hnb
    refine x_iload hm rfl rfl ?_
    refine x_aload_n hm rfl rfl ?_
    refine x_getf hm rfl (gR rfl rfl) ?_
    refine x_iconst hm rfl (v := nI 2) (by decide) ?_
    refine x_iald hm rfl (lI rfl (by omega) (by decide)) ?_
    rw [hn1]
    refine x_icmp_ge hm rfl (t := 87) rfl (fun h1 => ?_) (fun h1 => ?_)
    · refine x_aload_n hm rfl rfl ?_
      refine x_cVv hm rfl rfl (t165 hW1) (fun M2 r2 => ?_)
      refine x_iinc hm rfl rfl (v := nI 1) (by decide) rfl ?_
      rw [jI_add]
      refine x_goto hm rfl (t := 44) rfl ?_
      first | exact hout _ _ (hD.trans r2) | exact hout _ _ (hD.trans r3)
    · have hk : k < nb := Nat.lt_of_not_le fun h => h1 (nI_le h (by omega))
      refine x_aload_n hm rfl rfl ?_
      refine x_getf hm rfl (gR rfl rfl) ?_
      refine x_iload hm rfl rfl ?_
      refine x_iconst hm rfl (v := nI 1) (by decide) ?_
      refine x_callS hm rfl rfl (t142) ?_
      refine x_aload_n hm rfl rfl ?_
      refine x_cVi hm rfl rfl (t215) (fun v3 M3 r3 => ?_)
      refine x_bipush hm rfl (v := nI 16) (by decide) ?_
      refine x_irem hm rfl (by decide) ?_
      refine x_iast hm rfl (sI rfl (by omega) (by decide)) ?_
      refine x_iinc hm rfl rfl (v := nI 1) (by decide) rfl ?_
      rw [jI_add]
      refine x_goto hm rfl (t := 52) rfl ?_
      first | exact ih _ _ (by omega) (by omega) ((hD.trans r2).trans (Dy.put (Sf.person (by omega) (by decide)) (by decide))) | exact ih _ _ (by omega) (by omega) ((hD.trans r3).trans (Dy.put (Sf.person (by omega) (by decide)) (by decide)))
theorem l214a {a nb : Nat} {c : Int32} (hW : Wf M) (ha : a ≤ 1000) (hnb : M 67 2 = nI nb) (h8 : nb ≤ 8) : ∀ (n k : Nat) (x : Option Value) (M1 : mM), a - k < n → k ≤ a → Dy M M1 → mEv X (QI (fun _ M' => Dy M M')) 214 44 [some (.ref 66), some (.int (nI a)), some (.int c), some (.int (nI k)), x] [] (con M1) := by
  have hm : mMet 214 = some _ := rfl
  intro n
  induction n with
  | zero =>
    intro k x M1 hkn hkb hD
    omega
  | succ n ih =>
    intro k x M1 hkn hkb hD
    have hW1 := hD.1.1 hW
    refine x_iload_n hm rfl rfl ?_
    refine x_iload_n hm rfl rfl ?_
    refine x_icmp_ge hm rfl (t := 97) rfl (fun h1 => ?_) (fun h1 => ?_)
    · refine x_iload_n hm rfl rfl ?_
      refine x_aload_n hm rfl rfl ?_
      refine x_cVe hm rfl rfl (t170 hW1) (fun v2 r2 => ?_)
      refine x_isub hm rfl ?_
      refine x_iret hm rfl rfl (by first | rfl | exact bI_nar | decide) ?_
      exact ⟨_, _, rfl, rfl, hD⟩
    · have hk : k < a := Nat.lt_of_not_le fun h => h1 (nI_le h (by omega))
      refine x_iconst hm rfl (v := nI 0) (by decide) ?_
      refine x_istore hm rfl rfl ?_
      exact l214b hW hnb h8 (fun M2 x g => ih (k + 1) x M2 (by omega) (by omega) g) _ 0 _ (Nat.lt_succ_self _) (Nat.zero_le _) hD
theorem ev_invD {m pc : Nat} {L : mLoc} {st : List Value} {D : mHp} (hI : Inv M) (h : mEv X (QI (fun _ M' => Dy M M')) m pc L st D) : mEv X (QI (fun _ M' => Inv M')) m pc L st D := ev_mono h (fun r D' ⟨v, M2, g1, g2, g3⟩ => ⟨v, M2, g1, g2, g3.1.inv hI⟩)
theorem t214 {a1 : Int32} (hI : Inv M) : ∃ v M', mT X 214 [.ref 66, .int a1] (con M) (some (.int v)) (con M') ∧ Inv M' := by
  refine ti_of (row := _) rfl (Nat.le_of_ble_eq_true rfl) ?_
  have hm : mMet 214 = some _ := rfl
  obtain ⟨np, hp8, hnp⟩ := hI.1.np
  refine x_iload_n hm rfl rfl ?_
  refine x_iconst hm rfl (v := nI 1) (by decide) ?_
  refine x_bipush hm rfl (v := nI 20) (by decide) ?_
  refine x_callS hm rfl rfl (t133) ?_
  refine x_if_ne hm rfl (t := 17) rfl (fun h1 => ?_) (fun h1 => ?_)
  · obtain ⟨a, ha, -, rfl⟩ := le1_k (by omega) (bI_ne0 h1)
    refine x_aload_n hm rfl rfl ?_
    refine x_getf hm rfl (gR rfl rfl) ?_
    refine x_iconst hm rfl (v := nI 0) (by decide) ?_
    refine x_iald hm rfl (lI rfl (by omega) (by decide)) ?_
    refine x_iload_n hm rfl rfl ?_
    refine x_iadd hm rfl ?_
    refine x_ldcI hm rfl (v := nI 99999) (by decide +kernel) ?_
    refine x_icmp_le hm rfl (t := 37) rfl (fun h2 => ?_) (fun h2 => ?_)
    · refine x_aload_n hm rfl rfl ?_
      refine x_cVe hm rfl rfl (t170 hI.1) (fun v3 r3 => ?_)
      refine x_istore_n hm rfl rfl ?_
      refine x_iconst hm rfl (v := nI 0) (by decide) ?_
      refine x_istore_n hm rfl rfl ?_
      exact ev_invD hI (l214a hI.1 (by omega) hnp hp8 _ 0 _ _ (Nat.lt_succ_self _) (Nat.zero_le _) Dy.rf)
    · refine x_aload_n hm rfl rfl ?_
      refine x_ldcI hm rfl (v := (-1000005 : Int32)) (by decide +kernel) ?_
      refine x_cVi hm rfl rfl (t135 (by decide +kernel)) (fun v4 M4 r4 => ?_)
      refine x_iret hm rfl rfl (by first | rfl | exact bI_nar | decide) ?_
      exact ⟨_, _, rfl, rfl, by first | exact hI | exact (r1.2.inv hI) | exact (r2.2.inv hI) | exact (r3.2.inv hI) | exact (r4.2.inv hI) | exact (r5.2.inv hI) | exact (r1.inv hI) | exact (r2.inv hI) | exact (r3.inv hI) | exact (r4.inv hI) | exact (r5.inv hI)⟩
  · refine x_aload_n hm rfl rfl ?_
    refine x_ldcI hm rfl (v := (-1000001 : Int32)) (by decide +kernel) ?_
    refine x_cVi hm rfl rfl (t135 (by decide +kernel)) (fun v5 M5 r5 => ?_)
    refine x_iret hm rfl rfl (by first | rfl | exact bI_nar | decide) ?_
    exact ⟨_, _, rfl, rfl, by first | exact hI | exact (r1.2.inv hI) | exact (r2.2.inv hI) | exact (r3.2.inv hI) | exact (r4.2.inv hI) | exact (r5.2.inv hI) | exact (r1.inv hI) | exact (r2.inv hI) | exact (r3.inv hI) | exact (r4.inv hI) | exact (r5.inv hI)⟩
theorem l216c {a : Nat} {w x : Int32} {y z : Int32} (hI : Inv M) (ha : a ≤ 1000) : ∀ (n k : Nat) (g : Int64), a - k < n → k ≤ a → mEv X (QL (fun _ M' => Iq M M')) 216 109 [some (.ref 66), some (.int (nI a)), some (.int w), some (.int x), some (.int y), some (.int z), some (.long g), none, some (.int (nI k))] [] (con M) := by
  have hm : mMet 216 = some _ := rfl
  intro n
  induction n with
  | zero =>
    intro k g hkn hkb
    omega
  | succ n ih =>
    intro k g hkn hkb
    refine x_iload hm rfl rfl ?_
    refine x_iload_n hm rfl rfl ?_
    refine x_icmp_ge hm rfl (t := 139) rfl (fun h1 => ?_) (fun h1 => ?_)
    · refine x_lload hm rfl rfl ?_
      refine x_lret hm rfl rfl ?_
      exact ⟨_, _, rfl, rfl, Iq.rf hI⟩
    · have hk : k < a := Nat.lt_of_not_le fun h => h1 (nI_le h (by omega))
      refine x_lload hm rfl rfl ?_
      refine x_iload_n hm rfl rfl ?_
      refine x_if_ne hm rfl (t := 127) rfl (fun h2 => ?_) (fun h2 => ?_)
      · refine x_iload hm rfl rfl ?_
        refine x_i2l hm rfl ?_
        refine x_lmul hm rfl ?_
        refine x_lstore hm rfl rfl ?_
        refine x_iinc hm rfl rfl (v := nI 1) (by decide) rfl ?_
        rw [jI_add]
        refine x_goto hm rfl (t := 109) rfl ?_
        exact ih _ _ (by omega) (by omega)
      · refine x_iload hm rfl rfl ?_
        refine x_i2l hm rfl ?_
        refine x_goto hm rfl (t := 130) rfl ?_
        refine x_lmul hm rfl ?_
        refine x_lstore hm rfl rfl ?_
        refine x_iinc hm rfl rfl (v := nI 1) (by decide) rfl ?_
        rw [jI_add]
        refine x_goto hm rfl (t := 109) rfl ?_
        exact ih _ _ (by omega) (by omega)
theorem l216b {a : Nat} {w x : Int32} (hI : Inv M) (ha : a ≤ 1000) : ∀ (n b : Nat) (y : Int32), b < n → 1 ≤ b → b ≤ 16 → mEv X (QL (fun _ M' => Iq M M')) 216 74 [some (.ref 66), some (.int (nI a)), some (.int w), some (.int x), some (.int y), some (.int (nI b)), none, none, none] [] (con M) := by
  have hm : mMet 216 = some _ := rfl
  intro n
  induction n with
  | zero =>
    intro b y hb h1b hb16
    omega
  | succ n ih =>
    intro b y hb h1b hb16
    refine x_iload hm rfl rfl ?_
    refine x_iconst hm rfl (v := nI 2) (by decide) ?_
    refine x_irem hm rfl (by decide) ?_
    refine x_if_ne hm rfl (t := 103) rfl (fun h1 => ?_) (fun h1 => ?_)
    · refine x_lconst hm rfl rfl ?_
      refine x_lstore hm rfl rfl ?_
      refine x_iconst hm rfl (v := nI 0) (by decide) ?_
      refine x_istore hm rfl rfl ?_
      exact l216c hI ha _ 0 _ (Nat.lt_succ_self _) (Nat.zero_le _)
    · refine x_iload hm rfl rfl ?_
      refine x_iconst hm rfl (v := nI 2) (by decide) ?_
      refine x_irem hm rfl (by decide) ?_
      refine x_if_ne hm rfl (t := 103) rfl (fun h2 => ?_) (fun h2 => ?_)
      · refine x_lconst hm rfl rfl ?_
        refine x_lstore hm rfl rfl ?_
        refine x_iconst hm rfl (v := nI 0) (by decide) ?_
        refine x_istore hm rfl rfl ?_
        exact l216c hI ha _ 0 _ (Nat.lt_succ_self _) (Nat.zero_le _)
      · obtain ⟨o1, o2, o3⟩ := odd_k b hb16 h1b h2
        refine x_iload hm rfl rfl ?_
        refine x_iconst hm rfl (v := nI 2) (by decide) ?_
        refine x_idiv hm rfl (by decide) ?_
        refine x_istore hm rfl rfl ?_
        refine x_iload hm rfl rfl ?_
        refine x_iconst hm rfl (v := nI 2) (by decide) ?_
        refine x_idiv hm rfl (by decide) ?_
        rw [o3]
        refine x_istore hm rfl rfl ?_
        refine x_goto hm rfl (t := 74) rfl ?_
        exact ih _ _ (by omega) o1 (by omega)
theorem l216a {a : Nat} {w : Int32} (hI : Inv M) (ha : a ≤ 1000) {nb : Nat} (hnb : M 67 1 = nI nb) (h8 : nb ≤ 8) : ∀ (n k : Nat) (s : Int32), nb - k < n → k ≤ nb → mEv X (QL (fun _ M' => Iq M M')) 216 32 [some (.ref 66), some (.int (nI a)), some (.int w), some (.int s), some (.int (nI k)), none, none, none, none] [] (con M) := by
  have hm : mMet 216 = some _ := rfl
  intro n
  induction n with
  | zero =>
    intro k s hkn hkb
    omega
  | succ n ih =>
    intro k s hkn hkb
    refine x_iload hm rfl rfl ?_
    refine x_aload_n hm rfl rfl ?_
    refine x_getf hm rfl (gR rfl rfl) ?_
    refine x_iconst hm rfl (v := nI 1) (by decide) ?_
    refine x_iald hm rfl (lI rfl (by omega) (by decide)) ?_
    rw [hnb]
    refine x_icmp_ge hm rfl (t := 61) rfl (fun h1 => ?_) (fun h1 => ?_)
    · refine x_bipush hm rfl (v := nI 16) (by decide) ?_
      refine x_iload_n hm rfl rfl ?_
      refine x_cSe hm rfl rfl (t168) (fun v2 r2 => ?_)
      refine x_isub hm rfl ?_
      refine x_istore hm rfl rfl ?_
      refine x_bipush hm rfl (v := nI 16) (by decide) ?_
      refine x_istore hm rfl rfl ?_
      exact l216b hI ha _ 16 _ (Nat.lt_succ_self _) (by decide) (by decide)
    · have hk : k < nb := Nat.lt_of_not_le fun h => h1 (nI_le h (by omega))
      refine x_iload_n hm rfl rfl ?_
      refine x_iconst hm rfl (v := nI 1) (by decide) ?_
      refine x_aload_n hm rfl rfl ?_
      refine x_iload hm rfl rfl ?_
      refine x_iconst hm rfl (v := nI 1) (by decide) ?_
      refine x_callV hm rfl rfl (t143 (by omega) (by omega)) ?_
      refine x_ishl hm rfl ?_
      refine x_ior hm rfl ?_
      refine x_istore_n hm rfl rfl ?_
      refine x_iinc hm rfl rfl (v := nI 1) (by decide) rfl ?_
      rw [jI_add]
      refine x_goto hm rfl (t := 32) rfl ?_
      exact ih _ _ (by omega) (by omega)
theorem t216 {a1 a2 : Int32} (hI : Inv M) : ∃ v M', mT X 216 [.ref 66, .int a1, .int a2] (con M) (some (.long v)) (con M') ∧ Iq M M' := by
  refine tl_of (row := _) rfl (Nat.le_of_ble_eq_true rfl) ?_
  have hm : mMet 216 = some _ := rfl
  obtain ⟨nt, hn8, hnt⟩ := hI.1.nt
  refine x_iload_n hm rfl rfl ?_
  refine x_iconst hm rfl (v := nI 0) (by decide) ?_
  refine x_bipush hm rfl (v := nI 14) (by decide) ?_
  refine x_callS hm rfl rfl (t133) ?_
  refine x_if_eq hm rfl (t := 19) rfl (fun h1 => ?_) (fun h1 => ?_)
  · refine x_aload_n hm rfl rfl ?_
    refine x_ldcI hm rfl (v := (-1000001 : Int32)) (by decide +kernel) ?_
    refine x_cVi hm rfl rfl (t135 (by decide +kernel)) (fun v2 M2 r2 => ?_)
    refine x_i2l hm rfl ?_
    refine x_lret hm rfl rfl ?_
    exact ⟨_, _, rfl, rfl, by first | exact Iq.rf hI | exact (r1.2.iq hI) | exact (r2.2.iq hI) | exact (r3.2.iq hI) | exact (r4.2.iq hI) | exact (r5.2.iq hI) | exact (r1.iq hI) | exact (r2.iq hI) | exact (r3.iq hI) | exact (r4.iq hI) | exact (r5.iq hI)⟩
  · obtain ⟨a, ha, rfl⟩ := le_k (by omega) (bI_ne0 h1)
    refine x_iload_n hm rfl rfl ?_
    refine x_iconst hm rfl (v := nI 0) (by decide) ?_
    refine x_iconst hm rfl (v := nI 1) (by decide) ?_
    refine x_callS hm rfl rfl (t133) ?_
    refine x_if_ne hm rfl (t := 27) rfl (fun h3 => ?_) (fun h3 => ?_)
    · refine x_iconst hm rfl (v := nI 0) (by decide) ?_
      refine x_istore_n hm rfl rfl ?_
      refine x_iconst hm rfl (v := nI 0) (by decide) ?_
      refine x_istore hm rfl rfl ?_
      exact l216a hI (by omega) hnt hn8 _ 0 _ (Nat.lt_succ_self _) (Nat.zero_le _)
    · refine x_aload_n hm rfl rfl ?_
      refine x_ldcI hm rfl (v := (-1000001 : Int32)) (by decide +kernel) ?_
      refine x_cVi hm rfl rfl (t135 (by decide +kernel)) (fun v4 M4 r4 => ?_)
      refine x_i2l hm rfl ?_
      refine x_lret hm rfl rfl ?_
      exact ⟨_, _, rfl, rfl, by first | exact Iq.rf hI | exact (r1.2.iq hI) | exact (r2.2.iq hI) | exact (r3.2.iq hI) | exact (r4.2.iq hI) | exact (r5.2.iq hI) | exact (r1.iq hI) | exact (r2.iq hI) | exact (r3.iq hI) | exact (r4.iq hI) | exact (r5.iq hI)⟩
theorem t155 {i : Nat} {v : Int32} (hi : i < 118) : mT X 155 [.ref 66, .int (nI i), .int v] (con M) (some (.int (M 67 i))) (con (mput M 67 i v)) := by
  refine mT.of (row := _) rfl (Nat.le_of_ble_eq_true rfl) ?_
  have hm : mMet 155 = some _ := rfl
  refine x_aload_n hm rfl rfl ?_
  refine x_getf hm rfl (gR rfl rfl) ?_
  refine x_iload_n hm rfl rfl ?_
  refine x_iald hm rfl (lI rfl (by omega) (by decide)) ?_
  refine x_istore_n hm rfl rfl ?_
  refine x_aload_n hm rfl rfl ?_
  refine x_getf hm rfl (gR rfl rfl) ?_
  refine x_iload_n hm rfl rfl ?_
  refine x_iload_n hm rfl rfl ?_
  refine x_iast hm rfl (sI rfl (by omega) (by decide)) ?_
  refine x_iload_n hm rfl rfl ?_
  refine x_iret hm rfl rfl (by first | rfl | exact bI_nar | decide) ?_
  exact ⟨rfl, rfl⟩
theorem t217 {a1 : Int32} (hI : Inv M) : ∃ v M', mT X 217 [.ref 66, .int a1] (con M) (some (.int v)) (con M') ∧ Inv M' := by
  refine ti_of (row := _) rfl (Nat.le_of_ble_eq_true rfl) ?_
  have hm : mMet 217 = some _ := rfl
  refine x_aload_n hm rfl rfl ?_
  refine x_iconst hm rfl (v := nI 3) (by decide) ?_
  refine x_iload_n hm rfl rfl ?_
  refine x_callV hm rfl rfl (t155 (by omega)) ?_
  refine x_iret hm rfl rfl (by first | rfl | exact bI_nar | decide) ?_
  exact ⟨_, _, rfl, rfl, Sf.draw.inv hI⟩
theorem t219  (hI : Inv M) : ∃ v M', mT X 219 [.ref 66] (con M) (some (.int v)) (con M') ∧ Inv M' := by
  refine ti_of (row := _) rfl (Nat.le_of_ble_eq_true rfl) ?_
  have hm : mMet 219 = some _ := rfl
  refine x_aload_n hm rfl rfl ?_
  refine x_getf hm rfl (gI rfl rfl) ?_
  refine x_istore_n hm rfl rfl ?_
  refine x_aload_n hm rfl rfl ?_
  refine x_iconst hm rfl (v := nI 0) (by decide) ?_
  refine x_putf hm rfl (pI rfl rfl (by decide) (by first | exact mFit_int | rfl | decide) rfl) ?_
  refine x_iload_n hm rfl rfl ?_
  refine x_iret hm rfl rfl (by first | rfl | exact bI_nar | decide) ?_
  exact ⟨_, _, rfl, rfl, (Sf.taped (okI4 (k := 0) (by decide))).inv hI⟩
theorem l218 {b nn : Int32} : ∀ (n j c : Nat) (M1 : mM), j < n → c + j ≤ 120 → M1 66 9 = nI c → Sf M M1 → mEv X (QI (fun _ M' => Sf M M')) 218 38 [some (.ref 66), some (.int b), some (.int nn), some (.int (nI j + (-1)))] [] (con M1) := by
  have hm : mMet 218 = some _ := rfl
  intro n
  induction n with
  | zero =>
    intro j c M1 hj hc hm9 hS
    omega
  | succ n ih =>
    intro j c M1 hj hc hm9 hS
    refine x_iload_n hm rfl rfl ?_
    refine x_if_lt hm rfl (t := 77) rfl (fun h1 => ?_) (fun h1 => ?_)
    · refine x_aload_n hm rfl rfl ?_
      refine x_getf hm rfl (gI rfl rfl) ?_
      refine x_iret hm rfl rfl (by first | rfl | exact bI_nar | decide) ?_
      exact ⟨_, _, rfl, rfl, hS⟩
    · obtain ⟨i, rfl⟩ : ∃ i, j = i + 1 := by
        cases j with
        | zero => exact absurd (by decide) h1
        | succ i => exact ⟨i, rfl⟩
      refine x_aload_n hm rfl rfl ?_
      refine x_getf hm rfl (gR rfl rfl) ?_
      refine x_aload_n hm rfl rfl ?_
      refine x_getf hm rfl (gI rfl rfl) ?_
      rw [hm9]
      refine x_iload_n hm rfl rfl ?_
      refine x_bipush hm rfl (v := nI 8) (by decide) ?_
      refine x_iload_n hm rfl rfl ?_
      refine x_imul hm rfl ?_
      refine x_ishr hm rfl ?_
      refine x_sipush hm rfl (v := nI 255) (by decide) ?_
      refine x_iand hm rfl ?_
      refine x_iast hm rfl (sI rfl (by omega) (by decide)) ?_
      refine x_aload_n hm rfl rfl ?_
      refine x_dup hm rfl rfl ?_
      refine x_getf hm rfl (gI rfl rfl) ?_
      rw [mput_ne (a := 73) (i := 66) (by decide), hm9]
      refine x_iconst hm rfl (v := nI 1) (by decide) ?_
      refine x_iadd hm rfl ?_
      rw [jI_add]
      refine x_putf hm rfl (pI rfl rfl (by decide) (by first | exact mFit_int | rfl | decide) rfl) ?_
      refine x_iinc hm rfl rfl (v := (-1 : Int32)) (by decide) rfl ?_
      rw [dec1]
      refine x_goto hm rfl (t := 38) rfl ?_
      exact ih _ (c + 1) _ (by omega) (by omega) (by unfold mput; rw [if_pos ⟨rfl, rfl⟩]) ((hS.trans (Sf.put0 (kd73 _) (by decide) (by decide))).trans (Sf.taped (okI4 (by omega))))
theorem t218 {a1 a2 : Int32} (hI : Inv M) : ∃ v M', mT X 218 [.ref 66, .int a1, .int a2] (con M) (some (.int v)) (con M') ∧ Inv M' := by
  refine ti_of (row := _) rfl (Nat.le_of_ble_eq_true rfl) ?_
  have hm : mMet 218 = some _ := rfl
  obtain ⟨c, hc, hc9⟩ := ok4 (show okx 4 (M 66 9) from hI.1 66 9)
  refine x_iload_n hm rfl rfl ?_
  refine x_iconst hm rfl (v := nI 1) (by decide) ?_
  refine x_iconst hm rfl (v := nI 4) (by decide) ?_
  refine x_callS hm rfl rfl (t133) ?_
  refine x_if_ne hm rfl (t := 16) rfl (fun h1 => ?_) (fun h1 => ?_)
  · obtain ⟨a, ha, ha1, rfl⟩ := le1_k (by omega) (bI_ne0 h1)
    refine x_aload_n hm rfl rfl ?_
    refine x_getf hm rfl (gI rfl rfl) ?_
    rw [hc9]
    refine x_iload_n hm rfl rfl ?_
    refine x_iadd hm rfl ?_
    rw [jI_add]
    refine x_bipush hm rfl (v := nI 120) (by decide) ?_
    refine x_icmp_le hm rfl (t := 34) rfl (fun h2 => ?_) (fun h2 => ?_)
    · have hle : c + a ≤ 120 := (jI_le (by omega) (by decide)).mp h2
      refine x_iload_n hm rfl rfl ?_
      refine x_iconst hm rfl (v := nI 1) (by decide) ?_
      refine x_isub hm rfl ?_
      rw [sub1]
      refine x_istore_n hm rfl rfl ?_
      exact ev_inv hI (l218 _ a c _ (Nat.lt_succ_self _) hle hc9 Sf.rf)
    · refine x_aload_n hm rfl rfl ?_
      refine x_ldcI hm rfl (v := (-1000002 : Int32)) (by decide +kernel) ?_
      refine x_cVi hm rfl rfl (t135 (by decide +kernel)) (fun v3 M3 r3 => ?_)
      refine x_iret hm rfl rfl (by first | rfl | exact bI_nar | decide) ?_
      exact ⟨_, _, rfl, rfl, by first | exact hI | exact (r1.2.inv hI) | exact (r2.2.inv hI) | exact (r3.2.inv hI) | exact (r4.2.inv hI) | exact (r5.2.inv hI) | exact (r1.inv hI) | exact (r2.inv hI) | exact (r3.inv hI) | exact (r4.inv hI) | exact (r5.inv hI)⟩
  · refine x_aload_n hm rfl rfl ?_
    refine x_ldcI hm rfl (v := (-1000001 : Int32)) (by decide +kernel) ?_
    refine x_cVi hm rfl rfl (t135 (by decide +kernel)) (fun v4 M4 r4 => ?_)
    refine x_iret hm rfl rfl (by first | rfl | exact bI_nar | decide) ?_
    exact ⟨_, _, rfl, rfl, by first | exact hI | exact (r1.2.inv hI) | exact (r2.2.inv hI) | exact (r3.2.inv hI) | exact (r4.2.inv hI) | exact (r5.2.inv hI) | exact (r1.inv hI) | exact (r2.inv hI) | exact (r3.inv hI) | exact (r4.inv hI) | exact (r5.inv hI)⟩
end RI
end
section
/-! ===== the reference: what changes the town ===== -/
section RJ
variable {X : mSc} {Q : Option Value → mHp → Prop} {M : mM}
theorem mp1 {b j : Nat} {v : Int32} (h : j ≠ b) : mput M 67 b v 67 j = M 67 j := by
  unfold mput
  rw [if_neg fun e => h e.2]
theorem mp0 {b : Nat} {v : Int32} {a : Nat} : mput M a b v a b = v := if_pos ⟨rfl, rfl⟩
theorem Ac.add {r r' : Nat → Int32} {n : Nat} (h : Ac r) (hn : r 1 = nI n) (h8 : n < 8) (h1 : r' 1 = nI (n + 1)) (hs : ∀ t, t < n → r' (14 + 6 * t + 5) = r (14 + 6 * t + 5)) (ho : r' (14 + 6 * n + 5) = -1 ∨ ∃ u, u < n ∧ r' (14 + 6 * n + 5) = nI u) : Ac r' := by
  intro n' hn' e
  obtain rfl : n' = n + 1 := jI_inj (by omega) (by omega) (e.symm.trans h1)
  obtain ⟨rk, hk⟩ := h n (by omega) hn
  rcases ho with ho | ⟨w, hw, ho⟩
  · refine ⟨rk, fun t u ht hu he => ?_⟩
    by_cases htn : t = n
    · subst htn
      rw [ho] at he
      exact absurd (congrArg Int32.toInt he) (by rw [jI_int (by omega)]; have : (-1 : Int32).toInt = -1 := by decide +kernel
                                                 omega)
    · rw [hs t (by omega)] at he
      have := hk t u (by omega) hu he
      exact ⟨by omega, this.2⟩
  · refine ⟨fun t => if t = n then rk w + 1 else rk t, fun t u ht hu he => ?_⟩
    by_cases htn : t = n
    · subst htn
      rw [ho] at he
      obtain rfl := jI_inj (by omega) (by omega) he
      refine ⟨by omega, ?_⟩
      dsimp only
      rw [if_neg (by omega), if_pos rfl]
      omega
    · rw [hs t (by omega)] at he
      have := hk t u (by omega) hu he
      refine ⟨by omega, ?_⟩
      dsimp only
      rw [if_neg (by omega), if_neg htn]
      exact this.2
def addT (M : mM) (n : Nat) (s p th pa ow on : Int32) : mM := mput (mput (mput (mput (mput (mput (mput M 67 (14 + 6 * n + 0) s) 67 (14 + 6 * n + 1) p) 67 (14 + 6 * n + 2) th) 67 (14 + 6 * n + 3) pa) 67 (14 + 6 * n + 4) ow) 67 (14 + 6 * n + 5) on) 67 1 (nI (n + 1))
theorem addT_1 {n : Nat} {s p th pa ow on : Int32} : mput (mput (mput (mput (mput (mput M 67 (14 + 6 * n + 0) s) 67 (14 + 6 * n + 1) p) 67 (14 + 6 * n + 2) th) 67 (14 + 6 * n + 3) pa) 67 (14 + 6 * n + 4) ow) 67 (14 + 6 * n + 5) on 67 1 = M 67 1 := by
  rw [mp1 (by omega), mp1 (by omega), mp1 (by omega), mp1 (by omega), mp1 (by omega), mp1 (by omega)]
theorem mpo {a b i : Nat} {v : Int32} (h : i ≠ a) : mput M a b v i = M i := by
  funext j
  exact mput_ne h
theorem addT_o {n i : Nat} {s p th pa ow on : Int32} (h : i ≠ 67) : addT M n s p th pa ow on i = M i := by
  unfold addT
  rw [mpo h, mpo h, mpo h, mpo h, mpo h, mpo h, mpo h]
theorem addT_2 {n : Nat} {s p th pa ow on : Int32} : addT M n s p th pa ow on 67 2 = M 67 2 := by
  unfold addT
  rw [mp1 (by omega), mp1 (by omega), mp1 (by omega), mp1 (by omega), mp1 (by omega), mp1 (by omega), mp1 (by omega)]
theorem addT_inv {n : Nat} {s p th pa ow on : Int32} (hI : Inv M) (hn : M 67 1 = nI n) (h8 : n < 8) (hs : okx 3 s) (how : okx 2 ow) (hon : on = -1 ∨ ∃ u, u < n ∧ on = nI u) : Inv (addT M n s p th pa ow on) := by
  have hko : okx 2 on := by
    rcases hon with rfl | ⟨u, hu, rfl⟩
    · exact okM1
    · exact okI2 (by omega)
  refine ⟨?_, ?_, by rw [addT_o (by decide)]; exact hI.2.2⟩
  · unfold addT
    refine Wf.put ?_ (okI1 (by omega))
    refine Wf.put ?_ (by rw [kd_t n h8 5 (by decide)]; exact hko)
    refine Wf.put ?_ (by rw [kd_t n h8 4 (by decide)]; exact how)
    refine Wf.put ?_ (by rw [kd_t n h8 3 (by decide)]; trivial)
    refine Wf.put ?_ (by rw [kd_t n h8 2 (by decide)]; trivial)
    refine Wf.put ?_ (by rw [kd_t n h8 1 (by decide)]; trivial)
    exact Wf.put hI.1 (by rw [kd_t n h8 0 (by decide)]; exact hs)
  · refine hI.2.1.add hn h8 mp0 (fun t ht => ?_) ?_
    · unfold addT
      rw [mp1 (by omega), mp1 (by omega), mp1 (by omega), mp1 (by omega), mp1 (by omega), mp1 (by omega), mp1 (by omega)]
    · have e : addT M n s p th pa ow on 67 (14 + 6 * n + 5) = on := by
        unfold addT
        rw [mp1 (by omega), mp0]
      rw [e]
      exact hon
theorem okx_le3 {v : Int32} (h : nI 0 ≤ v ∧ v ≤ nI 3) : okx 3 v := by
  obtain ⟨k, hk, rfl⟩ := le_k (by decide) h
  exact okI3 hk
theorem tn {x : Int32} {i : Nat} (h : x.toInt = 0 + (i : Int)) (hi : i < 1000) : x = nI i := by
  apply Int32.toInt_inj.mp
  rw [jI_int (by omega)]
  omega
theorem bI_cs {c : Prop} [Decidable c] : (bI c = nI 0) ∨ (bI c = nI 1 ∧ c) := by
  by_cases h : c
  · exact Or.inr ⟨if_pos h, h⟩
  · exact Or.inl (if_neg h)
theorem Ac.re {r : Nat → Int32} {n t v : Nat} (h : Ac r) (hn : r 1 = nI n) (h8 : n ≤ 8) (ht : t < n) (hv : v < n) (hR : ¬ Rch r t v) {r' : Nat → Int32} (h1 : r' 1 = r 1) (hs : ∀ u, u < 8 → u ≠ t → r' (14 + 6 * u + 5) = r (14 + 6 * u + 5)) (he : r' (14 + 6 * t + 5) = nI v) : Ac r' := by
  intro n' hn' e
  rw [h1, hn] at e
  obtain rfl := jI_inj (by omega) (by omega) e
  obtain ⟨rk, hk⟩ := h n h8 hn
  classical
  refine ⟨fun x => rk x + if Rch r t x then rk v + 1 else 0, fun x u hx hu hxu => ?_⟩
  by_cases hxt : x = t
  · subst hxt
    rw [he] at hxu
    obtain rfl := jI_inj (by omega) (by omega) hxu
    refine ⟨hv, ?_⟩
    have hx1 : Rch r x x := ⟨1, Or.inl rfl⟩
    dsimp only
    rw [if_neg hR, if_pos hx1]
    omega
  · rw [hs x (by omega) hxt] at hxu
    obtain ⟨g1, g2⟩ := hk x u hx hu hxu
    refine ⟨g1, ?_⟩
    dsimp only
    by_cases hu2 : Rch r t u
    · have hx2 : Rch r t x := by
        obtain ⟨f, hf⟩ := hu2
        exact ⟨f + 1, Or.inr ⟨u, hu, hxu, hf⟩⟩
      rw [if_pos hu2, if_pos hx2]
      omega
    · rw [if_neg hu2]
      omega
theorem Ac.off {r : Nat → Int32} {t : Nat} (h : Ac r) {r' : Nat → Int32} (h1 : r' 1 = r 1) (hs : ∀ u, u < 8 → u ≠ t → r' (14 + 6 * u + 5) = r (14 + 6 * u + 5)) (he : r' (14 + 6 * t + 5) = -1) : Ac r' := by
  intro n hn e
  rw [h1] at e
  obtain ⟨rk, hk⟩ := h n hn e
  refine ⟨rk, fun x u hx hu hxu => ?_⟩
  by_cases hxt : x = t
  · subst hxt
    rw [he] at hxu
    exact absurd (congrArg Int32.toInt hxu) (by rw [jI_int (by omega)]; have : (-1 : Int32).toInt = -1 := by decide +kernel
                                                omega)
  · rw [hs x (by omega) hxt] at hxu
    exact hk x u hx hu hxu
theorem Inv.on {t : Nat} {v : Int32} (hI : Inv M) (ht : t < 8) (hv : okx 2 v) (hA : Ac (mput M 67 (14 + 6 * t + 5) v 67)) : Inv (mput M 67 (14 + 6 * t + 5) v) :=
  ⟨hI.1.put (by rw [kd_t t ht 5 (by decide)]; exact hv), hA, by rw [mpo (by decide)]; exact hI.2.2⟩
theorem t136 {n : Nat} {s p th pa ow on : Int32} (hn : M 67 1 = nI n) (h8 : n < 8) : mT X 136 [.ref 66, .int s, .int p, .int th, .int pa, .int ow, .int on] (con M) (some (.int (nI n))) (con (addT M n s p th pa ow on)) := by
  refine mT.of (row := _) rfl (Nat.le_of_ble_eq_true rfl) ?_
  have hm : mMet 136 = some _ := rfl
  refine x_aload_n hm rfl rfl ?_
  refine x_getf hm rfl (gR rfl rfl) ?_
  refine x_iconst hm rfl (v := nI 1) (by decide) ?_
  refine x_iald hm rfl (lI rfl (by omega) (by decide)) ?_
  rw [hn]
  refine x_istore hm rfl rfl ?_
  refine x_aload_n hm rfl rfl ?_
  refine x_getf hm rfl (gR rfl rfl) ?_
  refine x_iload hm rfl rfl ?_
  refine x_iconst hm rfl (v := nI 0) (by decide) ?_
  refine x_callS hm rfl rfl (t137) ?_
  refine x_iload_n hm rfl rfl ?_
  refine x_iast hm rfl (sI rfl (by omega) (by decide)) ?_
  refine x_aload_n hm rfl rfl ?_
  refine x_getf hm rfl (gR rfl rfl) ?_
  refine x_iload hm rfl rfl ?_
  refine x_iconst hm rfl (v := nI 1) (by decide) ?_
  refine x_callS hm rfl rfl (t137) ?_
  refine x_iload_n hm rfl rfl ?_
  refine x_iast hm rfl (sI rfl (by omega) (by decide)) ?_
  refine x_aload_n hm rfl rfl ?_
  refine x_getf hm rfl (gR rfl rfl) ?_
  refine x_iload hm rfl rfl ?_
  refine x_iconst hm rfl (v := nI 2) (by decide) ?_
  refine x_callS hm rfl rfl (t137) ?_
  refine x_iload_n hm rfl rfl ?_
  refine x_iast hm rfl (sI rfl (by omega) (by decide)) ?_
  refine x_aload_n hm rfl rfl ?_
  refine x_getf hm rfl (gR rfl rfl) ?_
  refine x_iload hm rfl rfl ?_
  refine x_iconst hm rfl (v := nI 3) (by decide) ?_
  refine x_callS hm rfl rfl (t137) ?_
  refine x_iload hm rfl rfl ?_
  refine x_iast hm rfl (sI rfl (by omega) (by decide)) ?_
  refine x_aload_n hm rfl rfl ?_
  refine x_getf hm rfl (gR rfl rfl) ?_
  refine x_iload hm rfl rfl ?_
  refine x_iconst hm rfl (v := nI 4) (by decide) ?_
  refine x_callS hm rfl rfl (t137) ?_
  refine x_iload hm rfl rfl ?_
  refine x_iast hm rfl (sI rfl (by omega) (by decide)) ?_
  refine x_aload_n hm rfl rfl ?_
  refine x_getf hm rfl (gR rfl rfl) ?_
  refine x_iload hm rfl rfl ?_
  refine x_iconst hm rfl (v := nI 5) (by decide) ?_
  refine x_callS hm rfl rfl (t137) ?_
  refine x_iload hm rfl rfl ?_
  refine x_iast hm rfl (sI rfl (by omega) (by decide)) ?_
  refine x_aload_n hm rfl rfl ?_
  refine x_getf hm rfl (gR rfl rfl) ?_
  refine x_iconst hm rfl (v := nI 1) (by decide) ?_
  refine x_dup2 hm rfl rfl rfl ?_
  refine x_iald hm rfl (lI rfl (by omega) (by decide)) ?_
  rw [addT_1, hn]
  refine x_iconst hm rfl (v := nI 1) (by decide) ?_
  refine x_iadd hm rfl ?_
  rw [jI_add]
  refine x_iast hm rfl (sI rfl (by omega) (by decide)) ?_
  refine x_iload hm rfl rfl ?_
  refine x_iret hm rfl rfl (by first | rfl | exact bI_nar | decide) ?_
  exact ⟨rfl, rfl⟩
theorem t132 {a1 a2 : Int32} (hI : Inv M) : ∃ v M', mT X 132 [.ref 66, .int a1, .int a2] (con M) (some (.int v)) (con M') ∧ Inv M' := by
  refine ti_of (row := _) rfl (Nat.le_of_ble_eq_true rfl) ?_
  have hm : mMet 132 = some _ := rfl
  obtain ⟨nt, hn8, hnt⟩ := hI.1.nt
  refine x_iload_n hm rfl rfl ?_
  refine x_iconst hm rfl (v := nI 0) (by decide) ?_
  refine x_iconst hm rfl (v := nI 3) (by decide) ?_
  refine x_callS hm rfl rfl (t133) ?_
  refine x_if_eq hm rfl (t := 16) rfl (fun h1 => ?_) (fun h1 => ?_)
  · refine x_aload_n hm rfl rfl ?_
    refine x_ldcI hm rfl (v := (-1000001 : Int32)) (by decide +kernel) ?_
    refine x_cVi hm rfl rfl (t135 (by decide +kernel)) (fun v2 M2 r2 => ?_)
    refine x_iret hm rfl rfl (by first | rfl | exact bI_nar | decide) ?_
    exact ⟨_, _, rfl, rfl, by first | exact (r3.2.inv hI) | exact (r4.2.inv hI) | exact (r2.2.inv hI) | exact (r5.2.inv hI) | exact (r6.2.inv hI) | exact (r7.2.inv hI) | exact (r8.2.inv hI) | exact addT_inv hI hnt hlt hs okM1 (Or.inl rfl)⟩
  · have hs := okx_le3 (bI_ne0 h1)
    refine x_iload_n hm rfl rfl ?_
    refine x_callS hm rfl rfl (t134) ?_
    refine x_if_ne hm rfl (t := 23) rfl (fun h3 => ?_) (fun h3 => ?_)
    · refine x_aload_n hm rfl rfl ?_
      refine x_getf hm rfl (gR rfl rfl) ?_
      refine x_iconst hm rfl (v := nI 1) (by decide) ?_
      refine x_iald hm rfl (lI rfl (by omega) (by decide)) ?_
      rw [hnt]
      refine x_bipush hm rfl (v := nI 8) (by decide) ?_
      refine x_icmp_ne hm rfl (t := 43) rfl (fun h4 => ?_) (fun h4 => ?_)
      · have hlt : nt < 8 := Nat.lt_of_le_of_ne hn8 fun e => h4 (by rw [e])
        refine x_aload_n hm rfl rfl ?_
        refine x_iload_n hm rfl rfl ?_
        refine x_iload_n hm rfl rfl ?_
        refine x_bipush hm rfl (v := nI 100) (by decide) ?_
        refine x_iconst hm rfl (v := nI 0) (by decide) ?_
        refine x_iconst hm rfl (v := (-1 : Int32)) (by decide) ?_
        refine x_iconst hm rfl (v := (-1 : Int32)) (by decide) ?_
        refine x_callV hm rfl rfl (t136 hnt hlt) ?_
        refine x_iret hm rfl rfl (by first | rfl | exact bI_nar | decide) ?_
        exact ⟨_, _, rfl, rfl, by first | exact (r3.2.inv hI) | exact (r4.2.inv hI) | exact (r2.2.inv hI) | exact (r5.2.inv hI) | exact (r6.2.inv hI) | exact (r7.2.inv hI) | exact (r8.2.inv hI) | exact addT_inv hI hnt hlt hs okM1 (Or.inl rfl)⟩
      · refine x_aload_n hm rfl rfl ?_
        refine x_ldcI hm rfl (v := (-1000002 : Int32)) (by decide +kernel) ?_
        refine x_cVi hm rfl rfl (t135 (by decide +kernel)) (fun v5 M5 r5 => ?_)
        refine x_goto hm rfl (t := 54) rfl ?_
        refine x_iret hm rfl rfl (by first | rfl | exact bI_nar | decide) ?_
        exact ⟨_, _, rfl, rfl, by first | exact (r3.2.inv hI) | exact (r4.2.inv hI) | exact (r2.2.inv hI) | exact (r5.2.inv hI) | exact (r6.2.inv hI) | exact (r7.2.inv hI) | exact (r8.2.inv hI) | exact addT_inv hI hnt hlt hs okM1 (Or.inl rfl)⟩
    · refine x_aload_n hm rfl rfl ?_
      refine x_ldcI hm rfl (v := (-1000001 : Int32)) (by decide +kernel) ?_
      refine x_cVi hm rfl rfl (t135 (by decide +kernel)) (fun v6 M6 r6 => ?_)
      refine x_iret hm rfl rfl (by first | rfl | exact bI_nar | decide) ?_
      exact ⟨_, _, rfl, rfl, by first | exact (r3.2.inv hI) | exact (r4.2.inv hI) | exact (r2.2.inv hI) | exact (r5.2.inv hI) | exact (r6.2.inv hI) | exact (r7.2.inv hI) | exact (r8.2.inv hI) | exact addT_inv hI hnt hlt hs okM1 (Or.inl rfl)⟩
theorem l158 {n : Nat} {k p w : Int32} (h8 : n < 8) : ∀ (m i : Nat) (M1 : mM), 4 - i < m → i ≤ 4 → M1 67 2 = nI n → Sf M M1 → mEv X (QI (fun v M' => v = nI n ∧ ∃ M1, Sf M M1 ∧ M' = mput M1 67 2 (nI (n + 1)))) 158 47 [some (.ref 66), some (.int k), some (.int p), some (.int w), some (.int (nI n)), some (.int (nI i))] [] (con M1) := by
  have hm : mMet 158 = some _ := rfl
  intro m
  induction m with
  | zero =>
    intro i M1 him hi4 hn1 hS
    omega
  | succ m ih =>
    intro i M1 him hi4 hn1 hS
    refine x_iload hm rfl rfl ?_
    refine x_iconst hm rfl (v := nI 4) (by decide) ?_
    refine x_icmp_ge hm rfl (t := 74) rfl (fun h1 => ?_) (fun h1 => ?_)
    · refine x_aload_n hm rfl rfl ?_
      refine x_getf hm rfl (gR rfl rfl) ?_
      refine x_iconst hm rfl (v := nI 2) (by decide) ?_
      refine x_dup2 hm rfl rfl rfl ?_
      refine x_iald hm rfl (lI rfl (by omega) (by decide)) ?_
      rw [hn1]
      refine x_iconst hm rfl (v := nI 1) (by decide) ?_
      refine x_iadd hm rfl ?_
      rw [jI_add]
      refine x_iast hm rfl (sI rfl (by omega) (by decide)) ?_
      refine x_iload hm rfl rfl ?_
      refine x_iret hm rfl rfl (by first | rfl | exact bI_nar | decide) ?_
      exact ⟨_, _, rfl, rfl, rfl, M1, hS, rfl⟩
    · have hk : i < 4 := Nat.lt_of_not_le fun h => h1 (nI_le h (by omega))
      refine x_aload_n hm rfl rfl ?_
      refine x_getf hm rfl (gR rfl rfl) ?_
      refine x_iload hm rfl rfl ?_
      refine x_iconst hm rfl (v := nI 3) (by decide) ?_
      refine x_iload hm rfl rfl ?_
      refine x_iadd hm rfl ?_
      rw [jI_add]
      refine x_callS hm rfl rfl (t142) ?_
      refine x_iconst hm rfl (v := nI 1) (by decide) ?_
      refine x_iast hm rfl (sI rfl (by omega) (by decide)) ?_
      refine x_iinc hm rfl rfl (v := nI 1) (by decide) rfl ?_
      rw [jI_add]
      refine x_goto hm rfl (t := 47) rfl ?_
      exact ih _ _ (by omega) (by omega) (by rw [mp1 (by omega)]; exact hn1) (hS.trans (Sf.person (by omega) (by omega)))
theorem t158 {n : Nat} {k p w : Int32} (hn : M 67 2 = nI n) (h8 : n < 8) : ∃ v M', mT X 158 [.ref 66, .int k, .int p, .int w] (con M) (some (.int v)) (con M') ∧ v = nI n ∧ ∃ M1, Sf M M1 ∧ M' = mput M1 67 2 (nI (n + 1)) := by
  refine ti_of (row := _) rfl (Nat.le_of_ble_eq_true rfl) ?_
  have hm : mMet 158 = some _ := rfl
  refine x_aload_n hm rfl rfl ?_
  refine x_getf hm rfl (gR rfl rfl) ?_
  refine x_iconst hm rfl (v := nI 2) (by decide) ?_
  refine x_iald hm rfl (lI rfl (by omega) (by decide)) ?_
  rw [hn]
  refine x_istore hm rfl rfl ?_
  refine x_aload_n hm rfl rfl ?_
  refine x_getf hm rfl (gR rfl rfl) ?_
  refine x_iload hm rfl rfl ?_
  refine x_iconst hm rfl (v := nI 0) (by decide) ?_
  refine x_callS hm rfl rfl (t142) ?_
  refine x_iload_n hm rfl rfl ?_
  refine x_iast hm rfl (sI rfl (by omega) (by decide)) ?_
  refine x_aload_n hm rfl rfl ?_
  refine x_getf hm rfl (gR rfl rfl) ?_
  refine x_iload hm rfl rfl ?_
  refine x_iconst hm rfl (v := nI 1) (by decide) ?_
  refine x_callS hm rfl rfl (t142) ?_
  refine x_iload_n hm rfl rfl ?_
  refine x_iast hm rfl (sI rfl (by omega) (by decide)) ?_
  refine x_aload_n hm rfl rfl ?_
  refine x_getf hm rfl (gR rfl rfl) ?_
  refine x_iload hm rfl rfl ?_
  refine x_iconst hm rfl (v := nI 2) (by decide) ?_
  refine x_callS hm rfl rfl (t142) ?_
  refine x_iload_n hm rfl rfl ?_
  refine x_iast hm rfl (sI rfl (by omega) (by decide)) ?_
  refine x_iconst hm rfl (v := nI 0) (by decide) ?_
  refine x_istore hm rfl rfl ?_
  exact l158 h8 _ 0 _ (Nat.lt_succ_self _) (Nat.zero_le _) (by rw [mp1 (by omega), mp1 (by omega), mp1 (by omega)]; exact hn) (((Sf.person h8 (by decide)).trans (Sf.person h8 (by decide))).trans (Sf.person h8 (by decide)))
theorem joined {M1 : mM} {n : Nat} (hI : Inv M) (hS : Sf M M1) (h8 : n < 8) : Inv (mput M1 67 2 (nI (n + 1))) := by
  have h1 := hS.inv hI
  refine ⟨h1.1.put (okI1 (by omega)), h1.2.1.of (mp1 (by decide)) (fun t ht => mp1 (by omega)), by rw [mpo (by decide)]; exact h1.2.2⟩
theorem t156 {a1 a2 : Int32} (hI : Inv M) : ∃ v M', mT X 156 [.ref 66, .int a1, .int a2] (con M) (some (.int v)) (con M') ∧ Inv M' := by
  refine ti_of (row := _) rfl (Nat.le_of_ble_eq_true rfl) ?_
  have hm : mMet 156 = some _ := rfl
  obtain ⟨np, hp8, hnp⟩ := hI.1.np
  refine x_iload_n hm rfl rfl ?_
  refine x_callS hm rfl rfl (t157) ?_
  refine x_if_eq hm rfl (t := 14) rfl (fun h1 => ?_) (fun h1 => ?_)
  · refine x_aload_n hm rfl rfl ?_
    refine x_ldcI hm rfl (v := (-1000001 : Int32)) (by decide +kernel) ?_
    refine x_cVi hm rfl rfl (t135 (by decide +kernel)) (fun v2 M2 r2 => ?_)
    refine x_iret hm rfl rfl (by first | rfl | exact bI_nar | decide) ?_
    first
      | exact ⟨_, _, rfl, rfl, r2.2.inv hI⟩
      | (obtain ⟨-, M9, g1, rfl⟩ := r2; exact ⟨_, _, rfl, rfl, joined hI g1 hlt⟩)
      | exact ⟨_, _, rfl, rfl, r1.2.inv hI⟩
      | exact ⟨_, _, rfl, rfl, r3.2.inv hI⟩
      | exact ⟨_, _, rfl, rfl, r4.2.inv hI⟩
      | exact ⟨_, _, rfl, rfl, r5.2.inv hI⟩
      | exact ⟨_, _, rfl, rfl, r6.2.inv hI⟩
      | exact ⟨_, _, rfl, rfl, r7.2.inv hI⟩
      | exact ⟨_, _, rfl, rfl, r8.2.inv hI⟩
      | exact ⟨_, _, rfl, rfl, r9.2.inv hI⟩
      | (obtain ⟨-, M9, g1, rfl⟩ := r1; exact ⟨_, _, rfl, rfl, joined hI g1 hlt⟩)
      | (obtain ⟨-, M9, g1, rfl⟩ := r3; exact ⟨_, _, rfl, rfl, joined hI g1 hlt⟩)
      | (obtain ⟨-, M9, g1, rfl⟩ := r4; exact ⟨_, _, rfl, rfl, joined hI g1 hlt⟩)
      | (obtain ⟨-, M9, g1, rfl⟩ := r5; exact ⟨_, _, rfl, rfl, joined hI g1 hlt⟩)
      | (obtain ⟨-, M9, g1, rfl⟩ := r6; exact ⟨_, _, rfl, rfl, joined hI g1 hlt⟩)
      | (obtain ⟨-, M9, g1, rfl⟩ := r7; exact ⟨_, _, rfl, rfl, joined hI g1 hlt⟩)
      | (obtain ⟨-, M9, g1, rfl⟩ := r8; exact ⟨_, _, rfl, rfl, joined hI g1 hlt⟩)
      | (obtain ⟨-, M9, g1, rfl⟩ := r9; exact ⟨_, _, rfl, rfl, joined hI g1 hlt⟩)
  · refine x_iload_n hm rfl rfl ?_
    refine x_callS hm rfl rfl (t134) ?_
    refine x_if_ne hm rfl (t := 21) rfl (fun h3 => ?_) (fun h3 => ?_)
    · refine x_aload_n hm rfl rfl ?_
      refine x_getf hm rfl (gR rfl rfl) ?_
      refine x_iconst hm rfl (v := nI 2) (by decide) ?_
      refine x_iald hm rfl (lI rfl (by omega) (by decide)) ?_
      rw [hnp]
      refine x_bipush hm rfl (v := nI 8) (by decide) ?_
      refine x_icmp_ne hm rfl (t := 41) rfl (fun h4 => ?_) (fun h4 => ?_)
      · have hlt : np < 8 := Nat.lt_of_le_of_ne hp8 fun e => h4 (by rw [e])
        refine x_aload_n hm rfl rfl ?_
        refine x_iload_n hm rfl rfl ?_
        refine x_iload_n hm rfl rfl ?_
        refine x_iconst hm rfl (v := nI 1) (by decide) ?_
        refine x_cVi hm rfl rfl (t158 hnp hlt) (fun v5 M5 r5 => ?_)
        refine x_iret hm rfl rfl (by first | rfl | exact bI_nar | decide) ?_
        first
          | exact ⟨_, _, rfl, rfl, r5.2.inv hI⟩
          | (obtain ⟨-, M9, g1, rfl⟩ := r5; exact ⟨_, _, rfl, rfl, joined hI g1 hlt⟩)
          | exact ⟨_, _, rfl, rfl, r1.2.inv hI⟩
          | exact ⟨_, _, rfl, rfl, r2.2.inv hI⟩
          | exact ⟨_, _, rfl, rfl, r3.2.inv hI⟩
          | exact ⟨_, _, rfl, rfl, r4.2.inv hI⟩
          | exact ⟨_, _, rfl, rfl, r6.2.inv hI⟩
          | exact ⟨_, _, rfl, rfl, r7.2.inv hI⟩
          | exact ⟨_, _, rfl, rfl, r8.2.inv hI⟩
          | exact ⟨_, _, rfl, rfl, r9.2.inv hI⟩
          | (obtain ⟨-, M9, g1, rfl⟩ := r1; exact ⟨_, _, rfl, rfl, joined hI g1 hlt⟩)
          | (obtain ⟨-, M9, g1, rfl⟩ := r2; exact ⟨_, _, rfl, rfl, joined hI g1 hlt⟩)
          | (obtain ⟨-, M9, g1, rfl⟩ := r3; exact ⟨_, _, rfl, rfl, joined hI g1 hlt⟩)
          | (obtain ⟨-, M9, g1, rfl⟩ := r4; exact ⟨_, _, rfl, rfl, joined hI g1 hlt⟩)
          | (obtain ⟨-, M9, g1, rfl⟩ := r6; exact ⟨_, _, rfl, rfl, joined hI g1 hlt⟩)
          | (obtain ⟨-, M9, g1, rfl⟩ := r7; exact ⟨_, _, rfl, rfl, joined hI g1 hlt⟩)
          | (obtain ⟨-, M9, g1, rfl⟩ := r8; exact ⟨_, _, rfl, rfl, joined hI g1 hlt⟩)
          | (obtain ⟨-, M9, g1, rfl⟩ := r9; exact ⟨_, _, rfl, rfl, joined hI g1 hlt⟩)
      · refine x_aload_n hm rfl rfl ?_
        refine x_ldcI hm rfl (v := (-1000002 : Int32)) (by decide +kernel) ?_
        refine x_cVi hm rfl rfl (t135 (by decide +kernel)) (fun v6 M6 r6 => ?_)
        refine x_goto hm rfl (t := 48) rfl ?_
        refine x_iret hm rfl rfl (by first | rfl | exact bI_nar | decide) ?_
        first
          | exact ⟨_, _, rfl, rfl, r6.2.inv hI⟩
          | (obtain ⟨-, M9, g1, rfl⟩ := r6; exact ⟨_, _, rfl, rfl, joined hI g1 hlt⟩)
          | exact ⟨_, _, rfl, rfl, r1.2.inv hI⟩
          | exact ⟨_, _, rfl, rfl, r2.2.inv hI⟩
          | exact ⟨_, _, rfl, rfl, r3.2.inv hI⟩
          | exact ⟨_, _, rfl, rfl, r4.2.inv hI⟩
          | exact ⟨_, _, rfl, rfl, r5.2.inv hI⟩
          | exact ⟨_, _, rfl, rfl, r7.2.inv hI⟩
          | exact ⟨_, _, rfl, rfl, r8.2.inv hI⟩
          | exact ⟨_, _, rfl, rfl, r9.2.inv hI⟩
          | (obtain ⟨-, M9, g1, rfl⟩ := r1; exact ⟨_, _, rfl, rfl, joined hI g1 hlt⟩)
          | (obtain ⟨-, M9, g1, rfl⟩ := r2; exact ⟨_, _, rfl, rfl, joined hI g1 hlt⟩)
          | (obtain ⟨-, M9, g1, rfl⟩ := r3; exact ⟨_, _, rfl, rfl, joined hI g1 hlt⟩)
          | (obtain ⟨-, M9, g1, rfl⟩ := r4; exact ⟨_, _, rfl, rfl, joined hI g1 hlt⟩)
          | (obtain ⟨-, M9, g1, rfl⟩ := r5; exact ⟨_, _, rfl, rfl, joined hI g1 hlt⟩)
          | (obtain ⟨-, M9, g1, rfl⟩ := r7; exact ⟨_, _, rfl, rfl, joined hI g1 hlt⟩)
          | (obtain ⟨-, M9, g1, rfl⟩ := r8; exact ⟨_, _, rfl, rfl, joined hI g1 hlt⟩)
          | (obtain ⟨-, M9, g1, rfl⟩ := r9; exact ⟨_, _, rfl, rfl, joined hI g1 hlt⟩)
    · refine x_aload_n hm rfl rfl ?_
      refine x_ldcI hm rfl (v := (-1000001 : Int32)) (by decide +kernel) ?_
      refine x_cVi hm rfl rfl (t135 (by decide +kernel)) (fun v7 M7 r7 => ?_)
      refine x_iret hm rfl rfl (by first | rfl | exact bI_nar | decide) ?_
      first
        | exact ⟨_, _, rfl, rfl, r7.2.inv hI⟩
        | (obtain ⟨-, M9, g1, rfl⟩ := r7; exact ⟨_, _, rfl, rfl, joined hI g1 hlt⟩)
        | exact ⟨_, _, rfl, rfl, r1.2.inv hI⟩
        | exact ⟨_, _, rfl, rfl, r2.2.inv hI⟩
        | exact ⟨_, _, rfl, rfl, r3.2.inv hI⟩
        | exact ⟨_, _, rfl, rfl, r4.2.inv hI⟩
        | exact ⟨_, _, rfl, rfl, r5.2.inv hI⟩
        | exact ⟨_, _, rfl, rfl, r6.2.inv hI⟩
        | exact ⟨_, _, rfl, rfl, r8.2.inv hI⟩
        | exact ⟨_, _, rfl, rfl, r9.2.inv hI⟩
        | (obtain ⟨-, M9, g1, rfl⟩ := r1; exact ⟨_, _, rfl, rfl, joined hI g1 hlt⟩)
        | (obtain ⟨-, M9, g1, rfl⟩ := r2; exact ⟨_, _, rfl, rfl, joined hI g1 hlt⟩)
        | (obtain ⟨-, M9, g1, rfl⟩ := r3; exact ⟨_, _, rfl, rfl, joined hI g1 hlt⟩)
        | (obtain ⟨-, M9, g1, rfl⟩ := r4; exact ⟨_, _, rfl, rfl, joined hI g1 hlt⟩)
        | (obtain ⟨-, M9, g1, rfl⟩ := r5; exact ⟨_, _, rfl, rfl, joined hI g1 hlt⟩)
        | (obtain ⟨-, M9, g1, rfl⟩ := r6; exact ⟨_, _, rfl, rfl, joined hI g1 hlt⟩)
        | (obtain ⟨-, M9, g1, rfl⟩ := r8; exact ⟨_, _, rfl, rfl, joined hI g1 hlt⟩)
        | (obtain ⟨-, M9, g1, rfl⟩ := r9; exact ⟨_, _, rfl, rfl, joined hI g1 hlt⟩)
theorem t150 {a1 a2 a3 : Int32} {nt np : Nat} (hnt : M 67 1 = nI nt) (hn8 : nt ≤ 8) (hnp : M 67 2 = nI np) (hp8 : np ≤ 8) : ∃ v, mT X 150 [.ref 66, .int a1, .int a2, .int a3] (con M) (some (.int v)) (con M) ∧ (v = nI 0 ∨ (v = nI 1 ∧ ∃ f, f < 6 ∧ a2 = nI f ∧ (f = 0 → okx 3 a3) ∧ (f = 4 → okx 2 a3) ∧ (f = 5 → a3 = -1 ∨ ∃ u, u < nt ∧ a3 = nI u))) := by
  refine te_of (row := _) rfl (Nat.le_of_ble_eq_true rfl) ?_
  have hm : mMet 150 = some _ := rfl
  refine x_iload_n hm rfl rfl ?_
  refine x_ts hm rfl (fun h1 => ⟨105, rfl, ?_⟩) (fun i1 h1 g1 => ?_)
  · refine x_iconst hm rfl (v := nI 0) (by decide) ?_
    refine x_iret hm rfl rfl (by first | rfl | exact bI_nar | decide) ?_
    exact ⟨_, rfl, rfl, Or.inl rfl⟩
  · have k1 : i1 = 0 ∨ i1 = 1 ∨ i1 = 2 ∨ i1 = 3 ∨ i1 = 4 ∨ i1 = 5 := by omega
    rcases k1 with rfl | rfl | rfl | rfl | rfl | rfl
    · refine ⟨_, 40, rfl, rfl, ?_⟩
      refine x_iload_n hm rfl rfl ?_
      refine x_iconst hm rfl (v := nI 0) (by decide) ?_
      refine x_iconst hm rfl (v := nI 3) (by decide) ?_
      refine x_callS hm rfl rfl (t133) ?_
      refine x_iret hm rfl rfl (by first | rfl | exact bI_nar | decide) ?_
      exact ⟨_, rfl, rfl, bI_cs.imp id (fun e => ⟨e.1, 0, by decide, tn h1 (by decide), by first | exact fun _ => okx_le3 e.2 | exact fun q => absurd q (by decide), fun q => absurd q (by decide), fun q => absurd q (by decide)⟩)⟩
    · refine ⟨_, 47, rfl, rfl, ?_⟩
      refine x_iload_n hm rfl rfl ?_
      refine x_callS hm rfl rfl (t134) ?_
      refine x_iret hm rfl rfl (by first | rfl | exact bI_nar | decide) ?_
      exact ⟨_, rfl, rfl, bI_cs.imp id (fun e => ⟨e.1, 1, by decide, tn h1 (by decide), by first | exact fun _ => okx_le3 e.2 | exact fun q => absurd q (by decide), fun q => absurd q (by decide), fun q => absurd q (by decide)⟩)⟩
    · refine ⟨_, 52, rfl, rfl, ?_⟩
      refine x_iload_n hm rfl rfl ?_
      refine x_callS hm rfl rfl (t151) ?_
      refine x_iret hm rfl rfl (by first | rfl | exact bI_nar | decide) ?_
      exact ⟨_, rfl, rfl, bI_cs.imp id (fun e => ⟨e.1, 2, by decide, tn h1 (by decide), by first | exact fun _ => okx_le3 e.2 | exact fun q => absurd q (by decide), fun q => absurd q (by decide), fun q => absurd q (by decide)⟩)⟩
    · refine ⟨_, 57, rfl, rfl, ?_⟩
      refine x_iload_n hm rfl rfl ?_
      refine x_callS hm rfl rfl (t152) ?_
      refine x_iret hm rfl rfl (by first | rfl | exact bI_nar | decide) ?_
      exact ⟨_, rfl, rfl, bI_cs.imp id (fun e => ⟨e.1, 3, by decide, tn h1 (by decide), by first | exact fun _ => okx_le3 e.2 | exact fun q => absurd q (by decide), fun q => absurd q (by decide), fun q => absurd q (by decide)⟩)⟩
    · refine ⟨_, 62, rfl, rfl, ?_⟩
      refine x_iload_n hm rfl rfl ?_
      refine x_iconst hm rfl (v := (-1 : Int32)) (by decide) ?_
      refine x_icmp_eq hm rfl (t := 75) rfl (fun h2 => ?_) (fun h2 => ?_)
      · have hq : okx 2 a3 := by rw [h2]; exact okM1
        refine x_iconst hm rfl (v := nI 1) (by decide) ?_
        refine x_goto hm rfl (t := 80) rfl ?_
        refine x_iret hm rfl rfl (by first | rfl | exact bI_nar | decide) ?_
        exact ⟨_, rfl, rfl, by first | exact Or.inl rfl | exact Or.inr ⟨rfl, 4, by decide, tn h1 (by decide), fun q => absurd q (by decide), fun _ => hq, fun q => absurd q (by decide)⟩⟩
      · refine x_aload_n hm rfl rfl ?_
        refine x_iload_n hm rfl rfl ?_
        refine x_callV hm rfl rfl (t153) ?_
        refine x_if_eq hm rfl (t := 79) rfl (fun h3 => ?_) (fun h3 => ?_)
        · refine x_iconst hm rfl (v := nI 0) (by decide) ?_
          refine x_iret hm rfl rfl (by first | rfl | exact bI_nar | decide) ?_
          exact ⟨_, rfl, rfl, by first | exact Or.inl rfl | exact Or.inr ⟨rfl, 4, by decide, tn h1 (by decide), fun q => absurd q (by decide), fun _ => hq, fun q => absurd q (by decide)⟩⟩
        · have hq : okx 2 a3 := by
            obtain ⟨k, hk, e⟩ := in_k hnp (by omega) (bI_ne0 h3)
            rw [e]; exact okI2 (by omega)
          refine x_iconst hm rfl (v := nI 1) (by decide) ?_
          refine x_goto hm rfl (t := 80) rfl ?_
          refine x_iret hm rfl rfl (by first | rfl | exact bI_nar | decide) ?_
          exact ⟨_, rfl, rfl, by first | exact Or.inl rfl | exact Or.inr ⟨rfl, 4, by decide, tn h1 (by decide), fun q => absurd q (by decide), fun _ => hq, fun q => absurd q (by decide)⟩⟩
    · refine ⟨_, 81, rfl, rfl, ?_⟩
      refine x_iload_n hm rfl rfl ?_
      refine x_iconst hm rfl (v := (-1 : Int32)) (by decide) ?_
      refine x_icmp_eq hm rfl (t := 99) rfl (fun h4 => ?_) (fun h4 => ?_)
      · have hq : a3 = -1 ∨ ∃ u, u < nt ∧ a3 = nI u := Or.inl h4
        refine x_iconst hm rfl (v := nI 1) (by decide) ?_
        refine x_goto hm rfl (t := 104) rfl ?_
        refine x_iret hm rfl rfl (by first | rfl | exact bI_nar | decide) ?_
        exact ⟨_, rfl, rfl, by first | exact Or.inl rfl | exact Or.inr ⟨rfl, 5, by decide, tn h1 (by decide), fun q => absurd q (by decide), fun q => absurd q (by decide), fun _ => hq⟩⟩
      · refine x_aload_n hm rfl rfl ?_
        refine x_iload_n hm rfl rfl ?_
        refine x_callV hm rfl rfl (t139) ?_
        refine x_if_eq hm rfl (t := 103) rfl (fun h5 => ?_) (fun h5 => ?_)
        · refine x_iconst hm rfl (v := nI 0) (by decide) ?_
          refine x_iret hm rfl rfl (by first | rfl | exact bI_nar | decide) ?_
          exact ⟨_, rfl, rfl, by first | exact Or.inl rfl | exact Or.inr ⟨rfl, 5, by decide, tn h1 (by decide), fun q => absurd q (by decide), fun q => absurd q (by decide), fun _ => hq⟩⟩
        · have hq : a3 = -1 ∨ ∃ u, u < nt ∧ a3 = nI u := Or.inr (in_k hnt (by omega) (bI_ne0 h5))
          refine x_iload_n hm rfl rfl ?_
          refine x_iload_n hm rfl rfl ?_
          refine x_icmp_eq hm rfl (t := 103) rfl (fun h6 => ?_) (fun h6 => ?_)
          · refine x_iconst hm rfl (v := nI 0) (by decide) ?_
            refine x_iret hm rfl rfl (by first | rfl | exact bI_nar | decide) ?_
            exact ⟨_, rfl, rfl, by first | exact Or.inl rfl | exact Or.inr ⟨rfl, 5, by decide, tn h1 (by decide), fun q => absurd q (by decide), fun q => absurd q (by decide), fun _ => hq⟩⟩
          · refine x_iconst hm rfl (v := nI 1) (by decide) ?_
            refine x_goto hm rfl (t := 104) rfl ?_
            refine x_iret hm rfl rfl (by first | rfl | exact bI_nar | decide) ?_
            exact ⟨_, rfl, rfl, by first | exact Or.inl rfl | exact Or.inr ⟨rfl, 5, by decide, tn h1 (by decide), fun q => absurd q (by decide), fun q => absurd q (by decide), fun _ => hq⟩⟩
theorem forge_inv {t f nt : Nat} {v : Int32} (hI : Inv M) (hnt : M 67 1 = nI nt) (hn8 : nt ≤ 8) (ht : t < nt) (hf : f < 6) (g0 : f = 0 → okx 3 v) (g4 : f = 4 → okx 2 v) (g5 : f = 5 → v = -1 ∨ ∃ u, u < nt ∧ v = nI u ∧ ¬ Rch (M 67) t u) : Inv (mput M 67 (14 + 6 * t + f) v) := by
  rcases (by omega : f = 0 ∨ f = 4 ∨ f = 5 ∨ (f < 5 ∧ f ≠ 0 ∧ f ≠ 4)) with rfl | rfl | rfl | ⟨h1, h2, h3⟩
  · exact (Sf.sort (by omega) (g0 rfl)).inv hI
  · exact (Sf.owner (by omega) (g4 rfl)).inv hI
  · have hs : ∀ u, u < 8 → u ≠ t → mput M 67 (14 + 6 * t + 5) v 67 (14 + 6 * u + 5) = M 67 (14 + 6 * u + 5) := fun u _ hu => mp1 (by omega)
    rcases g5 rfl with rfl | ⟨u, hu, rfl, hR⟩
    · exact Inv.on hI (by omega) okM1 (hI.2.1.off (mp1 (by omega)) hs mp0)
    · exact Inv.on hI (by omega) (okI2 (by omega)) (hI.2.1.re hnt hn8 ht hu hR (mp1 (by omega)) hs mp0)
  · exact (Sf.thing (by omega) h1 h2 h3).inv hI
theorem t149 {a1 a2 a3 : Int32} (hI : Inv M) : ∃ v M', mT X 149 [.ref 66, .int a1, .int a2, .int a3] (con M) (some (.int v)) (con M') ∧ Inv M' := by
  refine ti_of (row := _) rfl (Nat.le_of_ble_eq_true rfl) ?_
  have hm : mMet 149 = some _ := rfl
  obtain ⟨nt, hn8, hnt⟩ := hI.1.nt
  obtain ⟨np, hp8, hnp⟩ := hI.1.np
  refine x_aload_n hm rfl rfl ?_
  refine x_iload_n hm rfl rfl ?_
  refine x_callV hm rfl rfl (t139) ?_
  refine x_if_eq hm rfl (t := 18) rfl (fun h1 => ?_) (fun h1 => ?_)
  · refine x_aload_n hm rfl rfl ?_
    refine x_ldcI hm rfl (v := (-1000001 : Int32)) (by decide +kernel) ?_
    refine x_cVi hm rfl rfl (t135 (by decide +kernel)) (fun v2 M2 r2 => ?_)
    refine x_iret hm rfl rfl (by first | rfl | exact bI_nar | decide) ?_
    first
      | exact ⟨_, _, rfl, rfl, r2.2.inv hI⟩
      | exact ⟨_, _, rfl, rfl, forge_inv hI hnt hn8 ht hf g0 g4 hg⟩
      | exact ⟨_, _, rfl, rfl, forge_inv hI hnt hn8 ht (by decide) (fun q => absurd q (by decide)) (fun q => absurd q (by decide)) hg⟩
      | exact ⟨_, _, rfl, rfl, r1.2.inv hI⟩
      | exact ⟨_, _, rfl, rfl, r3.2.inv hI⟩
      | exact ⟨_, _, rfl, rfl, r4.2.inv hI⟩
      | exact ⟨_, _, rfl, rfl, r5.2.inv hI⟩
      | exact ⟨_, _, rfl, rfl, r6.2.inv hI⟩
      | exact ⟨_, _, rfl, rfl, r7.2.inv hI⟩
      | exact ⟨_, _, rfl, rfl, r8.2.inv hI⟩
      | exact ⟨_, _, rfl, rfl, r9.2.inv hI⟩
      | exact ⟨_, _, rfl, rfl, r10.2.inv hI⟩
      | exact ⟨_, _, rfl, rfl, r11.2.inv hI⟩
  · obtain ⟨t, ht, rfl⟩ := in_k hnt (by omega) (bI_ne0 h1)
    refine x_aload_n hm rfl rfl ?_
    refine x_iload_n hm rfl rfl ?_
    refine x_iload_n hm rfl rfl ?_
    refine x_iload_n hm rfl rfl ?_
    refine x_cVe hm rfl rfl (t150 hnt hn8 hnp hp8) (fun v3 r3 => ?_)
    refine x_if_ne hm rfl (t := 25) rfl (fun h4 => ?_) (fun h4 => ?_)
    · first
        | obtain ⟨-, f, hf, rfl, g0, g4, g5⟩ := r3.resolve_left (fun e => by subst e; exact h4 rfl)
        | obtain ⟨-, f, hf, rfl, g0, g4, g5⟩ := r1.resolve_left (fun e => by subst e; exact h4 rfl)
        | obtain ⟨-, f, hf, rfl, g0, g4, g5⟩ := r2.resolve_left (fun e => by subst e; exact h4 rfl)
        | obtain ⟨-, f, hf, rfl, g0, g4, g5⟩ := r4.resolve_left (fun e => by subst e; exact h4 rfl)
        | obtain ⟨-, f, hf, rfl, g0, g4, g5⟩ := r5.resolve_left (fun e => by subst e; exact h4 rfl)
        | obtain ⟨-, f, hf, rfl, g0, g4, g5⟩ := r6.resolve_left (fun e => by subst e; exact h4 rfl)
      refine x_iload_n hm rfl rfl ?_
      refine x_iconst hm rfl (v := nI 5) (by decide) ?_
      refine x_icmp_ne hm rfl (t := 50) rfl (fun h5 => ?_) (fun h5 => ?_)
      · have hg : f = 5 → a3 = -1 ∨ ∃ u, u < nt ∧ a3 = nI u ∧ ¬ Rch (M 67) t u := fun q => absurd (by rw [q]) h5
        refine x_aload_n hm rfl rfl ?_
        refine x_iload_n hm rfl rfl ?_
        refine x_iload_n hm rfl rfl ?_
        refine x_callS hm rfl rfl (t137) ?_
        refine x_iload_n hm rfl rfl ?_
        refine x_callV hm rfl rfl (t155 (by omega)) ?_
        refine x_iret hm rfl rfl (by first | rfl | exact bI_nar | decide) ?_
        first
          | exact ⟨_, _, rfl, rfl, r3.2.inv hI⟩
          | exact ⟨_, _, rfl, rfl, forge_inv hI hnt hn8 ht hf g0 g4 hg⟩
          | exact ⟨_, _, rfl, rfl, forge_inv hI hnt hn8 ht (by decide) (fun q => absurd q (by decide)) (fun q => absurd q (by decide)) hg⟩
          | exact ⟨_, _, rfl, rfl, r1.2.inv hI⟩
          | exact ⟨_, _, rfl, rfl, r2.2.inv hI⟩
          | exact ⟨_, _, rfl, rfl, r4.2.inv hI⟩
          | exact ⟨_, _, rfl, rfl, r5.2.inv hI⟩
          | exact ⟨_, _, rfl, rfl, r6.2.inv hI⟩
          | exact ⟨_, _, rfl, rfl, r7.2.inv hI⟩
          | exact ⟨_, _, rfl, rfl, r8.2.inv hI⟩
          | exact ⟨_, _, rfl, rfl, r9.2.inv hI⟩
          | exact ⟨_, _, rfl, rfl, r10.2.inv hI⟩
          | exact ⟨_, _, rfl, rfl, r11.2.inv hI⟩
      · refine x_iload_n hm rfl rfl ?_
        refine x_if_lt hm rfl (t := 50) rfl (fun h6 => ?_) (fun h6 => ?_)
        · have hg : f = 5 → a3 = -1 ∨ ∃ u, u < nt ∧ a3 = nI u ∧ ¬ Rch (M 67) t u := fun q => Or.inl ((g5 q).resolve_right fun ⟨u, hu, e⟩ => by subst e; exact jI_nn (by omega) h6)
          refine x_aload_n hm rfl rfl ?_
          refine x_iload_n hm rfl rfl ?_
          refine x_iload_n hm rfl rfl ?_
          refine x_callS hm rfl rfl (t137) ?_
          refine x_iload_n hm rfl rfl ?_
          refine x_callV hm rfl rfl (t155 (by omega)) ?_
          refine x_iret hm rfl rfl (by first | rfl | exact bI_nar | decide) ?_
          first
            | exact ⟨_, _, rfl, rfl, r3.2.inv hI⟩
            | exact ⟨_, _, rfl, rfl, forge_inv hI hnt hn8 ht hf g0 g4 hg⟩
            | exact ⟨_, _, rfl, rfl, forge_inv hI hnt hn8 ht (by decide) (fun q => absurd q (by decide)) (fun q => absurd q (by decide)) hg⟩
            | exact ⟨_, _, rfl, rfl, r1.2.inv hI⟩
            | exact ⟨_, _, rfl, rfl, r2.2.inv hI⟩
            | exact ⟨_, _, rfl, rfl, r4.2.inv hI⟩
            | exact ⟨_, _, rfl, rfl, r5.2.inv hI⟩
            | exact ⟨_, _, rfl, rfl, r6.2.inv hI⟩
            | exact ⟨_, _, rfl, rfl, r7.2.inv hI⟩
            | exact ⟨_, _, rfl, rfl, r8.2.inv hI⟩
            | exact ⟨_, _, rfl, rfl, r9.2.inv hI⟩
            | exact ⟨_, _, rfl, rfl, r10.2.inv hI⟩
            | exact ⟨_, _, rfl, rfl, r11.2.inv hI⟩
        · obtain rfl : f = 5 := jI_inj (by omega) (by decide) (by assumption)
          obtain ⟨u, hu, rfl⟩ := (g5 rfl).resolve_left (fun e => by subst e; exact h6 (by decide))
          refine x_aload_n hm rfl rfl ?_
          refine x_iload_n hm rfl rfl ?_
          refine x_iload_n hm rfl rfl ?_
          refine x_cVe hm rfl rfl (t154 hI hnt hn8 hu (by omega)) (fun v7 r7 => ?_)
          refine x_if_eq hm rfl (t := 50) rfl (fun h8 => ?_) (fun h8 => ?_)
          · have hR : ¬ Rch (M 67) t u := by
              first
              | exact r1.2 (r1.1.resolve_right (fun e => by rw [e] at h8; exact absurd h8 (by decide)))
              | exact r2.2 (r2.1.resolve_right (fun e => by rw [e] at h8; exact absurd h8 (by decide)))
              | exact r3.2 (r3.1.resolve_right (fun e => by rw [e] at h8; exact absurd h8 (by decide)))
              | exact r4.2 (r4.1.resolve_right (fun e => by rw [e] at h8; exact absurd h8 (by decide)))
              | exact r5.2 (r5.1.resolve_right (fun e => by rw [e] at h8; exact absurd h8 (by decide)))
              | exact r6.2 (r6.1.resolve_right (fun e => by rw [e] at h8; exact absurd h8 (by decide)))
              | exact r7.2 (r7.1.resolve_right (fun e => by rw [e] at h8; exact absurd h8 (by decide)))
              | exact r8.2 (r8.1.resolve_right (fun e => by rw [e] at h8; exact absurd h8 (by decide)))
              | exact r9.2 (r9.1.resolve_right (fun e => by rw [e] at h8; exact absurd h8 (by decide)))
              | exact r10.2 (r10.1.resolve_right (fun e => by rw [e] at h8; exact absurd h8 (by decide)))
              | exact r11.2 (r11.1.resolve_right (fun e => by rw [e] at h8; exact absurd h8 (by decide)))
            have hg : (5 : Nat) = 5 → nI u = -1 ∨ ∃ w, w < nt ∧ nI u = nI w ∧ ¬ Rch (M 67) t w := fun _ => Or.inr ⟨u, hu, rfl, hR⟩
            refine x_aload_n hm rfl rfl ?_
            refine x_iload_n hm rfl rfl ?_
            refine x_iload_n hm rfl rfl ?_
            refine x_callS hm rfl rfl (t137) ?_
            refine x_iload_n hm rfl rfl ?_
            refine x_callV hm rfl rfl (t155 (by omega)) ?_
            refine x_iret hm rfl rfl (by first | rfl | exact bI_nar | decide) ?_
            first
              | exact ⟨_, _, rfl, rfl, r7.2.inv hI⟩
              | exact ⟨_, _, rfl, rfl, forge_inv hI hnt hn8 ht hf g0 g4 hg⟩
              | exact ⟨_, _, rfl, rfl, forge_inv hI hnt hn8 ht (by decide) (fun q => absurd q (by decide)) (fun q => absurd q (by decide)) hg⟩
              | exact ⟨_, _, rfl, rfl, r3.2.inv hI⟩
              | exact ⟨_, _, rfl, rfl, r1.2.inv hI⟩
              | exact ⟨_, _, rfl, rfl, r2.2.inv hI⟩
              | exact ⟨_, _, rfl, rfl, r4.2.inv hI⟩
              | exact ⟨_, _, rfl, rfl, r5.2.inv hI⟩
              | exact ⟨_, _, rfl, rfl, r6.2.inv hI⟩
              | exact ⟨_, _, rfl, rfl, r8.2.inv hI⟩
              | exact ⟨_, _, rfl, rfl, r9.2.inv hI⟩
              | exact ⟨_, _, rfl, rfl, r10.2.inv hI⟩
              | exact ⟨_, _, rfl, rfl, r11.2.inv hI⟩
          · refine x_aload_n hm rfl rfl ?_
            refine x_ldcI hm rfl (v := (-1000005 : Int32)) (by decide +kernel) ?_
            refine x_cVi hm rfl rfl (t135 (by decide +kernel)) (fun v9 M9 r9 => ?_)
            refine x_iret hm rfl rfl (by first | rfl | exact bI_nar | decide) ?_
            first
              | exact ⟨_, _, rfl, rfl, r9.2.inv hI⟩
              | exact ⟨_, _, rfl, rfl, forge_inv hI hnt hn8 ht hf g0 g4 hg⟩
              | exact ⟨_, _, rfl, rfl, forge_inv hI hnt hn8 ht (by decide) (fun q => absurd q (by decide)) (fun q => absurd q (by decide)) hg⟩
              | exact ⟨_, _, rfl, rfl, r3.2.inv hI⟩
              | exact ⟨_, _, rfl, rfl, r7.2.inv hI⟩
              | exact ⟨_, _, rfl, rfl, r1.2.inv hI⟩
              | exact ⟨_, _, rfl, rfl, r2.2.inv hI⟩
              | exact ⟨_, _, rfl, rfl, r4.2.inv hI⟩
              | exact ⟨_, _, rfl, rfl, r5.2.inv hI⟩
              | exact ⟨_, _, rfl, rfl, r6.2.inv hI⟩
              | exact ⟨_, _, rfl, rfl, r8.2.inv hI⟩
              | exact ⟨_, _, rfl, rfl, r10.2.inv hI⟩
              | exact ⟨_, _, rfl, rfl, r11.2.inv hI⟩
    · refine x_aload_n hm rfl rfl ?_
      refine x_ldcI hm rfl (v := (-1000001 : Int32)) (by decide +kernel) ?_
      refine x_cVi hm rfl rfl (t135 (by decide +kernel)) (fun v10 M10 r10 => ?_)
      refine x_iret hm rfl rfl (by first | rfl | exact bI_nar | decide) ?_
      first
        | exact ⟨_, _, rfl, rfl, r10.2.inv hI⟩
        | exact ⟨_, _, rfl, rfl, forge_inv hI hnt hn8 ht hf g0 g4 hg⟩
        | exact ⟨_, _, rfl, rfl, forge_inv hI hnt hn8 ht (by decide) (fun q => absurd q (by decide)) (fun q => absurd q (by decide)) hg⟩
        | exact ⟨_, _, rfl, rfl, r3.2.inv hI⟩
        | exact ⟨_, _, rfl, rfl, r1.2.inv hI⟩
        | exact ⟨_, _, rfl, rfl, r2.2.inv hI⟩
        | exact ⟨_, _, rfl, rfl, r4.2.inv hI⟩
        | exact ⟨_, _, rfl, rfl, r5.2.inv hI⟩
        | exact ⟨_, _, rfl, rfl, r6.2.inv hI⟩
        | exact ⟨_, _, rfl, rfl, r7.2.inv hI⟩
        | exact ⟨_, _, rfl, rfl, r8.2.inv hI⟩
        | exact ⟨_, _, rfl, rfl, r9.2.inv hI⟩
        | exact ⟨_, _, rfl, rfl, r11.2.inv hI⟩
end RJ
end
section
/-! ===== the reference: the rest but texts ===== -/
section RK
variable {X : mSc} {Q : Option Value → mHp → Prop} {M : mM}
theorem bt_k {v : Int32} {a n : Nat} (ha : a ≤ 999) (hn : n ≤ 999) (h : nI a ≤ v ∧ v ≤ nI n) : ∃ k, k ≤ n ∧ v = nI k := by
  have h0 : nI 0 ≤ v := Int32.le_trans ((jI_le (by omega) (by omega)).mpr (Nat.zero_le _)) h.1
  exact le_k hn ⟨h0, h.2⟩
theorem t159 {a1 a2 : Int32} (hI : Inv M) : ∃ v M', mT X 159 [.ref 66, .int a1, .int a2] (con M) (some (.int v)) (con M') ∧ Iq M M' := by
  refine ti_of (row := _) rfl (Nat.le_of_ble_eq_true rfl) ?_
  have hm : mMet 159 = some _ := rfl
  obtain ⟨np, hp8, hnp⟩ := hI.1.np
  refine x_aload_n hm rfl rfl ?_
  refine x_iload_n hm rfl rfl ?_
  refine x_callV hm rfl rfl (t153) ?_
  refine x_if_eq hm rfl (t := 18) rfl (fun h1 => ?_) (fun h1 => ?_)
  · refine x_aload_n hm rfl rfl ?_
    refine x_ldcI hm rfl (v := (-1000001 : Int32)) (by decide +kernel) ?_
    refine x_cVi hm rfl rfl (t135 (by decide +kernel)) (fun v2 M2 r2 => ?_)
    refine x_iret hm rfl rfl (by first | rfl | exact bI_nar | decide) ?_
    first
      | exact ⟨_, _, rfl, rfl, r2.2.iq hI⟩
      | exact ⟨_, _, rfl, rfl, Iq.rf hI⟩
      | exact ⟨_, _, rfl, rfl, r1.2.iq hI⟩
      | exact ⟨_, _, rfl, rfl, r3.2.iq hI⟩
      | exact ⟨_, _, rfl, rfl, r4.2.iq hI⟩
      | exact ⟨_, _, rfl, rfl, r5.2.iq hI⟩
      | exact ⟨_, _, rfl, rfl, r6.2.iq hI⟩
      | exact ⟨_, _, rfl, rfl, r7.2.iq hI⟩
      | exact ⟨_, _, rfl, rfl, r8.2.iq hI⟩
      | exact ⟨_, _, rfl, rfl, r9.2.iq hI⟩
      | exact ⟨_, _, rfl, rfl, r10.2.iq hI⟩
      | exact ⟨_, _, rfl, rfl, r11.2.iq hI⟩
      | exact ⟨_, _, rfl, rfl, r12.2.iq hI⟩
      | exact ⟨_, _, rfl, rfl, r13.2.iq hI⟩
      | exact ⟨_, _, rfl, rfl, r14.2.iq hI⟩
      | exact ⟨_, _, rfl, rfl, r15.2.iq hI⟩
      | exact ⟨_, _, rfl, rfl, r16.2.iq hI⟩
      | exact ⟨_, _, rfl, rfl, r17.2.iq hI⟩
      | exact ⟨_, _, rfl, rfl, r18.2.iq hI⟩
      | exact ⟨_, _, rfl, rfl, r19.2.iq hI⟩
  · obtain ⟨p, hp, rfl⟩ := in_k hnp (by omega) (bI_ne0 h1)
    refine x_iload_n hm rfl rfl ?_
    refine x_iconst hm rfl (v := nI 0) (by decide) ?_
    refine x_bipush hm rfl (v := nI 7) (by decide) ?_
    refine x_callS hm rfl rfl (t133) ?_
    refine x_if_ne hm rfl (t := 25) rfl (fun h3 => ?_) (fun h3 => ?_)
    · obtain ⟨w, hw, rfl⟩ := le_k (by omega) (bI_ne0 h3)
      refine x_iload_n hm rfl rfl ?_
      refine x_bipush hm rfl (v := nI 7) (by decide) ?_
      refine x_icmp_ne hm rfl (t := 39) rfl (fun h4 => ?_) (fun h4 => ?_)
      · have hw6 : w ≠ 7 := fun e => h4 (by rw [e])
        refine x_aload_n hm rfl rfl ?_
        refine x_iload_n hm rfl rfl ?_
        refine x_iload_n hm rfl rfl ?_
        refine x_callV hm rfl rfl (t141 (by omega) (by omega)) ?_
        refine x_iret hm rfl rfl (by first | rfl | exact bI_nar | decide) ?_
        first
          | exact ⟨_, _, rfl, rfl, Iq.rf hI⟩
          | exact ⟨_, _, rfl, rfl, r1.2.iq hI⟩
          | exact ⟨_, _, rfl, rfl, r2.2.iq hI⟩
          | exact ⟨_, _, rfl, rfl, r3.2.iq hI⟩
          | exact ⟨_, _, rfl, rfl, r4.2.iq hI⟩
          | exact ⟨_, _, rfl, rfl, r5.2.iq hI⟩
          | exact ⟨_, _, rfl, rfl, r6.2.iq hI⟩
          | exact ⟨_, _, rfl, rfl, r7.2.iq hI⟩
          | exact ⟨_, _, rfl, rfl, r8.2.iq hI⟩
          | exact ⟨_, _, rfl, rfl, r9.2.iq hI⟩
          | exact ⟨_, _, rfl, rfl, r10.2.iq hI⟩
          | exact ⟨_, _, rfl, rfl, r11.2.iq hI⟩
          | exact ⟨_, _, rfl, rfl, r12.2.iq hI⟩
          | exact ⟨_, _, rfl, rfl, r13.2.iq hI⟩
          | exact ⟨_, _, rfl, rfl, r14.2.iq hI⟩
          | exact ⟨_, _, rfl, rfl, r15.2.iq hI⟩
          | exact ⟨_, _, rfl, rfl, r16.2.iq hI⟩
          | exact ⟨_, _, rfl, rfl, r17.2.iq hI⟩
          | exact ⟨_, _, rfl, rfl, r18.2.iq hI⟩
          | exact ⟨_, _, rfl, rfl, r19.2.iq hI⟩
      · refine x_aload_n hm rfl rfl ?_
        refine x_iload_n hm rfl rfl ?_
        refine x_cVe hm rfl rfl (t160 hI.1) (fun v5 r5 => ?_)
        refine x_goto hm rfl (t := 45) rfl ?_
        refine x_iret hm rfl rfl (by first | rfl | exact bI_nar | decide) ?_
        first
          | exact ⟨_, _, rfl, rfl, r5.2.iq hI⟩
          | exact ⟨_, _, rfl, rfl, Iq.rf hI⟩
          | exact ⟨_, _, rfl, rfl, r1.2.iq hI⟩
          | exact ⟨_, _, rfl, rfl, r2.2.iq hI⟩
          | exact ⟨_, _, rfl, rfl, r3.2.iq hI⟩
          | exact ⟨_, _, rfl, rfl, r4.2.iq hI⟩
          | exact ⟨_, _, rfl, rfl, r6.2.iq hI⟩
          | exact ⟨_, _, rfl, rfl, r7.2.iq hI⟩
          | exact ⟨_, _, rfl, rfl, r8.2.iq hI⟩
          | exact ⟨_, _, rfl, rfl, r9.2.iq hI⟩
          | exact ⟨_, _, rfl, rfl, r10.2.iq hI⟩
          | exact ⟨_, _, rfl, rfl, r11.2.iq hI⟩
          | exact ⟨_, _, rfl, rfl, r12.2.iq hI⟩
          | exact ⟨_, _, rfl, rfl, r13.2.iq hI⟩
          | exact ⟨_, _, rfl, rfl, r14.2.iq hI⟩
          | exact ⟨_, _, rfl, rfl, r15.2.iq hI⟩
          | exact ⟨_, _, rfl, rfl, r16.2.iq hI⟩
          | exact ⟨_, _, rfl, rfl, r17.2.iq hI⟩
          | exact ⟨_, _, rfl, rfl, r18.2.iq hI⟩
          | exact ⟨_, _, rfl, rfl, r19.2.iq hI⟩
    · refine x_aload_n hm rfl rfl ?_
      refine x_ldcI hm rfl (v := (-1000001 : Int32)) (by decide +kernel) ?_
      refine x_cVi hm rfl rfl (t135 (by decide +kernel)) (fun v6 M6 r6 => ?_)
      refine x_iret hm rfl rfl (by first | rfl | exact bI_nar | decide) ?_
      first
        | exact ⟨_, _, rfl, rfl, r6.2.iq hI⟩
        | exact ⟨_, _, rfl, rfl, Iq.rf hI⟩
        | exact ⟨_, _, rfl, rfl, r1.2.iq hI⟩
        | exact ⟨_, _, rfl, rfl, r2.2.iq hI⟩
        | exact ⟨_, _, rfl, rfl, r3.2.iq hI⟩
        | exact ⟨_, _, rfl, rfl, r4.2.iq hI⟩
        | exact ⟨_, _, rfl, rfl, r5.2.iq hI⟩
        | exact ⟨_, _, rfl, rfl, r7.2.iq hI⟩
        | exact ⟨_, _, rfl, rfl, r8.2.iq hI⟩
        | exact ⟨_, _, rfl, rfl, r9.2.iq hI⟩
        | exact ⟨_, _, rfl, rfl, r10.2.iq hI⟩
        | exact ⟨_, _, rfl, rfl, r11.2.iq hI⟩
        | exact ⟨_, _, rfl, rfl, r12.2.iq hI⟩
        | exact ⟨_, _, rfl, rfl, r13.2.iq hI⟩
        | exact ⟨_, _, rfl, rfl, r14.2.iq hI⟩
        | exact ⟨_, _, rfl, rfl, r15.2.iq hI⟩
        | exact ⟨_, _, rfl, rfl, r16.2.iq hI⟩
        | exact ⟨_, _, rfl, rfl, r17.2.iq hI⟩
        | exact ⟨_, _, rfl, rfl, r18.2.iq hI⟩
        | exact ⟨_, _, rfl, rfl, r19.2.iq hI⟩
theorem t162 {a1 a2 : Int32} (hI : Inv M) : ∃ v M', mT X 162 [.ref 66, .int a1, .int a2] (con M) (some (.int v)) (con M') ∧ Iq M M' := by
  refine ti_of (row := _) rfl (Nat.le_of_ble_eq_true rfl) ?_
  have hm : mMet 162 = some _ := rfl
  obtain ⟨np, hp8, hnp⟩ := hI.1.np
  obtain ⟨nt, hn8, hnt⟩ := hI.1.nt
  refine x_aload_n hm rfl rfl ?_
  refine x_iload_n hm rfl rfl ?_
  refine x_callV hm rfl rfl (t153) ?_
  refine x_if_eq hm rfl (t := 25) rfl (fun h1 => ?_) (fun h1 => ?_)
  · refine x_aload_n hm rfl rfl ?_
    refine x_ldcI hm rfl (v := (-1000001 : Int32)) (by decide +kernel) ?_
    refine x_cVi hm rfl rfl (t135 (by decide +kernel)) (fun v2 M2 r2 => ?_)
    refine x_iret hm rfl rfl (by first | rfl | exact bI_nar | decide) ?_
    first
      | exact ⟨_, _, rfl, rfl, r2.2.iq hI⟩
      | exact ⟨_, _, rfl, rfl, Iq.rf hI⟩
      | exact ⟨_, _, rfl, rfl, r1.2.iq hI⟩
      | exact ⟨_, _, rfl, rfl, r3.2.iq hI⟩
      | exact ⟨_, _, rfl, rfl, r4.2.iq hI⟩
      | exact ⟨_, _, rfl, rfl, r5.2.iq hI⟩
      | exact ⟨_, _, rfl, rfl, r6.2.iq hI⟩
      | exact ⟨_, _, rfl, rfl, r7.2.iq hI⟩
      | exact ⟨_, _, rfl, rfl, r8.2.iq hI⟩
      | exact ⟨_, _, rfl, rfl, r9.2.iq hI⟩
      | exact ⟨_, _, rfl, rfl, r10.2.iq hI⟩
      | exact ⟨_, _, rfl, rfl, r11.2.iq hI⟩
      | exact ⟨_, _, rfl, rfl, r12.2.iq hI⟩
      | exact ⟨_, _, rfl, rfl, r13.2.iq hI⟩
      | exact ⟨_, _, rfl, rfl, r14.2.iq hI⟩
      | exact ⟨_, _, rfl, rfl, r15.2.iq hI⟩
      | exact ⟨_, _, rfl, rfl, r16.2.iq hI⟩
      | exact ⟨_, _, rfl, rfl, r17.2.iq hI⟩
      | exact ⟨_, _, rfl, rfl, r18.2.iq hI⟩
      | exact ⟨_, _, rfl, rfl, r19.2.iq hI⟩
  · obtain ⟨p, hp, rfl⟩ := in_k hnp (by omega) (bI_ne0 h1)
    refine x_aload_n hm rfl rfl ?_
    refine x_iload_n hm rfl rfl ?_
    refine x_callV hm rfl rfl (t139) ?_
    refine x_if_eq hm rfl (t := 25) rfl (fun h3 => ?_) (fun h3 => ?_)
    · refine x_aload_n hm rfl rfl ?_
      refine x_ldcI hm rfl (v := (-1000001 : Int32)) (by decide +kernel) ?_
      refine x_cVi hm rfl rfl (t135 (by decide +kernel)) (fun v4 M4 r4 => ?_)
      refine x_iret hm rfl rfl (by first | rfl | exact bI_nar | decide) ?_
      first
        | exact ⟨_, _, rfl, rfl, r4.2.iq hI⟩
        | exact ⟨_, _, rfl, rfl, Iq.rf hI⟩
        | exact ⟨_, _, rfl, rfl, r1.2.iq hI⟩
        | exact ⟨_, _, rfl, rfl, r2.2.iq hI⟩
        | exact ⟨_, _, rfl, rfl, r3.2.iq hI⟩
        | exact ⟨_, _, rfl, rfl, r5.2.iq hI⟩
        | exact ⟨_, _, rfl, rfl, r6.2.iq hI⟩
        | exact ⟨_, _, rfl, rfl, r7.2.iq hI⟩
        | exact ⟨_, _, rfl, rfl, r8.2.iq hI⟩
        | exact ⟨_, _, rfl, rfl, r9.2.iq hI⟩
        | exact ⟨_, _, rfl, rfl, r10.2.iq hI⟩
        | exact ⟨_, _, rfl, rfl, r11.2.iq hI⟩
        | exact ⟨_, _, rfl, rfl, r12.2.iq hI⟩
        | exact ⟨_, _, rfl, rfl, r13.2.iq hI⟩
        | exact ⟨_, _, rfl, rfl, r14.2.iq hI⟩
        | exact ⟨_, _, rfl, rfl, r15.2.iq hI⟩
        | exact ⟨_, _, rfl, rfl, r16.2.iq hI⟩
        | exact ⟨_, _, rfl, rfl, r17.2.iq hI⟩
        | exact ⟨_, _, rfl, rfl, r18.2.iq hI⟩
        | exact ⟨_, _, rfl, rfl, r19.2.iq hI⟩
    · obtain ⟨t, ht, rfl⟩ := in_k hnt (by omega) (bI_ne0 h3)
      refine x_aload_n hm rfl rfl ?_
      refine x_iload_n hm rfl rfl ?_
      refine x_iload_n hm rfl rfl ?_
      refine x_cVe hm rfl rfl (t144 hI.1 (by omega) (by omega)) (fun v5 r5 => ?_)
      refine x_goto hm rfl (t := 31) rfl ?_
      refine x_iret hm rfl rfl (by first | rfl | exact bI_nar | decide) ?_
      first
        | exact ⟨_, _, rfl, rfl, r5.2.iq hI⟩
        | exact ⟨_, _, rfl, rfl, Iq.rf hI⟩
        | exact ⟨_, _, rfl, rfl, r1.2.iq hI⟩
        | exact ⟨_, _, rfl, rfl, r2.2.iq hI⟩
        | exact ⟨_, _, rfl, rfl, r3.2.iq hI⟩
        | exact ⟨_, _, rfl, rfl, r4.2.iq hI⟩
        | exact ⟨_, _, rfl, rfl, r6.2.iq hI⟩
        | exact ⟨_, _, rfl, rfl, r7.2.iq hI⟩
        | exact ⟨_, _, rfl, rfl, r8.2.iq hI⟩
        | exact ⟨_, _, rfl, rfl, r9.2.iq hI⟩
        | exact ⟨_, _, rfl, rfl, r10.2.iq hI⟩
        | exact ⟨_, _, rfl, rfl, r11.2.iq hI⟩
        | exact ⟨_, _, rfl, rfl, r12.2.iq hI⟩
        | exact ⟨_, _, rfl, rfl, r13.2.iq hI⟩
        | exact ⟨_, _, rfl, rfl, r14.2.iq hI⟩
        | exact ⟨_, _, rfl, rfl, r15.2.iq hI⟩
        | exact ⟨_, _, rfl, rfl, r16.2.iq hI⟩
        | exact ⟨_, _, rfl, rfl, r17.2.iq hI⟩
        | exact ⟨_, _, rfl, rfl, r18.2.iq hI⟩
        | exact ⟨_, _, rfl, rfl, r19.2.iq hI⟩
theorem t163 {a1 : Int32} (hI : Inv M) : ∃ v M', mT X 163 [.ref 66, .int a1] (con M) (some (.int v)) (con M') ∧ Inv M' := by
  refine ti_of (row := _) rfl (Nat.le_of_ble_eq_true rfl) ?_
  have hm : mMet 163 = some _ := rfl
  refine x_iload_n hm rfl rfl ?_
  refine x_iconst hm rfl (v := nI 1) (by decide) ?_
  refine x_bipush hm rfl (v := nI 60) (by decide) ?_
  refine x_callS hm rfl rfl (t133) ?_
  refine x_if_ne hm rfl (t := 17) rfl (fun h1 => ?_) (fun h1 => ?_)
  · obtain ⟨a, ha, -, rfl⟩ := le1_k (by omega) (bI_ne0 h1)
    refine x_aload_n hm rfl rfl ?_
    refine x_getf hm rfl (gR rfl rfl) ?_
    refine x_iconst hm rfl (v := nI 0) (by decide) ?_
    refine x_iald hm rfl (lI rfl (by omega) (by decide)) ?_
    refine x_iload_n hm rfl rfl ?_
    refine x_iadd hm rfl ?_
    refine x_ldcI hm rfl (v := nI 99999) (by decide +kernel) ?_
    refine x_icmp_le hm rfl (t := 37) rfl (fun h2 => ?_) (fun h2 => ?_)
    · refine x_aload_n hm rfl rfl ?_
      refine x_iload_n hm rfl rfl ?_
      refine x_cVv hm rfl rfl (t164 hI.1 (by omega)) (fun M3 r3 => ?_)
      refine x_aload_n hm rfl rfl ?_
      refine x_cVe hm rfl rfl (t167 (r3.1.1 hI.1)) (fun v4 r4 => ?_)
      refine x_cSe hm rfl rfl (t168) (fun v5 r5 => ?_)
      refine x_iret hm rfl rfl (by first | rfl | exact bI_nar | decide) ?_
      first
        | exact ⟨_, _, rfl, rfl, r5.2.inv hI⟩
        | exact ⟨_, _, rfl, rfl, r5.1.inv hI⟩
        | exact ⟨_, _, rfl, rfl, r3.2.inv hI⟩
        | exact ⟨_, _, rfl, rfl, r4.2.inv hI⟩
        | exact ⟨_, _, rfl, rfl, r3.1.inv hI⟩
        | exact ⟨_, _, rfl, rfl, r4.1.inv hI⟩
        | exact ⟨_, _, rfl, rfl, r1.2.inv hI⟩
        | exact ⟨_, _, rfl, rfl, r2.2.inv hI⟩
        | exact ⟨_, _, rfl, rfl, r6.2.inv hI⟩
        | exact ⟨_, _, rfl, rfl, r7.2.inv hI⟩
        | exact ⟨_, _, rfl, rfl, r8.2.inv hI⟩
        | exact ⟨_, _, rfl, rfl, r9.2.inv hI⟩
        | exact ⟨_, _, rfl, rfl, r10.2.inv hI⟩
        | exact ⟨_, _, rfl, rfl, r11.2.inv hI⟩
        | exact ⟨_, _, rfl, rfl, r12.2.inv hI⟩
        | exact ⟨_, _, rfl, rfl, r13.2.inv hI⟩
        | exact ⟨_, _, rfl, rfl, r14.2.inv hI⟩
        | exact ⟨_, _, rfl, rfl, r15.2.inv hI⟩
        | exact ⟨_, _, rfl, rfl, r16.2.inv hI⟩
        | exact ⟨_, _, rfl, rfl, r17.2.inv hI⟩
        | exact ⟨_, _, rfl, rfl, r18.2.inv hI⟩
        | exact ⟨_, _, rfl, rfl, r19.2.inv hI⟩
        | exact ⟨_, _, rfl, rfl, r1.1.inv hI⟩
        | exact ⟨_, _, rfl, rfl, r2.1.inv hI⟩
        | exact ⟨_, _, rfl, rfl, r6.1.inv hI⟩
        | exact ⟨_, _, rfl, rfl, r7.1.inv hI⟩
        | exact ⟨_, _, rfl, rfl, r8.1.inv hI⟩
        | exact ⟨_, _, rfl, rfl, r9.1.inv hI⟩
        | exact ⟨_, _, rfl, rfl, r10.1.inv hI⟩
        | exact ⟨_, _, rfl, rfl, r11.1.inv hI⟩
        | exact ⟨_, _, rfl, rfl, r12.1.inv hI⟩
        | exact ⟨_, _, rfl, rfl, r13.1.inv hI⟩
        | exact ⟨_, _, rfl, rfl, r14.1.inv hI⟩
        | exact ⟨_, _, rfl, rfl, r15.1.inv hI⟩
        | exact ⟨_, _, rfl, rfl, r16.1.inv hI⟩
        | exact ⟨_, _, rfl, rfl, r17.1.inv hI⟩
        | exact ⟨_, _, rfl, rfl, r18.1.inv hI⟩
        | exact ⟨_, _, rfl, rfl, r19.1.inv hI⟩
        | exact ⟨_, _, rfl, rfl, r20.1.inv hI⟩
        | exact ⟨_, _, rfl, rfl, r21.1.inv hI⟩
        | exact ⟨_, _, rfl, rfl, r22.1.inv hI⟩
        | exact ⟨_, _, rfl, rfl, r23.1.inv hI⟩
        | exact ⟨_, _, rfl, rfl, r24.1.inv hI⟩
        | exact ⟨_, _, rfl, rfl, r25.1.inv hI⟩
        | exact ⟨_, _, rfl, rfl, r26.1.inv hI⟩
        | exact ⟨_, _, rfl, rfl, r27.1.inv hI⟩
        | exact ⟨_, _, rfl, rfl, r28.1.inv hI⟩
        | exact ⟨_, _, rfl, rfl, r29.1.inv hI⟩
        | exact ⟨_, _, rfl, rfl, r30.1.inv hI⟩
        | exact ⟨_, _, rfl, rfl, r31.1.inv hI⟩
        | exact ⟨_, _, rfl, rfl, r32.1.inv hI⟩
        | exact ⟨_, _, rfl, rfl, r33.1.inv hI⟩
        | exact ⟨_, _, rfl, rfl, r34.1.inv hI⟩
        | exact ⟨_, _, rfl, rfl, r35.1.inv hI⟩
        | exact ⟨_, _, rfl, rfl, r36.1.inv hI⟩
        | exact ⟨_, _, rfl, rfl, r37.1.inv hI⟩
        | exact ⟨_, _, rfl, rfl, r38.1.inv hI⟩
        | exact ⟨_, _, rfl, rfl, r39.1.inv hI⟩
    · refine x_aload_n hm rfl rfl ?_
      refine x_ldcI hm rfl (v := (-1000005 : Int32)) (by decide +kernel) ?_
      refine x_cVi hm rfl rfl (t135 (by decide +kernel)) (fun v6 M6 r6 => ?_)
      refine x_iret hm rfl rfl (by first | rfl | exact bI_nar | decide) ?_
      first
        | exact ⟨_, _, rfl, rfl, r6.2.inv hI⟩
        | exact ⟨_, _, rfl, rfl, r6.1.inv hI⟩
        | exact ⟨_, _, rfl, rfl, r1.2.inv hI⟩
        | exact ⟨_, _, rfl, rfl, r2.2.inv hI⟩
        | exact ⟨_, _, rfl, rfl, r3.2.inv hI⟩
        | exact ⟨_, _, rfl, rfl, r4.2.inv hI⟩
        | exact ⟨_, _, rfl, rfl, r5.2.inv hI⟩
        | exact ⟨_, _, rfl, rfl, r7.2.inv hI⟩
        | exact ⟨_, _, rfl, rfl, r8.2.inv hI⟩
        | exact ⟨_, _, rfl, rfl, r9.2.inv hI⟩
        | exact ⟨_, _, rfl, rfl, r10.2.inv hI⟩
        | exact ⟨_, _, rfl, rfl, r11.2.inv hI⟩
        | exact ⟨_, _, rfl, rfl, r12.2.inv hI⟩
        | exact ⟨_, _, rfl, rfl, r13.2.inv hI⟩
        | exact ⟨_, _, rfl, rfl, r14.2.inv hI⟩
        | exact ⟨_, _, rfl, rfl, r15.2.inv hI⟩
        | exact ⟨_, _, rfl, rfl, r16.2.inv hI⟩
        | exact ⟨_, _, rfl, rfl, r17.2.inv hI⟩
        | exact ⟨_, _, rfl, rfl, r18.2.inv hI⟩
        | exact ⟨_, _, rfl, rfl, r19.2.inv hI⟩
        | exact ⟨_, _, rfl, rfl, r1.1.inv hI⟩
        | exact ⟨_, _, rfl, rfl, r2.1.inv hI⟩
        | exact ⟨_, _, rfl, rfl, r3.1.inv hI⟩
        | exact ⟨_, _, rfl, rfl, r4.1.inv hI⟩
        | exact ⟨_, _, rfl, rfl, r5.1.inv hI⟩
        | exact ⟨_, _, rfl, rfl, r7.1.inv hI⟩
        | exact ⟨_, _, rfl, rfl, r8.1.inv hI⟩
        | exact ⟨_, _, rfl, rfl, r9.1.inv hI⟩
        | exact ⟨_, _, rfl, rfl, r10.1.inv hI⟩
        | exact ⟨_, _, rfl, rfl, r11.1.inv hI⟩
        | exact ⟨_, _, rfl, rfl, r12.1.inv hI⟩
        | exact ⟨_, _, rfl, rfl, r13.1.inv hI⟩
        | exact ⟨_, _, rfl, rfl, r14.1.inv hI⟩
        | exact ⟨_, _, rfl, rfl, r15.1.inv hI⟩
        | exact ⟨_, _, rfl, rfl, r16.1.inv hI⟩
        | exact ⟨_, _, rfl, rfl, r17.1.inv hI⟩
        | exact ⟨_, _, rfl, rfl, r18.1.inv hI⟩
        | exact ⟨_, _, rfl, rfl, r19.1.inv hI⟩
        | exact ⟨_, _, rfl, rfl, r20.1.inv hI⟩
        | exact ⟨_, _, rfl, rfl, r21.1.inv hI⟩
        | exact ⟨_, _, rfl, rfl, r22.1.inv hI⟩
        | exact ⟨_, _, rfl, rfl, r23.1.inv hI⟩
        | exact ⟨_, _, rfl, rfl, r24.1.inv hI⟩
        | exact ⟨_, _, rfl, rfl, r25.1.inv hI⟩
        | exact ⟨_, _, rfl, rfl, r26.1.inv hI⟩
        | exact ⟨_, _, rfl, rfl, r27.1.inv hI⟩
        | exact ⟨_, _, rfl, rfl, r28.1.inv hI⟩
        | exact ⟨_, _, rfl, rfl, r29.1.inv hI⟩
        | exact ⟨_, _, rfl, rfl, r30.1.inv hI⟩
        | exact ⟨_, _, rfl, rfl, r31.1.inv hI⟩
        | exact ⟨_, _, rfl, rfl, r32.1.inv hI⟩
        | exact ⟨_, _, rfl, rfl, r33.1.inv hI⟩
        | exact ⟨_, _, rfl, rfl, r34.1.inv hI⟩
        | exact ⟨_, _, rfl, rfl, r35.1.inv hI⟩
        | exact ⟨_, _, rfl, rfl, r36.1.inv hI⟩
        | exact ⟨_, _, rfl, rfl, r37.1.inv hI⟩
        | exact ⟨_, _, rfl, rfl, r38.1.inv hI⟩
        | exact ⟨_, _, rfl, rfl, r39.1.inv hI⟩
  · refine x_aload_n hm rfl rfl ?_
    refine x_ldcI hm rfl (v := (-1000001 : Int32)) (by decide +kernel) ?_
    refine x_cVi hm rfl rfl (t135 (by decide +kernel)) (fun v7 M7 r7 => ?_)
    refine x_iret hm rfl rfl (by first | rfl | exact bI_nar | decide) ?_
    first
      | exact ⟨_, _, rfl, rfl, r7.2.inv hI⟩
      | exact ⟨_, _, rfl, rfl, r7.1.inv hI⟩
      | exact ⟨_, _, rfl, rfl, r1.2.inv hI⟩
      | exact ⟨_, _, rfl, rfl, r2.2.inv hI⟩
      | exact ⟨_, _, rfl, rfl, r3.2.inv hI⟩
      | exact ⟨_, _, rfl, rfl, r4.2.inv hI⟩
      | exact ⟨_, _, rfl, rfl, r5.2.inv hI⟩
      | exact ⟨_, _, rfl, rfl, r6.2.inv hI⟩
      | exact ⟨_, _, rfl, rfl, r8.2.inv hI⟩
      | exact ⟨_, _, rfl, rfl, r9.2.inv hI⟩
      | exact ⟨_, _, rfl, rfl, r10.2.inv hI⟩
      | exact ⟨_, _, rfl, rfl, r11.2.inv hI⟩
      | exact ⟨_, _, rfl, rfl, r12.2.inv hI⟩
      | exact ⟨_, _, rfl, rfl, r13.2.inv hI⟩
      | exact ⟨_, _, rfl, rfl, r14.2.inv hI⟩
      | exact ⟨_, _, rfl, rfl, r15.2.inv hI⟩
      | exact ⟨_, _, rfl, rfl, r16.2.inv hI⟩
      | exact ⟨_, _, rfl, rfl, r17.2.inv hI⟩
      | exact ⟨_, _, rfl, rfl, r18.2.inv hI⟩
      | exact ⟨_, _, rfl, rfl, r19.2.inv hI⟩
      | exact ⟨_, _, rfl, rfl, r1.1.inv hI⟩
      | exact ⟨_, _, rfl, rfl, r2.1.inv hI⟩
      | exact ⟨_, _, rfl, rfl, r3.1.inv hI⟩
      | exact ⟨_, _, rfl, rfl, r4.1.inv hI⟩
      | exact ⟨_, _, rfl, rfl, r5.1.inv hI⟩
      | exact ⟨_, _, rfl, rfl, r6.1.inv hI⟩
      | exact ⟨_, _, rfl, rfl, r8.1.inv hI⟩
      | exact ⟨_, _, rfl, rfl, r9.1.inv hI⟩
      | exact ⟨_, _, rfl, rfl, r10.1.inv hI⟩
      | exact ⟨_, _, rfl, rfl, r11.1.inv hI⟩
      | exact ⟨_, _, rfl, rfl, r12.1.inv hI⟩
      | exact ⟨_, _, rfl, rfl, r13.1.inv hI⟩
      | exact ⟨_, _, rfl, rfl, r14.1.inv hI⟩
      | exact ⟨_, _, rfl, rfl, r15.1.inv hI⟩
      | exact ⟨_, _, rfl, rfl, r16.1.inv hI⟩
      | exact ⟨_, _, rfl, rfl, r17.1.inv hI⟩
      | exact ⟨_, _, rfl, rfl, r18.1.inv hI⟩
      | exact ⟨_, _, rfl, rfl, r19.1.inv hI⟩
      | exact ⟨_, _, rfl, rfl, r20.1.inv hI⟩
      | exact ⟨_, _, rfl, rfl, r21.1.inv hI⟩
      | exact ⟨_, _, rfl, rfl, r22.1.inv hI⟩
      | exact ⟨_, _, rfl, rfl, r23.1.inv hI⟩
      | exact ⟨_, _, rfl, rfl, r24.1.inv hI⟩
      | exact ⟨_, _, rfl, rfl, r25.1.inv hI⟩
      | exact ⟨_, _, rfl, rfl, r26.1.inv hI⟩
      | exact ⟨_, _, rfl, rfl, r27.1.inv hI⟩
      | exact ⟨_, _, rfl, rfl, r28.1.inv hI⟩
      | exact ⟨_, _, rfl, rfl, r29.1.inv hI⟩
      | exact ⟨_, _, rfl, rfl, r30.1.inv hI⟩
      | exact ⟨_, _, rfl, rfl, r31.1.inv hI⟩
      | exact ⟨_, _, rfl, rfl, r32.1.inv hI⟩
      | exact ⟨_, _, rfl, rfl, r33.1.inv hI⟩
      | exact ⟨_, _, rfl, rfl, r34.1.inv hI⟩
      | exact ⟨_, _, rfl, rfl, r35.1.inv hI⟩
      | exact ⟨_, _, rfl, rfl, r36.1.inv hI⟩
      | exact ⟨_, _, rfl, rfl, r37.1.inv hI⟩
      | exact ⟨_, _, rfl, rfl, r38.1.inv hI⟩
      | exact ⟨_, _, rfl, rfl, r39.1.inv hI⟩
theorem t161 {a1 a2 a3 : Int32} (hI : Inv M) : ∃ v M', mT X 161 [.ref 66, .int a1, .int a2, .int a3] (con M) (some (.int v)) (con M') ∧ Inv M' := by
  refine ti_of (row := _) rfl (Nat.le_of_ble_eq_true rfl) ?_
  have hm : mMet 161 = some _ := rfl
  obtain ⟨np, hp8, hnp⟩ := hI.1.np
  have J52 : ∀ (v4 : Int32) (hv : v4 = 0 ∨ ∃ f, f < 7 ∧ a2 = nI f), mEv X (QI (fun _ M' => Inv M')) 161 52 [some (.ref 66), some (.int a1), some (.int a2), some (.int a3), some (.int v4)] [] (con M) := by
    intro v4 hv
    refine x_aload_n hm rfl rfl ?_
    refine x_iload_n hm rfl rfl ?_
    refine x_callV hm rfl rfl (t153) ?_
    refine x_if_eq hm rfl (t := 78) rfl (fun h1 => ?_) (fun h1 => ?_)
    · refine x_aload_n hm rfl rfl ?_
      refine x_ldcI hm rfl (v := (-1000001 : Int32)) (by decide +kernel) ?_
      refine x_cVi hm rfl rfl (t135 (by decide +kernel)) (fun v2 M2 r2 => ?_)
      refine x_iret hm rfl rfl (by first | rfl | exact bI_nar | decide) ?_
      first
        | exact ⟨_, _, rfl, rfl, r2.2.inv hI⟩
        | exact ⟨_, _, rfl, rfl, (Sf.person (by omega) (by omega)).inv hI⟩
        | exact ⟨_, _, rfl, rfl, r1.2.inv hI⟩
        | exact ⟨_, _, rfl, rfl, r3.2.inv hI⟩
        | exact ⟨_, _, rfl, rfl, r4.2.inv hI⟩
        | exact ⟨_, _, rfl, rfl, r5.2.inv hI⟩
        | exact ⟨_, _, rfl, rfl, r6.2.inv hI⟩
        | exact ⟨_, _, rfl, rfl, r7.2.inv hI⟩
        | exact ⟨_, _, rfl, rfl, r8.2.inv hI⟩
        | exact ⟨_, _, rfl, rfl, r9.2.inv hI⟩
        | exact ⟨_, _, rfl, rfl, r10.2.inv hI⟩
        | exact ⟨_, _, rfl, rfl, r11.2.inv hI⟩
        | exact ⟨_, _, rfl, rfl, r12.2.inv hI⟩
        | exact ⟨_, _, rfl, rfl, r13.2.inv hI⟩
        | exact ⟨_, _, rfl, rfl, r14.2.inv hI⟩
        | exact ⟨_, _, rfl, rfl, r15.2.inv hI⟩
        | exact ⟨_, _, rfl, rfl, r16.2.inv hI⟩
        | exact ⟨_, _, rfl, rfl, r17.2.inv hI⟩
        | exact ⟨_, _, rfl, rfl, r18.2.inv hI⟩
        | exact ⟨_, _, rfl, rfl, r19.2.inv hI⟩
    · obtain ⟨p, hp, rfl⟩ := in_k hnp (by omega) (bI_ne0 h1)
      refine x_iload hm rfl rfl ?_
      refine x_if_eq hm rfl (t := 78) rfl (fun h3 => ?_) (fun h3 => ?_)
      · refine x_aload_n hm rfl rfl ?_
        refine x_ldcI hm rfl (v := (-1000001 : Int32)) (by decide +kernel) ?_
        refine x_cVi hm rfl rfl (t135 (by decide +kernel)) (fun v4 M4 r4 => ?_)
        refine x_iret hm rfl rfl (by first | rfl | exact bI_nar | decide) ?_
        first
          | exact ⟨_, _, rfl, rfl, r4.2.inv hI⟩
          | exact ⟨_, _, rfl, rfl, (Sf.person (by omega) (by omega)).inv hI⟩
          | exact ⟨_, _, rfl, rfl, r1.2.inv hI⟩
          | exact ⟨_, _, rfl, rfl, r2.2.inv hI⟩
          | exact ⟨_, _, rfl, rfl, r3.2.inv hI⟩
          | exact ⟨_, _, rfl, rfl, r5.2.inv hI⟩
          | exact ⟨_, _, rfl, rfl, r6.2.inv hI⟩
          | exact ⟨_, _, rfl, rfl, r7.2.inv hI⟩
          | exact ⟨_, _, rfl, rfl, r8.2.inv hI⟩
          | exact ⟨_, _, rfl, rfl, r9.2.inv hI⟩
          | exact ⟨_, _, rfl, rfl, r10.2.inv hI⟩
          | exact ⟨_, _, rfl, rfl, r11.2.inv hI⟩
          | exact ⟨_, _, rfl, rfl, r12.2.inv hI⟩
          | exact ⟨_, _, rfl, rfl, r13.2.inv hI⟩
          | exact ⟨_, _, rfl, rfl, r14.2.inv hI⟩
          | exact ⟨_, _, rfl, rfl, r15.2.inv hI⟩
          | exact ⟨_, _, rfl, rfl, r16.2.inv hI⟩
          | exact ⟨_, _, rfl, rfl, r17.2.inv hI⟩
          | exact ⟨_, _, rfl, rfl, r18.2.inv hI⟩
          | exact ⟨_, _, rfl, rfl, r19.2.inv hI⟩
      · obtain ⟨f, hf, rfl⟩ := hv.resolve_left h3
        refine x_aload_n hm rfl rfl ?_
        refine x_iload_n hm rfl rfl ?_
        refine x_iload_n hm rfl rfl ?_
        refine x_callS hm rfl rfl (t142) ?_
        refine x_iload_n hm rfl rfl ?_
        refine x_callV hm rfl rfl (t155 (by omega)) ?_
        refine x_goto hm rfl (t := 84) rfl ?_
        refine x_iret hm rfl rfl (by first | rfl | exact bI_nar | decide) ?_
        first
          | exact ⟨_, _, rfl, rfl, (Sf.person (by omega) (by omega)).inv hI⟩
          | exact ⟨_, _, rfl, rfl, r1.2.inv hI⟩
          | exact ⟨_, _, rfl, rfl, r2.2.inv hI⟩
          | exact ⟨_, _, rfl, rfl, r3.2.inv hI⟩
          | exact ⟨_, _, rfl, rfl, r4.2.inv hI⟩
          | exact ⟨_, _, rfl, rfl, r5.2.inv hI⟩
          | exact ⟨_, _, rfl, rfl, r6.2.inv hI⟩
          | exact ⟨_, _, rfl, rfl, r7.2.inv hI⟩
          | exact ⟨_, _, rfl, rfl, r8.2.inv hI⟩
          | exact ⟨_, _, rfl, rfl, r9.2.inv hI⟩
          | exact ⟨_, _, rfl, rfl, r10.2.inv hI⟩
          | exact ⟨_, _, rfl, rfl, r11.2.inv hI⟩
          | exact ⟨_, _, rfl, rfl, r12.2.inv hI⟩
          | exact ⟨_, _, rfl, rfl, r13.2.inv hI⟩
          | exact ⟨_, _, rfl, rfl, r14.2.inv hI⟩
          | exact ⟨_, _, rfl, rfl, r15.2.inv hI⟩
          | exact ⟨_, _, rfl, rfl, r16.2.inv hI⟩
          | exact ⟨_, _, rfl, rfl, r17.2.inv hI⟩
          | exact ⟨_, _, rfl, rfl, r18.2.inv hI⟩
          | exact ⟨_, _, rfl, rfl, r19.2.inv hI⟩
  refine x_iload_n hm rfl rfl ?_
  refine x_if_ne hm rfl (t := 11) rfl (fun h5 => ?_) (fun h5 => ?_)
  · refine x_iload_n hm rfl rfl ?_
    refine x_iconst hm rfl (v := nI 1) (by decide) ?_
    refine x_icmp_eq hm rfl (t := 21) rfl (fun h6 => ?_) (fun h6 => ?_)
    · refine x_iload_n hm rfl rfl ?_
      refine x_callS hm rfl rfl (t134) ?_
      refine x_goto hm rfl (t := 50) rfl ?_
      refine x_istore hm rfl rfl ?_
      first
        | exact J52 _ (Or.inl rfl)
        | exact J52 _ (Or.inr ⟨0, by decide, (show a2 = 0 by assumption).trans (by decide : (0 : Int32) = nI 0)⟩)
        | exact J52 _ (Or.inr ⟨1, by decide, by assumption⟩)
        | exact J52 _ (Or.inr ⟨2, by decide, by assumption⟩)
        | exact J52 _ (Or.inr ⟨_, by omega, hf⟩)
    · refine x_iload_n hm rfl rfl ?_
      refine x_iconst hm rfl (v := nI 2) (by decide) ?_
      refine x_icmp_ne hm rfl (t := 28) rfl (fun h7 => ?_) (fun h7 => ?_)
      · refine x_iload_n hm rfl rfl ?_
        refine x_iconst hm rfl (v := nI 3) (by decide) ?_
        refine x_bipush hm rfl (v := nI 6) (by decide) ?_
        refine x_callS hm rfl rfl (t133) ?_
        refine x_if_eq hm rfl (t := 49) rfl (fun h8 => ?_) (fun h8 => ?_)
        · refine x_iconst hm rfl (v := nI 0) (by decide) ?_
          refine x_istore hm rfl rfl ?_
          first
            | exact J52 _ (Or.inl rfl)
            | exact J52 _ (Or.inr ⟨0, by decide, (show a2 = 0 by assumption).trans (by decide : (0 : Int32) = nI 0)⟩)
            | exact J52 _ (Or.inr ⟨1, by decide, by assumption⟩)
            | exact J52 _ (Or.inr ⟨2, by decide, by assumption⟩)
            | exact J52 _ (Or.inr ⟨_, by omega, hf⟩)
        · obtain ⟨f, hf6, hf⟩ := bt_k (by decide) (by decide) (bI_ne0 h8)
          refine x_iload_n hm rfl rfl ?_
          refine x_callS hm rfl rfl (t152) ?_
          refine x_if_eq hm rfl (t := 49) rfl (fun h9 => ?_) (fun h9 => ?_)
          · refine x_iconst hm rfl (v := nI 0) (by decide) ?_
            refine x_istore hm rfl rfl ?_
            first
              | exact J52 _ (Or.inl rfl)
              | exact J52 _ (Or.inr ⟨0, by decide, (show a2 = 0 by assumption).trans (by decide : (0 : Int32) = nI 0)⟩)
              | exact J52 _ (Or.inr ⟨1, by decide, by assumption⟩)
              | exact J52 _ (Or.inr ⟨2, by decide, by assumption⟩)
              | exact J52 _ (Or.inr ⟨_, by omega, hf⟩)
          · refine x_iconst hm rfl (v := nI 1) (by decide) ?_
            refine x_goto hm rfl (t := 50) rfl ?_
            refine x_istore hm rfl rfl ?_
            first
              | exact J52 _ (Or.inl rfl)
              | exact J52 _ (Or.inr ⟨0, by decide, (show a2 = 0 by assumption).trans (by decide : (0 : Int32) = nI 0)⟩)
              | exact J52 _ (Or.inr ⟨1, by decide, by assumption⟩)
              | exact J52 _ (Or.inr ⟨2, by decide, by assumption⟩)
              | exact J52 _ (Or.inr ⟨_, by omega, hf⟩)
      · refine x_iload_n hm rfl rfl ?_
        refine x_callS hm rfl rfl (t134) ?_
        refine x_goto hm rfl (t := 50) rfl ?_
        refine x_istore hm rfl rfl ?_
        first
          | exact J52 _ (Or.inl rfl)
          | exact J52 _ (Or.inr ⟨0, by decide, (show a2 = 0 by assumption).trans (by decide : (0 : Int32) = nI 0)⟩)
          | exact J52 _ (Or.inr ⟨1, by decide, by assumption⟩)
          | exact J52 _ (Or.inr ⟨2, by decide, by assumption⟩)
          | exact J52 _ (Or.inr ⟨_, by omega, hf⟩)
  · 
    refine x_iload_n hm rfl rfl ?_
    refine x_callS hm rfl rfl (t157) ?_
    refine x_goto hm rfl (t := 50) rfl ?_
    refine x_istore hm rfl rfl ?_
    first
      | exact J52 _ (Or.inl rfl)
      | exact J52 _ (Or.inr ⟨0, by decide, (show a2 = 0 by assumption).trans (by decide : (0 : Int32) = nI 0)⟩)
      | exact J52 _ (Or.inr ⟨1, by decide, by assumption⟩)
      | exact J52 _ (Or.inr ⟨2, by decide, by assumption⟩)
      | exact J52 _ (Or.inr ⟨_, by omega, hf⟩)
theorem l169a {a1 : Int32} (hI : Inv M) {nb : Nat} (hnb : M 67 1 = nI nb) (h8 : nb ≤ 8) : ∀ (n k : Nat) (s : Int32), nb - k < n → k ≤ nb → mEv X (QI (fun _ M' => Iq M M')) 169 55 [some (.ref 66), some (.int a1), some (.int s), some (.int (nI k))] [] (con M) := by
  have hm : mMet 169 = some _ := rfl
  intro n
  induction n with
  | zero =>
    intro k s hkn hkb
    omega
  | succ n ih =>
    intro k s hkn hkb
    refine x_iload_n hm rfl rfl ?_
    refine x_aload_n hm rfl rfl ?_
    refine x_getf hm rfl (gR rfl rfl) ?_
    refine x_iconst hm rfl (v := nI 1) (by decide) ?_
    refine x_iald hm rfl (lI rfl (by omega) (by decide)) ?_
    rw [hnb]
    refine x_icmp_ge hm rfl (t := 79) rfl (fun h1 => ?_) (fun h1 => ?_)
    · refine x_iload_n hm rfl rfl ?_
      refine x_iret hm rfl rfl (by first | rfl | exact bI_nar | decide) ?_
      exact ⟨_, _, rfl, rfl, Iq.rf hI⟩
    · have hk : k < nb := Nat.lt_of_not_le fun h => h1 (nI_le h (by omega))
      refine x_iload_n hm rfl rfl ?_
      refine x_aload_n hm rfl rfl ?_
      refine x_iload_n hm rfl rfl ?_
      refine x_cVe hm rfl rfl (t140 hI.1 (by omega)) (fun v2 r2 => ?_)
      refine x_iadd hm rfl ?_
      refine x_istore_n hm rfl rfl ?_
      refine x_iinc hm rfl rfl (v := nI 1) (by decide) rfl ?_
      rw [jI_add]
      refine x_goto hm rfl (t := 55) rfl ?_
      exact ih _ _ (by omega) (by omega)
theorem l169b {a1 : Int32} (hI : Inv M) {nb : Nat} (hnb : M 67 1 = nI nb) (h8 : nb ≤ 8) : ∀ (n k : Nat) (s : Int32), nb - k < n → k ≤ nb → mEv X (QI (fun _ M' => Iq M M')) 169 83 [some (.ref 66), some (.int a1), some (.int s), some (.int (nI k))] [] (con M) := by
  have hm : mMet 169 = some _ := rfl
  intro n
  induction n with
  | zero =>
    intro k s hkn hkb
    omega
  | succ n ih =>
    intro k s hkn hkb
    refine x_iload_n hm rfl rfl ?_
    refine x_aload_n hm rfl rfl ?_
    refine x_getf hm rfl (gR rfl rfl) ?_
    refine x_iconst hm rfl (v := nI 1) (by decide) ?_
    refine x_iald hm rfl (lI rfl (by omega) (by decide)) ?_
    rw [hnb]
    refine x_icmp_ge hm rfl (t := 122) rfl (fun h1 => ?_) (fun h1 => ?_)
    · refine x_iload_n hm rfl rfl ?_
      refine x_iret hm rfl rfl (by first | rfl | exact bI_nar | decide) ?_
      exact ⟨_, _, rfl, rfl, Iq.rf hI⟩
    · have hk : k < nb := Nat.lt_of_not_le fun h => h1 (nI_le h (by omega))
      refine x_iload_n hm rfl rfl ?_
      refine x_aload_n hm rfl rfl ?_
      refine x_aload_n hm rfl rfl ?_
      refine x_iload_n hm rfl rfl ?_
      refine x_iconst hm rfl (v := nI 1) (by decide) ?_
      refine x_callV hm rfl rfl (t143 (by omega) (by omega)) ?_
      refine x_cVe hm rfl rfl (t171 hI.1) (fun v2 r2 => ?_)
      refine x_if_eq hm rfl (t := 113) rfl (fun h3 => ?_) (fun h3 => ?_)
      · refine x_iconst hm rfl (v := nI 0) (by decide) ?_
        refine x_ior hm rfl ?_
        refine x_istore_n hm rfl rfl ?_
        refine x_iinc hm rfl rfl (v := nI 1) (by decide) rfl ?_
        rw [jI_add]
        refine x_goto hm rfl (t := 83) rfl ?_
        exact ih _ _ (by omega) (by omega)
      · refine x_iconst hm rfl (v := nI 1) (by decide) ?_
        refine x_iload_n hm rfl rfl ?_
        refine x_ishl hm rfl ?_
        refine x_goto hm rfl (t := 114) rfl ?_
        refine x_ior hm rfl ?_
        refine x_istore_n hm rfl rfl ?_
        refine x_iinc hm rfl rfl (v := nI 1) (by decide) rfl ?_
        rw [jI_add]
        refine x_goto hm rfl (t := 83) rfl ?_
        exact ih _ _ (by omega) (by omega)
theorem t169 {a1 : Int32} (hI : Inv M) : ∃ v M', mT X 169 [.ref 66, .int a1] (con M) (some (.int v)) (con M') ∧ Iq M M' := by
  refine ti_of (row := _) rfl (Nat.le_of_ble_eq_true rfl) ?_
  have hm : mMet 169 = some _ := rfl
  obtain ⟨nt, hn8, hnt⟩ := hI.1.nt
  refine x_iconst hm rfl (v := nI 0) (by decide) ?_
  refine x_istore_n hm rfl rfl ?_
  refine x_iload_n hm rfl rfl ?_
  refine x_ts hm rfl (fun h1 => ⟨124, rfl, ?_⟩) (fun i1 h1 g1 => ?_)
  · refine x_aload_n hm rfl rfl ?_
    refine x_ldcI hm rfl (v := (-1000001 : Int32)) (by decide +kernel) ?_
    refine x_cVi hm rfl rfl (t135 (by decide +kernel)) (fun v2 M2 r2 => ?_)
    refine x_iret hm rfl rfl (by first | rfl | exact bI_nar | decide) ?_
    first
      | exact ⟨_, _, rfl, rfl, r2.2.iq hI⟩
      | exact ⟨_, _, rfl, rfl, Iq.rf hI⟩
      | exact ⟨_, _, rfl, rfl, r1.2.iq hI⟩
      | exact ⟨_, _, rfl, rfl, r3.2.iq hI⟩
      | exact ⟨_, _, rfl, rfl, r4.2.iq hI⟩
      | exact ⟨_, _, rfl, rfl, r5.2.iq hI⟩
      | exact ⟨_, _, rfl, rfl, r6.2.iq hI⟩
      | exact ⟨_, _, rfl, rfl, r7.2.iq hI⟩
      | exact ⟨_, _, rfl, rfl, r8.2.iq hI⟩
      | exact ⟨_, _, rfl, rfl, r9.2.iq hI⟩
      | exact ⟨_, _, rfl, rfl, r10.2.iq hI⟩
      | exact ⟨_, _, rfl, rfl, r11.2.iq hI⟩
      | exact ⟨_, _, rfl, rfl, r12.2.iq hI⟩
      | exact ⟨_, _, rfl, rfl, r13.2.iq hI⟩
      | exact ⟨_, _, rfl, rfl, r14.2.iq hI⟩
      | exact ⟨_, _, rfl, rfl, r15.2.iq hI⟩
      | exact ⟨_, _, rfl, rfl, r16.2.iq hI⟩
      | exact ⟨_, _, rfl, rfl, r17.2.iq hI⟩
      | exact ⟨_, _, rfl, rfl, r18.2.iq hI⟩
      | exact ⟨_, _, rfl, rfl, r19.2.iq hI⟩
  · have k1 : i1 = 0 ∨ i1 = 1 ∨ i1 = 2 ∨ i1 = 3 ∨ i1 = 4 := by omega
    rcases k1 with rfl | rfl | rfl | rfl | rfl
    · refine ⟨_, 36, rfl, rfl, ?_⟩
      refine x_aload_n hm rfl rfl ?_
      refine x_getf hm rfl (gR rfl rfl) ?_
      refine x_iconst hm rfl (v := nI 0) (by decide) ?_
      refine x_iald hm rfl (lI rfl (by omega) (by decide)) ?_
      refine x_iret hm rfl rfl (by first | rfl | exact bI_nar | decide) ?_
      first
        | exact ⟨_, _, rfl, rfl, Iq.rf hI⟩
        | exact ⟨_, _, rfl, rfl, r1.2.iq hI⟩
        | exact ⟨_, _, rfl, rfl, r2.2.iq hI⟩
        | exact ⟨_, _, rfl, rfl, r3.2.iq hI⟩
        | exact ⟨_, _, rfl, rfl, r4.2.iq hI⟩
        | exact ⟨_, _, rfl, rfl, r5.2.iq hI⟩
        | exact ⟨_, _, rfl, rfl, r6.2.iq hI⟩
        | exact ⟨_, _, rfl, rfl, r7.2.iq hI⟩
        | exact ⟨_, _, rfl, rfl, r8.2.iq hI⟩
        | exact ⟨_, _, rfl, rfl, r9.2.iq hI⟩
        | exact ⟨_, _, rfl, rfl, r10.2.iq hI⟩
        | exact ⟨_, _, rfl, rfl, r11.2.iq hI⟩
        | exact ⟨_, _, rfl, rfl, r12.2.iq hI⟩
        | exact ⟨_, _, rfl, rfl, r13.2.iq hI⟩
        | exact ⟨_, _, rfl, rfl, r14.2.iq hI⟩
        | exact ⟨_, _, rfl, rfl, r15.2.iq hI⟩
        | exact ⟨_, _, rfl, rfl, r16.2.iq hI⟩
        | exact ⟨_, _, rfl, rfl, r17.2.iq hI⟩
        | exact ⟨_, _, rfl, rfl, r18.2.iq hI⟩
        | exact ⟨_, _, rfl, rfl, r19.2.iq hI⟩
    · refine ⟨_, 43, rfl, rfl, ?_⟩
      refine x_aload_n hm rfl rfl ?_
      refine x_cVe hm rfl rfl (t167 hI.1) (fun v3 r3 => ?_)
      refine x_iret hm rfl rfl (by first | rfl | exact bI_nar | decide) ?_
      first
        | exact ⟨_, _, rfl, rfl, r3.2.iq hI⟩
        | exact ⟨_, _, rfl, rfl, Iq.rf hI⟩
        | exact ⟨_, _, rfl, rfl, r1.2.iq hI⟩
        | exact ⟨_, _, rfl, rfl, r2.2.iq hI⟩
        | exact ⟨_, _, rfl, rfl, r4.2.iq hI⟩
        | exact ⟨_, _, rfl, rfl, r5.2.iq hI⟩
        | exact ⟨_, _, rfl, rfl, r6.2.iq hI⟩
        | exact ⟨_, _, rfl, rfl, r7.2.iq hI⟩
        | exact ⟨_, _, rfl, rfl, r8.2.iq hI⟩
        | exact ⟨_, _, rfl, rfl, r9.2.iq hI⟩
        | exact ⟨_, _, rfl, rfl, r10.2.iq hI⟩
        | exact ⟨_, _, rfl, rfl, r11.2.iq hI⟩
        | exact ⟨_, _, rfl, rfl, r12.2.iq hI⟩
        | exact ⟨_, _, rfl, rfl, r13.2.iq hI⟩
        | exact ⟨_, _, rfl, rfl, r14.2.iq hI⟩
        | exact ⟨_, _, rfl, rfl, r15.2.iq hI⟩
        | exact ⟨_, _, rfl, rfl, r16.2.iq hI⟩
        | exact ⟨_, _, rfl, rfl, r17.2.iq hI⟩
        | exact ⟨_, _, rfl, rfl, r18.2.iq hI⟩
        | exact ⟨_, _, rfl, rfl, r19.2.iq hI⟩
    · refine ⟨_, 48, rfl, rfl, ?_⟩
      refine x_aload_n hm rfl rfl ?_
      refine x_cVe hm rfl rfl (t170 hI.1) (fun v4 r4 => ?_)
      refine x_iret hm rfl rfl (by first | rfl | exact bI_nar | decide) ?_
      first
        | exact ⟨_, _, rfl, rfl, r4.2.iq hI⟩
        | exact ⟨_, _, rfl, rfl, Iq.rf hI⟩
        | exact ⟨_, _, rfl, rfl, r1.2.iq hI⟩
        | exact ⟨_, _, rfl, rfl, r2.2.iq hI⟩
        | exact ⟨_, _, rfl, rfl, r3.2.iq hI⟩
        | exact ⟨_, _, rfl, rfl, r5.2.iq hI⟩
        | exact ⟨_, _, rfl, rfl, r6.2.iq hI⟩
        | exact ⟨_, _, rfl, rfl, r7.2.iq hI⟩
        | exact ⟨_, _, rfl, rfl, r8.2.iq hI⟩
        | exact ⟨_, _, rfl, rfl, r9.2.iq hI⟩
        | exact ⟨_, _, rfl, rfl, r10.2.iq hI⟩
        | exact ⟨_, _, rfl, rfl, r11.2.iq hI⟩
        | exact ⟨_, _, rfl, rfl, r12.2.iq hI⟩
        | exact ⟨_, _, rfl, rfl, r13.2.iq hI⟩
        | exact ⟨_, _, rfl, rfl, r14.2.iq hI⟩
        | exact ⟨_, _, rfl, rfl, r15.2.iq hI⟩
        | exact ⟨_, _, rfl, rfl, r16.2.iq hI⟩
        | exact ⟨_, _, rfl, rfl, r17.2.iq hI⟩
        | exact ⟨_, _, rfl, rfl, r18.2.iq hI⟩
        | exact ⟨_, _, rfl, rfl, r19.2.iq hI⟩
    · refine ⟨_, 53, rfl, rfl, ?_⟩
      refine x_iconst hm rfl (v := nI 0) (by decide) ?_
      refine x_istore_n hm rfl rfl ?_
      exact l169a hI hnt hn8 _ 0 _ (Nat.lt_succ_self _) (Nat.zero_le _)
    · refine ⟨_, 81, rfl, rfl, ?_⟩
      refine x_iconst hm rfl (v := nI 0) (by decide) ?_
      refine x_istore_n hm rfl rfl ?_
      exact l169b hI hnt hn8 _ 0 _ (Nat.lt_succ_self _) (Nat.zero_le _)
theorem kd_s : ∀ s, s ≤ 9 → kd 67 (4 + s) = 2 := by decide +kernel
theorem Sf.spot {s : Nat} {v : Int32} (hs : s ≤ 9) (hv : okx 2 v) : Sf M (mput M 67 (4 + s) v) := Sf.put (by rw [kd_s s hs]; exact hv) (by decide) (fun _ => ⟨by omega, by omega, fun t ht => by omega⟩)
theorem t231 {a1 a2 : Int32} (hI : Inv M) : ∃ v M', mT X 231 [.ref 66, .int a1, .int a2] (con M) (some (.int v)) (con M') ∧ Inv M' := by
  refine ti_of (row := _) rfl (Nat.le_of_ble_eq_true rfl) ?_
  have hm : mMet 231 = some _ := rfl
  obtain ⟨np, hp8, hnp⟩ := hI.1.np
  refine x_iload_n hm rfl rfl ?_
  refine x_callS hm rfl rfl (t232) ?_
  refine x_if_eq hm rfl (t := 20) rfl (fun h1 => ?_) (fun h1 => ?_)
  · refine x_aload_n hm rfl rfl ?_
    refine x_ldcI hm rfl (v := (-1000001 : Int32)) (by decide +kernel) ?_
    refine x_cVi hm rfl rfl (t135 (by decide +kernel)) (fun v2 M2 r2 => ?_)
    refine x_iret hm rfl rfl (by first | rfl | exact bI_nar | decide) ?_
    first
      | exact ⟨_, _, rfl, rfl, r2.2.inv hI⟩
      | exact ⟨_, _, rfl, rfl, (Sf.spot hs hq).inv hI⟩
      | exact ⟨_, _, rfl, rfl, r1.2.inv hI⟩
      | exact ⟨_, _, rfl, rfl, r3.2.inv hI⟩
      | exact ⟨_, _, rfl, rfl, r4.2.inv hI⟩
      | exact ⟨_, _, rfl, rfl, r5.2.inv hI⟩
      | exact ⟨_, _, rfl, rfl, r6.2.inv hI⟩
      | exact ⟨_, _, rfl, rfl, r7.2.inv hI⟩
      | exact ⟨_, _, rfl, rfl, r8.2.inv hI⟩
      | exact ⟨_, _, rfl, rfl, r9.2.inv hI⟩
      | exact ⟨_, _, rfl, rfl, r10.2.inv hI⟩
      | exact ⟨_, _, rfl, rfl, r11.2.inv hI⟩
      | exact ⟨_, _, rfl, rfl, r12.2.inv hI⟩
      | exact ⟨_, _, rfl, rfl, r13.2.inv hI⟩
      | exact ⟨_, _, rfl, rfl, r14.2.inv hI⟩
      | exact ⟨_, _, rfl, rfl, r15.2.inv hI⟩
      | exact ⟨_, _, rfl, rfl, r16.2.inv hI⟩
      | exact ⟨_, _, rfl, rfl, r17.2.inv hI⟩
      | exact ⟨_, _, rfl, rfl, r18.2.inv hI⟩
      | exact ⟨_, _, rfl, rfl, r19.2.inv hI⟩
  · obtain ⟨s, hs, rfl⟩ := le_k (by omega) (bI_ne0 h1)
    refine x_iload_n hm rfl rfl ?_
    refine x_iconst hm rfl (v := (-1 : Int32)) (by decide) ?_
    refine x_icmp_eq hm rfl (t := 27) rfl (fun h3 => ?_) (fun h3 => ?_)
    · have hq : okx 2 a2 := by rw [h3]; exact okM1
      refine x_aload_n hm rfl rfl ?_
      refine x_getf hm rfl (gR rfl rfl) ?_
      refine x_iconst hm rfl (v := nI 4) (by decide) ?_
      refine x_iload_n hm rfl rfl ?_
      refine x_iadd hm rfl ?_
      rw [jI_add]
      refine x_iload_n hm rfl rfl ?_
      refine x_iast hm rfl (sI rfl (by omega) (by decide)) ?_
      refine x_iconst hm rfl (v := nI 1) (by decide) ?_
      refine x_iret hm rfl rfl (by first | rfl | exact bI_nar | decide) ?_
      first
        | exact ⟨_, _, rfl, rfl, (Sf.spot hs hq).inv hI⟩
        | exact ⟨_, _, rfl, rfl, r1.2.inv hI⟩
        | exact ⟨_, _, rfl, rfl, r2.2.inv hI⟩
        | exact ⟨_, _, rfl, rfl, r3.2.inv hI⟩
        | exact ⟨_, _, rfl, rfl, r4.2.inv hI⟩
        | exact ⟨_, _, rfl, rfl, r5.2.inv hI⟩
        | exact ⟨_, _, rfl, rfl, r6.2.inv hI⟩
        | exact ⟨_, _, rfl, rfl, r7.2.inv hI⟩
        | exact ⟨_, _, rfl, rfl, r8.2.inv hI⟩
        | exact ⟨_, _, rfl, rfl, r9.2.inv hI⟩
        | exact ⟨_, _, rfl, rfl, r10.2.inv hI⟩
        | exact ⟨_, _, rfl, rfl, r11.2.inv hI⟩
        | exact ⟨_, _, rfl, rfl, r12.2.inv hI⟩
        | exact ⟨_, _, rfl, rfl, r13.2.inv hI⟩
        | exact ⟨_, _, rfl, rfl, r14.2.inv hI⟩
        | exact ⟨_, _, rfl, rfl, r15.2.inv hI⟩
        | exact ⟨_, _, rfl, rfl, r16.2.inv hI⟩
        | exact ⟨_, _, rfl, rfl, r17.2.inv hI⟩
        | exact ⟨_, _, rfl, rfl, r18.2.inv hI⟩
        | exact ⟨_, _, rfl, rfl, r19.2.inv hI⟩
    · refine x_aload_n hm rfl rfl ?_
      refine x_iload_n hm rfl rfl ?_
      refine x_callV hm rfl rfl (t153) ?_
      refine x_if_ne hm rfl (t := 27) rfl (fun h4 => ?_) (fun h4 => ?_)
      · have hq : okx 2 a2 := by
          obtain ⟨k, hk, e⟩ := in_k hnp (by omega) (bI_ne0 h4)
          rw [e]; exact okI2 (by omega)
        refine x_aload_n hm rfl rfl ?_
        refine x_getf hm rfl (gR rfl rfl) ?_
        refine x_iconst hm rfl (v := nI 4) (by decide) ?_
        refine x_iload_n hm rfl rfl ?_
        refine x_iadd hm rfl ?_
        rw [jI_add]
        refine x_iload_n hm rfl rfl ?_
        refine x_iast hm rfl (sI rfl (by omega) (by decide)) ?_
        refine x_iconst hm rfl (v := nI 1) (by decide) ?_
        refine x_iret hm rfl rfl (by first | rfl | exact bI_nar | decide) ?_
        first
          | exact ⟨_, _, rfl, rfl, (Sf.spot hs hq).inv hI⟩
          | exact ⟨_, _, rfl, rfl, r1.2.inv hI⟩
          | exact ⟨_, _, rfl, rfl, r2.2.inv hI⟩
          | exact ⟨_, _, rfl, rfl, r3.2.inv hI⟩
          | exact ⟨_, _, rfl, rfl, r4.2.inv hI⟩
          | exact ⟨_, _, rfl, rfl, r5.2.inv hI⟩
          | exact ⟨_, _, rfl, rfl, r6.2.inv hI⟩
          | exact ⟨_, _, rfl, rfl, r7.2.inv hI⟩
          | exact ⟨_, _, rfl, rfl, r8.2.inv hI⟩
          | exact ⟨_, _, rfl, rfl, r9.2.inv hI⟩
          | exact ⟨_, _, rfl, rfl, r10.2.inv hI⟩
          | exact ⟨_, _, rfl, rfl, r11.2.inv hI⟩
          | exact ⟨_, _, rfl, rfl, r12.2.inv hI⟩
          | exact ⟨_, _, rfl, rfl, r13.2.inv hI⟩
          | exact ⟨_, _, rfl, rfl, r14.2.inv hI⟩
          | exact ⟨_, _, rfl, rfl, r15.2.inv hI⟩
          | exact ⟨_, _, rfl, rfl, r16.2.inv hI⟩
          | exact ⟨_, _, rfl, rfl, r17.2.inv hI⟩
          | exact ⟨_, _, rfl, rfl, r18.2.inv hI⟩
          | exact ⟨_, _, rfl, rfl, r19.2.inv hI⟩
      · refine x_aload_n hm rfl rfl ?_
        refine x_ldcI hm rfl (v := (-1000001 : Int32)) (by decide +kernel) ?_
        refine x_cVi hm rfl rfl (t135 (by decide +kernel)) (fun v5 M5 r5 => ?_)
        refine x_iret hm rfl rfl (by first | rfl | exact bI_nar | decide) ?_
        first
          | exact ⟨_, _, rfl, rfl, r5.2.inv hI⟩
          | exact ⟨_, _, rfl, rfl, (Sf.spot hs hq).inv hI⟩
          | exact ⟨_, _, rfl, rfl, r1.2.inv hI⟩
          | exact ⟨_, _, rfl, rfl, r2.2.inv hI⟩
          | exact ⟨_, _, rfl, rfl, r3.2.inv hI⟩
          | exact ⟨_, _, rfl, rfl, r4.2.inv hI⟩
          | exact ⟨_, _, rfl, rfl, r6.2.inv hI⟩
          | exact ⟨_, _, rfl, rfl, r7.2.inv hI⟩
          | exact ⟨_, _, rfl, rfl, r8.2.inv hI⟩
          | exact ⟨_, _, rfl, rfl, r9.2.inv hI⟩
          | exact ⟨_, _, rfl, rfl, r10.2.inv hI⟩
          | exact ⟨_, _, rfl, rfl, r11.2.inv hI⟩
          | exact ⟨_, _, rfl, rfl, r12.2.inv hI⟩
          | exact ⟨_, _, rfl, rfl, r13.2.inv hI⟩
          | exact ⟨_, _, rfl, rfl, r14.2.inv hI⟩
          | exact ⟨_, _, rfl, rfl, r15.2.inv hI⟩
          | exact ⟨_, _, rfl, rfl, r16.2.inv hI⟩
          | exact ⟨_, _, rfl, rfl, r17.2.inv hI⟩
          | exact ⟨_, _, rfl, rfl, r18.2.inv hI⟩
          | exact ⟨_, _, rfl, rfl, r19.2.inv hI⟩
theorem t233 {a1 a2 : Int32} (hI : Inv M) : ∃ v M', mT X 233 [.ref 66, .int a1, .int a2] (con M) (some (.int v)) (con M') ∧ Iq M M' := by
  refine ti_of (row := _) rfl (Nat.le_of_ble_eq_true rfl) ?_
  have hm : mMet 233 = some _ := rfl
  refine x_iload_n hm rfl rfl ?_
  refine x_callS hm rfl rfl (t232) ?_
  refine x_if_eq hm rfl (t := 14) rfl (fun h1 => ?_) (fun h1 => ?_)
  · refine x_aload_n hm rfl rfl ?_
    refine x_ldcI hm rfl (v := (-1000001 : Int32)) (by decide +kernel) ?_
    refine x_cVi hm rfl rfl (t135 (by decide +kernel)) (fun v2 M2 r2 => ?_)
    refine x_iret hm rfl rfl (by first | rfl | exact bI_nar | decide) ?_
    first
      | exact ⟨_, _, rfl, rfl, r2.2.iq hI⟩
      | exact ⟨_, _, rfl, rfl, Iq.rf hI⟩
      | exact ⟨_, _, rfl, rfl, r1.2.iq hI⟩
      | exact ⟨_, _, rfl, rfl, r3.2.iq hI⟩
      | exact ⟨_, _, rfl, rfl, r4.2.iq hI⟩
      | exact ⟨_, _, rfl, rfl, r5.2.iq hI⟩
      | exact ⟨_, _, rfl, rfl, r6.2.iq hI⟩
      | exact ⟨_, _, rfl, rfl, r7.2.iq hI⟩
      | exact ⟨_, _, rfl, rfl, r8.2.iq hI⟩
      | exact ⟨_, _, rfl, rfl, r9.2.iq hI⟩
      | exact ⟨_, _, rfl, rfl, r10.2.iq hI⟩
      | exact ⟨_, _, rfl, rfl, r11.2.iq hI⟩
      | exact ⟨_, _, rfl, rfl, r12.2.iq hI⟩
      | exact ⟨_, _, rfl, rfl, r13.2.iq hI⟩
      | exact ⟨_, _, rfl, rfl, r14.2.iq hI⟩
      | exact ⟨_, _, rfl, rfl, r15.2.iq hI⟩
      | exact ⟨_, _, rfl, rfl, r16.2.iq hI⟩
      | exact ⟨_, _, rfl, rfl, r17.2.iq hI⟩
      | exact ⟨_, _, rfl, rfl, r18.2.iq hI⟩
      | exact ⟨_, _, rfl, rfl, r19.2.iq hI⟩
  · obtain ⟨s, hs, rfl⟩ := le_k (by omega) (bI_ne0 h1)
    refine x_iload_n hm rfl rfl ?_
    refine x_callS hm rfl rfl (t157) ?_
    refine x_if_ne hm rfl (t := 21) rfl (fun h3 => ?_) (fun h3 => ?_)
    · refine x_aload_n hm rfl rfl ?_
      refine x_getf hm rfl (gR rfl rfl) ?_
      refine x_iconst hm rfl (v := nI 4) (by decide) ?_
      refine x_iload_n hm rfl rfl ?_
      refine x_iadd hm rfl ?_
      rw [jI_add]
      refine x_iald hm rfl (lI rfl (by omega) (by decide)) ?_
      have hc2 : okx 2 (M 67 (4 + s)) := by
        have := hI.1 67 (4 + s)
        rwa [kd_s s hs] at this
      generalize M 67 (4 + s) = c at hc2 ⊢
      refine x_istore_n hm rfl rfl ?_
      refine x_iload_n hm rfl rfl ?_
      refine x_if_ge hm rfl (t := 41) rfl (fun h4 => ?_) (fun h4 => ?_)
      · obtain ⟨k, hk, rfl⟩ := (ok2 hc2).resolve_left (fun e => by subst e; exact absurd h4 (by decide))
        refine x_aload_n hm rfl rfl ?_
        refine x_iload_n hm rfl rfl ?_
        refine x_iconst hm rfl (v := nI 0) (by decide) ?_
        refine x_callV hm rfl rfl (t141 (by omega) (by omega)) ?_
        refine x_iload_n hm rfl rfl ?_
        refine x_cSe hm rfl rfl (t147) (fun v5 r5 => ?_)
        refine x_if_eq hm rfl (t := 58) rfl (fun h6 => ?_) (fun h6 => ?_)
        · refine x_aload_n hm rfl rfl ?_
          refine x_ldc_wI hm rfl (v := (-1000003 : Int32)) (by decide) ?_
          refine x_cVi hm rfl rfl (t135 (by decide +kernel)) (fun v7 M7 r7 => ?_)
          refine x_iret hm rfl rfl (by first | rfl | exact bI_nar | decide) ?_
          first
            | exact ⟨_, _, rfl, rfl, r7.2.iq hI⟩
            | exact ⟨_, _, rfl, rfl, Iq.rf hI⟩
            | exact ⟨_, _, rfl, rfl, r5.2.iq hI⟩
            | exact ⟨_, _, rfl, rfl, r1.2.iq hI⟩
            | exact ⟨_, _, rfl, rfl, r2.2.iq hI⟩
            | exact ⟨_, _, rfl, rfl, r3.2.iq hI⟩
            | exact ⟨_, _, rfl, rfl, r4.2.iq hI⟩
            | exact ⟨_, _, rfl, rfl, r6.2.iq hI⟩
            | exact ⟨_, _, rfl, rfl, r8.2.iq hI⟩
            | exact ⟨_, _, rfl, rfl, r9.2.iq hI⟩
            | exact ⟨_, _, rfl, rfl, r10.2.iq hI⟩
            | exact ⟨_, _, rfl, rfl, r11.2.iq hI⟩
            | exact ⟨_, _, rfl, rfl, r12.2.iq hI⟩
            | exact ⟨_, _, rfl, rfl, r13.2.iq hI⟩
            | exact ⟨_, _, rfl, rfl, r14.2.iq hI⟩
            | exact ⟨_, _, rfl, rfl, r15.2.iq hI⟩
            | exact ⟨_, _, rfl, rfl, r16.2.iq hI⟩
            | exact ⟨_, _, rfl, rfl, r17.2.iq hI⟩
            | exact ⟨_, _, rfl, rfl, r18.2.iq hI⟩
            | exact ⟨_, _, rfl, rfl, r19.2.iq hI⟩
        · refine x_iload_n hm rfl rfl ?_
          refine x_goto hm rfl (t := 65) rfl ?_
          refine x_iret hm rfl rfl (by first | rfl | exact bI_nar | decide) ?_
          first
            | exact ⟨_, _, rfl, rfl, r5.2.iq hI⟩
            | exact ⟨_, _, rfl, rfl, Iq.rf hI⟩
            | exact ⟨_, _, rfl, rfl, r1.2.iq hI⟩
            | exact ⟨_, _, rfl, rfl, r2.2.iq hI⟩
            | exact ⟨_, _, rfl, rfl, r3.2.iq hI⟩
            | exact ⟨_, _, rfl, rfl, r4.2.iq hI⟩
            | exact ⟨_, _, rfl, rfl, r6.2.iq hI⟩
            | exact ⟨_, _, rfl, rfl, r7.2.iq hI⟩
            | exact ⟨_, _, rfl, rfl, r8.2.iq hI⟩
            | exact ⟨_, _, rfl, rfl, r9.2.iq hI⟩
            | exact ⟨_, _, rfl, rfl, r10.2.iq hI⟩
            | exact ⟨_, _, rfl, rfl, r11.2.iq hI⟩
            | exact ⟨_, _, rfl, rfl, r12.2.iq hI⟩
            | exact ⟨_, _, rfl, rfl, r13.2.iq hI⟩
            | exact ⟨_, _, rfl, rfl, r14.2.iq hI⟩
            | exact ⟨_, _, rfl, rfl, r15.2.iq hI⟩
            | exact ⟨_, _, rfl, rfl, r16.2.iq hI⟩
            | exact ⟨_, _, rfl, rfl, r17.2.iq hI⟩
            | exact ⟨_, _, rfl, rfl, r18.2.iq hI⟩
            | exact ⟨_, _, rfl, rfl, r19.2.iq hI⟩
      · refine x_aload_n hm rfl rfl ?_
        refine x_ldcI hm rfl (v := (-1000006 : Int32)) (by decide +kernel) ?_
        refine x_cVi hm rfl rfl (t135 (by decide +kernel)) (fun v8 M8 r8 => ?_)
        refine x_iret hm rfl rfl (by first | rfl | exact bI_nar | decide) ?_
        first
          | exact ⟨_, _, rfl, rfl, r8.2.iq hI⟩
          | exact ⟨_, _, rfl, rfl, Iq.rf hI⟩
          | exact ⟨_, _, rfl, rfl, r1.2.iq hI⟩
          | exact ⟨_, _, rfl, rfl, r2.2.iq hI⟩
          | exact ⟨_, _, rfl, rfl, r3.2.iq hI⟩
          | exact ⟨_, _, rfl, rfl, r4.2.iq hI⟩
          | exact ⟨_, _, rfl, rfl, r5.2.iq hI⟩
          | exact ⟨_, _, rfl, rfl, r6.2.iq hI⟩
          | exact ⟨_, _, rfl, rfl, r7.2.iq hI⟩
          | exact ⟨_, _, rfl, rfl, r9.2.iq hI⟩
          | exact ⟨_, _, rfl, rfl, r10.2.iq hI⟩
          | exact ⟨_, _, rfl, rfl, r11.2.iq hI⟩
          | exact ⟨_, _, rfl, rfl, r12.2.iq hI⟩
          | exact ⟨_, _, rfl, rfl, r13.2.iq hI⟩
          | exact ⟨_, _, rfl, rfl, r14.2.iq hI⟩
          | exact ⟨_, _, rfl, rfl, r15.2.iq hI⟩
          | exact ⟨_, _, rfl, rfl, r16.2.iq hI⟩
          | exact ⟨_, _, rfl, rfl, r17.2.iq hI⟩
          | exact ⟨_, _, rfl, rfl, r18.2.iq hI⟩
          | exact ⟨_, _, rfl, rfl, r19.2.iq hI⟩
    · refine x_aload_n hm rfl rfl ?_
      refine x_ldcI hm rfl (v := (-1000001 : Int32)) (by decide +kernel) ?_
      refine x_cVi hm rfl rfl (t135 (by decide +kernel)) (fun v9 M9 r9 => ?_)
      refine x_iret hm rfl rfl (by first | rfl | exact bI_nar | decide) ?_
      first
        | exact ⟨_, _, rfl, rfl, r9.2.iq hI⟩
        | exact ⟨_, _, rfl, rfl, Iq.rf hI⟩
        | exact ⟨_, _, rfl, rfl, r1.2.iq hI⟩
        | exact ⟨_, _, rfl, rfl, r2.2.iq hI⟩
        | exact ⟨_, _, rfl, rfl, r3.2.iq hI⟩
        | exact ⟨_, _, rfl, rfl, r4.2.iq hI⟩
        | exact ⟨_, _, rfl, rfl, r5.2.iq hI⟩
        | exact ⟨_, _, rfl, rfl, r6.2.iq hI⟩
        | exact ⟨_, _, rfl, rfl, r7.2.iq hI⟩
        | exact ⟨_, _, rfl, rfl, r8.2.iq hI⟩
        | exact ⟨_, _, rfl, rfl, r10.2.iq hI⟩
        | exact ⟨_, _, rfl, rfl, r11.2.iq hI⟩
        | exact ⟨_, _, rfl, rfl, r12.2.iq hI⟩
        | exact ⟨_, _, rfl, rfl, r13.2.iq hI⟩
        | exact ⟨_, _, rfl, rfl, r14.2.iq hI⟩
        | exact ⟨_, _, rfl, rfl, r15.2.iq hI⟩
        | exact ⟨_, _, rfl, rfl, r16.2.iq hI⟩
        | exact ⟨_, _, rfl, rfl, r17.2.iq hI⟩
        | exact ⟨_, _, rfl, rfl, r18.2.iq hI⟩
        | exact ⟨_, _, rfl, rfl, r19.2.iq hI⟩
theorem t236 {a1 a2 : Int32} : ∃ v, mT X 236 [.int a1, .int a2] (con M) (some (.int v)) (con M) ∧ True := by
  refine te_of (row := _) rfl (Nat.le_of_ble_eq_true rfl) ?_
  have hm : mMet 236 = some _ := rfl
  refine x_iload_n hm rfl rfl ?_
  refine x_bipush hm rfl (v := nI 8) (by decide) ?_
  refine x_icmp_ne hm rfl (t := 11) rfl (fun h1 => ?_) (fun h1 => ?_)
  · refine x_iload_n hm rfl rfl ?_
    refine x_bipush hm rfl (v := nI 16) (by decide) ?_
    refine x_icmp_ne hm rfl (t := 22) rfl (fun h2 => ?_) (fun h2 => ?_)
    · refine x_iload_n hm rfl rfl ?_
      refine x_iret hm rfl rfl (by first | rfl | exact bI_nar | decide) ?_
      exact ⟨_, rfl, rfl, trivial⟩
    · refine x_iload_n hm rfl rfl ?_
      refine x_i2s hm rfl ?_
      refine x_goto hm rfl (t := 23) rfl ?_
      refine x_iret hm rfl rfl (by first | rfl | exact bI_nar | decide) ?_
      exact ⟨_, rfl, rfl, trivial⟩
  · refine x_iload_n hm rfl rfl ?_
    refine x_i2b hm rfl ?_
    refine x_goto hm rfl (t := 23) rfl ?_
    refine x_iret hm rfl rfl (by first | rfl | exact bI_nar | decide) ?_
    exact ⟨_, rfl, rfl, trivial⟩
theorem Sf.w76 {s : Nat} {v : Int32} : Sf M (mput M 76 s v) := Sf.put0 (kd76 _) (by decide) (by decide)
theorem Sf.w78 {s : Nat} {v : Int32} : Sf M (mput M 78 s v) := Sf.put0 (kd78 _) (by decide) (by decide)
theorem Sf.w79 {s : Nat} {v : Int32} : Sf M (mput M 79 s v) := Sf.put0 (kd79 _) (by decide) (by decide)
theorem Sf.w77 {s : Nat} {v : Int32} (hv : okx 5 v) : Sf M (mput M 77 s v) := Sf.put (show okx (kd 77 s) v from hv) (by decide) (fun e => absurd e (by decide))
theorem Wf.size (hW : Wf M) (s : Nat) : ∃ z, z ≤ 40 ∧ M 77 s = nI z := ok5 (show okx 5 (M 77 s) from hW 77 s)
theorem l234 {s : Nat} {a2 a3 : Int32} (hs : s ≤ 3) : ∀ (n k : Nat) (M1 : mM), 40 - k < n → k ≤ 40 → Sf M M1 → mEv X (QI (fun _ M' => Sf M M')) 234 86 [some (.ref 66), some (.int (nI s)), some (.int a2), some (.int a3), some (.int (nI k))] [] (con M1) := by
  have hm : mMet 234 = some _ := rfl
  intro n
  induction n with
  | zero =>
    intro k M1 hkn hkb hS
    omega
  | succ n ih =>
    intro k M1 hkn hkb hS
    refine x_iload hm rfl rfl ?_
    refine x_bipush hm rfl (v := nI 40) (by decide) ?_
    refine x_icmp_ge hm rfl (t := 112) rfl (fun h1 => ?_) (fun h1 => ?_)
    · refine x_aload_n hm rfl rfl ?_
      refine x_getf hm rfl (gR rfl rfl) ?_
      refine x_iload_n hm rfl rfl ?_
      refine x_iald hm rfl (lI rfl (by omega) (by decide)) ?_
      refine x_iret hm rfl rfl (by first | rfl | exact bI_nar | decide) ?_
      exact ⟨_, _, rfl, rfl, hS⟩
    · have hk : k < 40 := Nat.lt_of_not_le fun h => h1 (nI_le h (by omega))
      refine x_aload_n hm rfl rfl ?_
      refine x_getf hm rfl (gR rfl rfl) ?_
      refine x_bipush hm rfl (v := nI 40) (by decide) ?_
      refine x_iload_n hm rfl rfl ?_
      refine x_imul hm rfl ?_
      rw [jI_mul]
      refine x_iload hm rfl rfl ?_
      refine x_iadd hm rfl ?_
      rw [jI_add]
      refine x_iconst hm rfl (v := nI 0) (by decide) ?_
      refine x_iast hm rfl (sI rfl (by omega) (by decide)) ?_
      refine x_iinc hm rfl rfl (v := nI 1) (by decide) rfl ?_
      rw [jI_add]
      refine x_goto hm rfl (t := 86) rfl ?_
      exact ih _ _ (by omega) (by omega) (hS.trans Sf.w78)
theorem t234 {a1 a2 a3 : Int32} (hI : Inv M) : ∃ v M', mT X 234 [.ref 66, .int a1, .int a2, .int a3] (con M) (some (.int v)) (con M') ∧ Inv M' := by
  refine ti_of (row := _) rfl (Nat.le_of_ble_eq_true rfl) ?_
  have hm : mMet 234 = some _ := rfl
  refine x_iload_n hm rfl rfl ?_
  refine x_callS hm rfl rfl (t210) ?_
  refine x_if_eq hm rfl (t := 29) rfl (fun h1 => ?_) (fun h1 => ?_)
  · refine x_aload_n hm rfl rfl ?_
    refine x_ldcI hm rfl (v := (-1000001 : Int32)) (by decide +kernel) ?_
    refine x_cVi hm rfl rfl (t135 (by decide +kernel)) (fun v2 M2 r2 => ?_)
    refine x_iret hm rfl rfl (by first | rfl | exact bI_nar | decide) ?_
    first
      | exact ⟨_, _, rfl, rfl, r2.2.inv hI⟩
      | exact ⟨_, _, rfl, rfl, r1.2.inv hI⟩
      | exact ⟨_, _, rfl, rfl, r3.2.inv hI⟩
      | exact ⟨_, _, rfl, rfl, r4.2.inv hI⟩
      | exact ⟨_, _, rfl, rfl, r5.2.inv hI⟩
      | exact ⟨_, _, rfl, rfl, r6.2.inv hI⟩
      | exact ⟨_, _, rfl, rfl, r7.2.inv hI⟩
      | exact ⟨_, _, rfl, rfl, r8.2.inv hI⟩
      | exact ⟨_, _, rfl, rfl, r9.2.inv hI⟩
      | exact ⟨_, _, rfl, rfl, r10.2.inv hI⟩
      | exact ⟨_, _, rfl, rfl, r11.2.inv hI⟩
      | exact ⟨_, _, rfl, rfl, r12.2.inv hI⟩
      | exact ⟨_, _, rfl, rfl, r13.2.inv hI⟩
      | exact ⟨_, _, rfl, rfl, r14.2.inv hI⟩
      | exact ⟨_, _, rfl, rfl, r15.2.inv hI⟩
      | exact ⟨_, _, rfl, rfl, r16.2.inv hI⟩
      | exact ⟨_, _, rfl, rfl, r17.2.inv hI⟩
      | exact ⟨_, _, rfl, rfl, r18.2.inv hI⟩
      | exact ⟨_, _, rfl, rfl, r19.2.inv hI⟩
      | exact ⟨_, _, rfl, rfl, r20.2.inv hI⟩
      | exact ⟨_, _, rfl, rfl, r21.2.inv hI⟩
      | exact ⟨_, _, rfl, rfl, r22.2.inv hI⟩
      | exact ⟨_, _, rfl, rfl, r23.2.inv hI⟩
      | exact ⟨_, _, rfl, rfl, r24.2.inv hI⟩
      | exact ⟨_, _, rfl, rfl, r25.2.inv hI⟩
      | exact ⟨_, _, rfl, rfl, r26.2.inv hI⟩
      | exact ⟨_, _, rfl, rfl, r27.2.inv hI⟩
      | exact ⟨_, _, rfl, rfl, r28.2.inv hI⟩
      | exact ⟨_, _, rfl, rfl, r29.2.inv hI⟩
      | exact ⟨_, _, rfl, rfl, r30.2.inv hI⟩
      | exact ⟨_, _, rfl, rfl, r31.2.inv hI⟩
      | exact ⟨_, _, rfl, rfl, r32.2.inv hI⟩
      | exact ⟨_, _, rfl, rfl, r33.2.inv hI⟩
      | exact ⟨_, _, rfl, rfl, r34.2.inv hI⟩
      | exact ⟨_, _, rfl, rfl, r35.2.inv hI⟩
      | exact ⟨_, _, rfl, rfl, r36.2.inv hI⟩
      | exact ⟨_, _, rfl, rfl, r37.2.inv hI⟩
      | exact ⟨_, _, rfl, rfl, r38.2.inv hI⟩
      | exact ⟨_, _, rfl, rfl, r39.2.inv hI⟩
  · obtain ⟨s, hs, rfl⟩ := le_k (by omega) (bI_ne0 h1)
    refine x_iload_n hm rfl rfl ?_
    refine x_if_eq hm rfl (t := 36) rfl (fun h3 => ?_) (fun h3 => ?_)
    · refine x_iload_n hm rfl rfl ?_
      refine x_if_ge hm rfl (t := 48) rfl (fun h4 => ?_) (fun h4 => ?_)
      · have hn0 : ¬ a3 < 0 := fun q => Int32.not_lt.mpr h4 q
        refine x_iload_n hm rfl rfl ?_
        refine x_bipush hm rfl (v := nI 40) (by decide) ?_
        refine x_icmp_le hm rfl (t := 61) rfl (fun h5 => ?_) (fun h5 => ?_)
        · obtain ⟨z, hz, rfl⟩ : ∃ z, z ≤ 40 ∧ a3 = nI z := by
            obtain ⟨z, hz, rfl⟩ := jI_of (v := a3) hn0
            exact ⟨z, (jI_le hz (by decide)).mp h5, rfl⟩
          refine x_aload_n hm rfl rfl ?_
          refine x_getf hm rfl (gR rfl rfl) ?_
          refine x_iload_n hm rfl rfl ?_
          refine x_iload_n hm rfl rfl ?_
          refine x_iast hm rfl (sI rfl (by omega) (by decide)) ?_
          refine x_aload_n hm rfl rfl ?_
          refine x_getf hm rfl (gR rfl rfl) ?_
          refine x_iload_n hm rfl rfl ?_
          refine x_iload_n hm rfl rfl ?_
          refine x_if_ne hm rfl (t := 81) rfl (fun h6 => ?_) (fun h6 => ?_)
          · refine x_iload_n hm rfl rfl ?_
            refine x_iast hm rfl (sI rfl (by omega) (by decide)) ?_
            refine x_iconst hm rfl (v := nI 0) (by decide) ?_
            refine x_istore hm rfl rfl ?_
            first
              | exact ev_inv hI (l234 hs _ 0 _ (Nat.lt_succ_self _) (Nat.zero_le _) (Sf.w76.trans (Sf.w77 (okI5 (by omega)))))
          · refine x_iconst hm rfl (v := nI 0) (by decide) ?_
            refine x_goto hm rfl (t := 82) rfl ?_
            refine x_iast hm rfl (sI rfl (by omega) (by decide)) ?_
            refine x_iconst hm rfl (v := nI 0) (by decide) ?_
            refine x_istore hm rfl rfl ?_
            first
              | exact ev_inv hI (l234 hs _ 0 _ (Nat.lt_succ_self _) (Nat.zero_le _) (Sf.w76.trans (Sf.w77 (okI5 (by omega)))))
        · refine x_aload_n hm rfl rfl ?_
          refine x_ldcI hm rfl (v := (-1000001 : Int32)) (by decide +kernel) ?_
          refine x_cVi hm rfl rfl (t135 (by decide +kernel)) (fun v7 M7 r7 => ?_)
          refine x_iret hm rfl rfl (by first | rfl | exact bI_nar | decide) ?_
          first
            | exact ⟨_, _, rfl, rfl, r7.2.inv hI⟩
            | exact ⟨_, _, rfl, rfl, r1.2.inv hI⟩
            | exact ⟨_, _, rfl, rfl, r2.2.inv hI⟩
            | exact ⟨_, _, rfl, rfl, r3.2.inv hI⟩
            | exact ⟨_, _, rfl, rfl, r4.2.inv hI⟩
            | exact ⟨_, _, rfl, rfl, r5.2.inv hI⟩
            | exact ⟨_, _, rfl, rfl, r6.2.inv hI⟩
            | exact ⟨_, _, rfl, rfl, r8.2.inv hI⟩
            | exact ⟨_, _, rfl, rfl, r9.2.inv hI⟩
            | exact ⟨_, _, rfl, rfl, r10.2.inv hI⟩
            | exact ⟨_, _, rfl, rfl, r11.2.inv hI⟩
            | exact ⟨_, _, rfl, rfl, r12.2.inv hI⟩
            | exact ⟨_, _, rfl, rfl, r13.2.inv hI⟩
            | exact ⟨_, _, rfl, rfl, r14.2.inv hI⟩
            | exact ⟨_, _, rfl, rfl, r15.2.inv hI⟩
            | exact ⟨_, _, rfl, rfl, r16.2.inv hI⟩
            | exact ⟨_, _, rfl, rfl, r17.2.inv hI⟩
            | exact ⟨_, _, rfl, rfl, r18.2.inv hI⟩
            | exact ⟨_, _, rfl, rfl, r19.2.inv hI⟩
            | exact ⟨_, _, rfl, rfl, r20.2.inv hI⟩
            | exact ⟨_, _, rfl, rfl, r21.2.inv hI⟩
            | exact ⟨_, _, rfl, rfl, r22.2.inv hI⟩
            | exact ⟨_, _, rfl, rfl, r23.2.inv hI⟩
            | exact ⟨_, _, rfl, rfl, r24.2.inv hI⟩
            | exact ⟨_, _, rfl, rfl, r25.2.inv hI⟩
            | exact ⟨_, _, rfl, rfl, r26.2.inv hI⟩
            | exact ⟨_, _, rfl, rfl, r27.2.inv hI⟩
            | exact ⟨_, _, rfl, rfl, r28.2.inv hI⟩
            | exact ⟨_, _, rfl, rfl, r29.2.inv hI⟩
            | exact ⟨_, _, rfl, rfl, r30.2.inv hI⟩
            | exact ⟨_, _, rfl, rfl, r31.2.inv hI⟩
            | exact ⟨_, _, rfl, rfl, r32.2.inv hI⟩
            | exact ⟨_, _, rfl, rfl, r33.2.inv hI⟩
            | exact ⟨_, _, rfl, rfl, r34.2.inv hI⟩
            | exact ⟨_, _, rfl, rfl, r35.2.inv hI⟩
            | exact ⟨_, _, rfl, rfl, r36.2.inv hI⟩
            | exact ⟨_, _, rfl, rfl, r37.2.inv hI⟩
            | exact ⟨_, _, rfl, rfl, r38.2.inv hI⟩
            | exact ⟨_, _, rfl, rfl, r39.2.inv hI⟩
      · refine x_aload_n hm rfl rfl ?_
        refine x_ldc_wI hm rfl (v := (-1000007 : Int32)) (by decide) ?_
        refine x_cVi hm rfl rfl (t135 (by decide +kernel)) (fun v8 M8 r8 => ?_)
        refine x_iret hm rfl rfl (by first | rfl | exact bI_nar | decide) ?_
        first
          | exact ⟨_, _, rfl, rfl, r8.2.inv hI⟩
          | exact ⟨_, _, rfl, rfl, r1.2.inv hI⟩
          | exact ⟨_, _, rfl, rfl, r2.2.inv hI⟩
          | exact ⟨_, _, rfl, rfl, r3.2.inv hI⟩
          | exact ⟨_, _, rfl, rfl, r4.2.inv hI⟩
          | exact ⟨_, _, rfl, rfl, r5.2.inv hI⟩
          | exact ⟨_, _, rfl, rfl, r6.2.inv hI⟩
          | exact ⟨_, _, rfl, rfl, r7.2.inv hI⟩
          | exact ⟨_, _, rfl, rfl, r9.2.inv hI⟩
          | exact ⟨_, _, rfl, rfl, r10.2.inv hI⟩
          | exact ⟨_, _, rfl, rfl, r11.2.inv hI⟩
          | exact ⟨_, _, rfl, rfl, r12.2.inv hI⟩
          | exact ⟨_, _, rfl, rfl, r13.2.inv hI⟩
          | exact ⟨_, _, rfl, rfl, r14.2.inv hI⟩
          | exact ⟨_, _, rfl, rfl, r15.2.inv hI⟩
          | exact ⟨_, _, rfl, rfl, r16.2.inv hI⟩
          | exact ⟨_, _, rfl, rfl, r17.2.inv hI⟩
          | exact ⟨_, _, rfl, rfl, r18.2.inv hI⟩
          | exact ⟨_, _, rfl, rfl, r19.2.inv hI⟩
          | exact ⟨_, _, rfl, rfl, r20.2.inv hI⟩
          | exact ⟨_, _, rfl, rfl, r21.2.inv hI⟩
          | exact ⟨_, _, rfl, rfl, r22.2.inv hI⟩
          | exact ⟨_, _, rfl, rfl, r23.2.inv hI⟩
          | exact ⟨_, _, rfl, rfl, r24.2.inv hI⟩
          | exact ⟨_, _, rfl, rfl, r25.2.inv hI⟩
          | exact ⟨_, _, rfl, rfl, r26.2.inv hI⟩
          | exact ⟨_, _, rfl, rfl, r27.2.inv hI⟩
          | exact ⟨_, _, rfl, rfl, r28.2.inv hI⟩
          | exact ⟨_, _, rfl, rfl, r29.2.inv hI⟩
          | exact ⟨_, _, rfl, rfl, r30.2.inv hI⟩
          | exact ⟨_, _, rfl, rfl, r31.2.inv hI⟩
          | exact ⟨_, _, rfl, rfl, r32.2.inv hI⟩
          | exact ⟨_, _, rfl, rfl, r33.2.inv hI⟩
          | exact ⟨_, _, rfl, rfl, r34.2.inv hI⟩
          | exact ⟨_, _, rfl, rfl, r35.2.inv hI⟩
          | exact ⟨_, _, rfl, rfl, r36.2.inv hI⟩
          | exact ⟨_, _, rfl, rfl, r37.2.inv hI⟩
          | exact ⟨_, _, rfl, rfl, r38.2.inv hI⟩
          | exact ⟨_, _, rfl, rfl, r39.2.inv hI⟩
    · refine x_iload_n hm rfl rfl ?_
      refine x_bipush hm rfl (v := nI 8) (by decide) ?_
      refine x_icmp_eq hm rfl (t := 36) rfl (fun h9 => ?_) (fun h9 => ?_)
      · refine x_iload_n hm rfl rfl ?_
        refine x_if_ge hm rfl (t := 48) rfl (fun h10 => ?_) (fun h10 => ?_)
        · have hn0 : ¬ a3 < 0 := fun q => Int32.not_lt.mpr h10 q
          refine x_iload_n hm rfl rfl ?_
          refine x_bipush hm rfl (v := nI 40) (by decide) ?_
          refine x_icmp_le hm rfl (t := 61) rfl (fun h11 => ?_) (fun h11 => ?_)
          · obtain ⟨z, hz, rfl⟩ : ∃ z, z ≤ 40 ∧ a3 = nI z := by
              obtain ⟨z, hz, rfl⟩ := jI_of (v := a3) hn0
              exact ⟨z, (jI_le hz (by decide)).mp h11, rfl⟩
            refine x_aload_n hm rfl rfl ?_
            refine x_getf hm rfl (gR rfl rfl) ?_
            refine x_iload_n hm rfl rfl ?_
            refine x_iload_n hm rfl rfl ?_
            refine x_iast hm rfl (sI rfl (by omega) (by decide)) ?_
            refine x_aload_n hm rfl rfl ?_
            refine x_getf hm rfl (gR rfl rfl) ?_
            refine x_iload_n hm rfl rfl ?_
            refine x_iload_n hm rfl rfl ?_
            refine x_if_ne hm rfl (t := 81) rfl (fun h12 => ?_) (fun h12 => ?_)
            · refine x_iload_n hm rfl rfl ?_
              refine x_iast hm rfl (sI rfl (by omega) (by decide)) ?_
              refine x_iconst hm rfl (v := nI 0) (by decide) ?_
              refine x_istore hm rfl rfl ?_
              first
                | exact ev_inv hI (l234 hs _ 0 _ (Nat.lt_succ_self _) (Nat.zero_le _) (Sf.w76.trans (Sf.w77 (okI5 (by omega)))))
            · refine x_iconst hm rfl (v := nI 0) (by decide) ?_
              refine x_goto hm rfl (t := 82) rfl ?_
              refine x_iast hm rfl (sI rfl (by omega) (by decide)) ?_
              refine x_iconst hm rfl (v := nI 0) (by decide) ?_
              refine x_istore hm rfl rfl ?_
              first
                | exact ev_inv hI (l234 hs _ 0 _ (Nat.lt_succ_self _) (Nat.zero_le _) (Sf.w76.trans (Sf.w77 (okI5 (by omega)))))
          · refine x_aload_n hm rfl rfl ?_
            refine x_ldcI hm rfl (v := (-1000001 : Int32)) (by decide +kernel) ?_
            refine x_cVi hm rfl rfl (t135 (by decide +kernel)) (fun v13 M13 r13 => ?_)
            refine x_iret hm rfl rfl (by first | rfl | exact bI_nar | decide) ?_
            first
              | exact ⟨_, _, rfl, rfl, r13.2.inv hI⟩
              | exact ⟨_, _, rfl, rfl, r1.2.inv hI⟩
              | exact ⟨_, _, rfl, rfl, r2.2.inv hI⟩
              | exact ⟨_, _, rfl, rfl, r3.2.inv hI⟩
              | exact ⟨_, _, rfl, rfl, r4.2.inv hI⟩
              | exact ⟨_, _, rfl, rfl, r5.2.inv hI⟩
              | exact ⟨_, _, rfl, rfl, r6.2.inv hI⟩
              | exact ⟨_, _, rfl, rfl, r7.2.inv hI⟩
              | exact ⟨_, _, rfl, rfl, r8.2.inv hI⟩
              | exact ⟨_, _, rfl, rfl, r9.2.inv hI⟩
              | exact ⟨_, _, rfl, rfl, r10.2.inv hI⟩
              | exact ⟨_, _, rfl, rfl, r11.2.inv hI⟩
              | exact ⟨_, _, rfl, rfl, r12.2.inv hI⟩
              | exact ⟨_, _, rfl, rfl, r14.2.inv hI⟩
              | exact ⟨_, _, rfl, rfl, r15.2.inv hI⟩
              | exact ⟨_, _, rfl, rfl, r16.2.inv hI⟩
              | exact ⟨_, _, rfl, rfl, r17.2.inv hI⟩
              | exact ⟨_, _, rfl, rfl, r18.2.inv hI⟩
              | exact ⟨_, _, rfl, rfl, r19.2.inv hI⟩
              | exact ⟨_, _, rfl, rfl, r20.2.inv hI⟩
              | exact ⟨_, _, rfl, rfl, r21.2.inv hI⟩
              | exact ⟨_, _, rfl, rfl, r22.2.inv hI⟩
              | exact ⟨_, _, rfl, rfl, r23.2.inv hI⟩
              | exact ⟨_, _, rfl, rfl, r24.2.inv hI⟩
              | exact ⟨_, _, rfl, rfl, r25.2.inv hI⟩
              | exact ⟨_, _, rfl, rfl, r26.2.inv hI⟩
              | exact ⟨_, _, rfl, rfl, r27.2.inv hI⟩
              | exact ⟨_, _, rfl, rfl, r28.2.inv hI⟩
              | exact ⟨_, _, rfl, rfl, r29.2.inv hI⟩
              | exact ⟨_, _, rfl, rfl, r30.2.inv hI⟩
              | exact ⟨_, _, rfl, rfl, r31.2.inv hI⟩
              | exact ⟨_, _, rfl, rfl, r32.2.inv hI⟩
              | exact ⟨_, _, rfl, rfl, r33.2.inv hI⟩
              | exact ⟨_, _, rfl, rfl, r34.2.inv hI⟩
              | exact ⟨_, _, rfl, rfl, r35.2.inv hI⟩
              | exact ⟨_, _, rfl, rfl, r36.2.inv hI⟩
              | exact ⟨_, _, rfl, rfl, r37.2.inv hI⟩
              | exact ⟨_, _, rfl, rfl, r38.2.inv hI⟩
              | exact ⟨_, _, rfl, rfl, r39.2.inv hI⟩
        · refine x_aload_n hm rfl rfl ?_
          refine x_ldc_wI hm rfl (v := (-1000007 : Int32)) (by decide) ?_
          refine x_cVi hm rfl rfl (t135 (by decide +kernel)) (fun v14 M14 r14 => ?_)
          refine x_iret hm rfl rfl (by first | rfl | exact bI_nar | decide) ?_
          first
            | exact ⟨_, _, rfl, rfl, r14.2.inv hI⟩
            | exact ⟨_, _, rfl, rfl, r1.2.inv hI⟩
            | exact ⟨_, _, rfl, rfl, r2.2.inv hI⟩
            | exact ⟨_, _, rfl, rfl, r3.2.inv hI⟩
            | exact ⟨_, _, rfl, rfl, r4.2.inv hI⟩
            | exact ⟨_, _, rfl, rfl, r5.2.inv hI⟩
            | exact ⟨_, _, rfl, rfl, r6.2.inv hI⟩
            | exact ⟨_, _, rfl, rfl, r7.2.inv hI⟩
            | exact ⟨_, _, rfl, rfl, r8.2.inv hI⟩
            | exact ⟨_, _, rfl, rfl, r9.2.inv hI⟩
            | exact ⟨_, _, rfl, rfl, r10.2.inv hI⟩
            | exact ⟨_, _, rfl, rfl, r11.2.inv hI⟩
            | exact ⟨_, _, rfl, rfl, r12.2.inv hI⟩
            | exact ⟨_, _, rfl, rfl, r13.2.inv hI⟩
            | exact ⟨_, _, rfl, rfl, r15.2.inv hI⟩
            | exact ⟨_, _, rfl, rfl, r16.2.inv hI⟩
            | exact ⟨_, _, rfl, rfl, r17.2.inv hI⟩
            | exact ⟨_, _, rfl, rfl, r18.2.inv hI⟩
            | exact ⟨_, _, rfl, rfl, r19.2.inv hI⟩
            | exact ⟨_, _, rfl, rfl, r20.2.inv hI⟩
            | exact ⟨_, _, rfl, rfl, r21.2.inv hI⟩
            | exact ⟨_, _, rfl, rfl, r22.2.inv hI⟩
            | exact ⟨_, _, rfl, rfl, r23.2.inv hI⟩
            | exact ⟨_, _, rfl, rfl, r24.2.inv hI⟩
            | exact ⟨_, _, rfl, rfl, r25.2.inv hI⟩
            | exact ⟨_, _, rfl, rfl, r26.2.inv hI⟩
            | exact ⟨_, _, rfl, rfl, r27.2.inv hI⟩
            | exact ⟨_, _, rfl, rfl, r28.2.inv hI⟩
            | exact ⟨_, _, rfl, rfl, r29.2.inv hI⟩
            | exact ⟨_, _, rfl, rfl, r30.2.inv hI⟩
            | exact ⟨_, _, rfl, rfl, r31.2.inv hI⟩
            | exact ⟨_, _, rfl, rfl, r32.2.inv hI⟩
            | exact ⟨_, _, rfl, rfl, r33.2.inv hI⟩
            | exact ⟨_, _, rfl, rfl, r34.2.inv hI⟩
            | exact ⟨_, _, rfl, rfl, r35.2.inv hI⟩
            | exact ⟨_, _, rfl, rfl, r36.2.inv hI⟩
            | exact ⟨_, _, rfl, rfl, r37.2.inv hI⟩
            | exact ⟨_, _, rfl, rfl, r38.2.inv hI⟩
            | exact ⟨_, _, rfl, rfl, r39.2.inv hI⟩
      · refine x_iload_n hm rfl rfl ?_
        refine x_bipush hm rfl (v := nI 16) (by decide) ?_
        refine x_icmp_eq hm rfl (t := 36) rfl (fun h15 => ?_) (fun h15 => ?_)
        · refine x_iload_n hm rfl rfl ?_
          refine x_if_ge hm rfl (t := 48) rfl (fun h16 => ?_) (fun h16 => ?_)
          · have hn0 : ¬ a3 < 0 := fun q => Int32.not_lt.mpr h16 q
            refine x_iload_n hm rfl rfl ?_
            refine x_bipush hm rfl (v := nI 40) (by decide) ?_
            refine x_icmp_le hm rfl (t := 61) rfl (fun h17 => ?_) (fun h17 => ?_)
            · obtain ⟨z, hz, rfl⟩ : ∃ z, z ≤ 40 ∧ a3 = nI z := by
                obtain ⟨z, hz, rfl⟩ := jI_of (v := a3) hn0
                exact ⟨z, (jI_le hz (by decide)).mp h17, rfl⟩
              refine x_aload_n hm rfl rfl ?_
              refine x_getf hm rfl (gR rfl rfl) ?_
              refine x_iload_n hm rfl rfl ?_
              refine x_iload_n hm rfl rfl ?_
              refine x_iast hm rfl (sI rfl (by omega) (by decide)) ?_
              refine x_aload_n hm rfl rfl ?_
              refine x_getf hm rfl (gR rfl rfl) ?_
              refine x_iload_n hm rfl rfl ?_
              refine x_iload_n hm rfl rfl ?_
              refine x_if_ne hm rfl (t := 81) rfl (fun h18 => ?_) (fun h18 => ?_)
              · refine x_iload_n hm rfl rfl ?_
                refine x_iast hm rfl (sI rfl (by omega) (by decide)) ?_
                refine x_iconst hm rfl (v := nI 0) (by decide) ?_
                refine x_istore hm rfl rfl ?_
                first
                  | exact ev_inv hI (l234 hs _ 0 _ (Nat.lt_succ_self _) (Nat.zero_le _) (Sf.w76.trans (Sf.w77 (okI5 (by omega)))))
              · refine x_iconst hm rfl (v := nI 0) (by decide) ?_
                refine x_goto hm rfl (t := 82) rfl ?_
                refine x_iast hm rfl (sI rfl (by omega) (by decide)) ?_
                refine x_iconst hm rfl (v := nI 0) (by decide) ?_
                refine x_istore hm rfl rfl ?_
                first
                  | exact ev_inv hI (l234 hs _ 0 _ (Nat.lt_succ_self _) (Nat.zero_le _) (Sf.w76.trans (Sf.w77 (okI5 (by omega)))))
            · refine x_aload_n hm rfl rfl ?_
              refine x_ldcI hm rfl (v := (-1000001 : Int32)) (by decide +kernel) ?_
              refine x_cVi hm rfl rfl (t135 (by decide +kernel)) (fun v19 M19 r19 => ?_)
              refine x_iret hm rfl rfl (by first | rfl | exact bI_nar | decide) ?_
              first
                | exact ⟨_, _, rfl, rfl, r19.2.inv hI⟩
                | exact ⟨_, _, rfl, rfl, r1.2.inv hI⟩
                | exact ⟨_, _, rfl, rfl, r2.2.inv hI⟩
                | exact ⟨_, _, rfl, rfl, r3.2.inv hI⟩
                | exact ⟨_, _, rfl, rfl, r4.2.inv hI⟩
                | exact ⟨_, _, rfl, rfl, r5.2.inv hI⟩
                | exact ⟨_, _, rfl, rfl, r6.2.inv hI⟩
                | exact ⟨_, _, rfl, rfl, r7.2.inv hI⟩
                | exact ⟨_, _, rfl, rfl, r8.2.inv hI⟩
                | exact ⟨_, _, rfl, rfl, r9.2.inv hI⟩
                | exact ⟨_, _, rfl, rfl, r10.2.inv hI⟩
                | exact ⟨_, _, rfl, rfl, r11.2.inv hI⟩
                | exact ⟨_, _, rfl, rfl, r12.2.inv hI⟩
                | exact ⟨_, _, rfl, rfl, r13.2.inv hI⟩
                | exact ⟨_, _, rfl, rfl, r14.2.inv hI⟩
                | exact ⟨_, _, rfl, rfl, r15.2.inv hI⟩
                | exact ⟨_, _, rfl, rfl, r16.2.inv hI⟩
                | exact ⟨_, _, rfl, rfl, r17.2.inv hI⟩
                | exact ⟨_, _, rfl, rfl, r18.2.inv hI⟩
                | exact ⟨_, _, rfl, rfl, r20.2.inv hI⟩
                | exact ⟨_, _, rfl, rfl, r21.2.inv hI⟩
                | exact ⟨_, _, rfl, rfl, r22.2.inv hI⟩
                | exact ⟨_, _, rfl, rfl, r23.2.inv hI⟩
                | exact ⟨_, _, rfl, rfl, r24.2.inv hI⟩
                | exact ⟨_, _, rfl, rfl, r25.2.inv hI⟩
                | exact ⟨_, _, rfl, rfl, r26.2.inv hI⟩
                | exact ⟨_, _, rfl, rfl, r27.2.inv hI⟩
                | exact ⟨_, _, rfl, rfl, r28.2.inv hI⟩
                | exact ⟨_, _, rfl, rfl, r29.2.inv hI⟩
                | exact ⟨_, _, rfl, rfl, r30.2.inv hI⟩
                | exact ⟨_, _, rfl, rfl, r31.2.inv hI⟩
                | exact ⟨_, _, rfl, rfl, r32.2.inv hI⟩
                | exact ⟨_, _, rfl, rfl, r33.2.inv hI⟩
                | exact ⟨_, _, rfl, rfl, r34.2.inv hI⟩
                | exact ⟨_, _, rfl, rfl, r35.2.inv hI⟩
                | exact ⟨_, _, rfl, rfl, r36.2.inv hI⟩
                | exact ⟨_, _, rfl, rfl, r37.2.inv hI⟩
                | exact ⟨_, _, rfl, rfl, r38.2.inv hI⟩
                | exact ⟨_, _, rfl, rfl, r39.2.inv hI⟩
          · refine x_aload_n hm rfl rfl ?_
            refine x_ldc_wI hm rfl (v := (-1000007 : Int32)) (by decide) ?_
            refine x_cVi hm rfl rfl (t135 (by decide +kernel)) (fun v20 M20 r20 => ?_)
            refine x_iret hm rfl rfl (by first | rfl | exact bI_nar | decide) ?_
            first
              | exact ⟨_, _, rfl, rfl, r20.2.inv hI⟩
              | exact ⟨_, _, rfl, rfl, r1.2.inv hI⟩
              | exact ⟨_, _, rfl, rfl, r2.2.inv hI⟩
              | exact ⟨_, _, rfl, rfl, r3.2.inv hI⟩
              | exact ⟨_, _, rfl, rfl, r4.2.inv hI⟩
              | exact ⟨_, _, rfl, rfl, r5.2.inv hI⟩
              | exact ⟨_, _, rfl, rfl, r6.2.inv hI⟩
              | exact ⟨_, _, rfl, rfl, r7.2.inv hI⟩
              | exact ⟨_, _, rfl, rfl, r8.2.inv hI⟩
              | exact ⟨_, _, rfl, rfl, r9.2.inv hI⟩
              | exact ⟨_, _, rfl, rfl, r10.2.inv hI⟩
              | exact ⟨_, _, rfl, rfl, r11.2.inv hI⟩
              | exact ⟨_, _, rfl, rfl, r12.2.inv hI⟩
              | exact ⟨_, _, rfl, rfl, r13.2.inv hI⟩
              | exact ⟨_, _, rfl, rfl, r14.2.inv hI⟩
              | exact ⟨_, _, rfl, rfl, r15.2.inv hI⟩
              | exact ⟨_, _, rfl, rfl, r16.2.inv hI⟩
              | exact ⟨_, _, rfl, rfl, r17.2.inv hI⟩
              | exact ⟨_, _, rfl, rfl, r18.2.inv hI⟩
              | exact ⟨_, _, rfl, rfl, r19.2.inv hI⟩
              | exact ⟨_, _, rfl, rfl, r21.2.inv hI⟩
              | exact ⟨_, _, rfl, rfl, r22.2.inv hI⟩
              | exact ⟨_, _, rfl, rfl, r23.2.inv hI⟩
              | exact ⟨_, _, rfl, rfl, r24.2.inv hI⟩
              | exact ⟨_, _, rfl, rfl, r25.2.inv hI⟩
              | exact ⟨_, _, rfl, rfl, r26.2.inv hI⟩
              | exact ⟨_, _, rfl, rfl, r27.2.inv hI⟩
              | exact ⟨_, _, rfl, rfl, r28.2.inv hI⟩
              | exact ⟨_, _, rfl, rfl, r29.2.inv hI⟩
              | exact ⟨_, _, rfl, rfl, r30.2.inv hI⟩
              | exact ⟨_, _, rfl, rfl, r31.2.inv hI⟩
              | exact ⟨_, _, rfl, rfl, r32.2.inv hI⟩
              | exact ⟨_, _, rfl, rfl, r33.2.inv hI⟩
              | exact ⟨_, _, rfl, rfl, r34.2.inv hI⟩
              | exact ⟨_, _, rfl, rfl, r35.2.inv hI⟩
              | exact ⟨_, _, rfl, rfl, r36.2.inv hI⟩
              | exact ⟨_, _, rfl, rfl, r37.2.inv hI⟩
              | exact ⟨_, _, rfl, rfl, r38.2.inv hI⟩
              | exact ⟨_, _, rfl, rfl, r39.2.inv hI⟩
        · refine x_iload_n hm rfl rfl ?_
          refine x_bipush hm rfl (v := nI 32) (by decide) ?_
          refine x_icmp_eq hm rfl (t := 36) rfl (fun h21 => ?_) (fun h21 => ?_)
          · refine x_iload_n hm rfl rfl ?_
            refine x_if_ge hm rfl (t := 48) rfl (fun h22 => ?_) (fun h22 => ?_)
            · have hn0 : ¬ a3 < 0 := fun q => Int32.not_lt.mpr h22 q
              refine x_iload_n hm rfl rfl ?_
              refine x_bipush hm rfl (v := nI 40) (by decide) ?_
              refine x_icmp_le hm rfl (t := 61) rfl (fun h23 => ?_) (fun h23 => ?_)
              · obtain ⟨z, hz, rfl⟩ : ∃ z, z ≤ 40 ∧ a3 = nI z := by
                  obtain ⟨z, hz, rfl⟩ := jI_of (v := a3) hn0
                  exact ⟨z, (jI_le hz (by decide)).mp h23, rfl⟩
                refine x_aload_n hm rfl rfl ?_
                refine x_getf hm rfl (gR rfl rfl) ?_
                refine x_iload_n hm rfl rfl ?_
                refine x_iload_n hm rfl rfl ?_
                refine x_iast hm rfl (sI rfl (by omega) (by decide)) ?_
                refine x_aload_n hm rfl rfl ?_
                refine x_getf hm rfl (gR rfl rfl) ?_
                refine x_iload_n hm rfl rfl ?_
                refine x_iload_n hm rfl rfl ?_
                refine x_if_ne hm rfl (t := 81) rfl (fun h24 => ?_) (fun h24 => ?_)
                · refine x_iload_n hm rfl rfl ?_
                  refine x_iast hm rfl (sI rfl (by omega) (by decide)) ?_
                  refine x_iconst hm rfl (v := nI 0) (by decide) ?_
                  refine x_istore hm rfl rfl ?_
                  first
                    | exact ev_inv hI (l234 hs _ 0 _ (Nat.lt_succ_self _) (Nat.zero_le _) (Sf.w76.trans (Sf.w77 (okI5 (by omega)))))
                · refine x_iconst hm rfl (v := nI 0) (by decide) ?_
                  refine x_goto hm rfl (t := 82) rfl ?_
                  refine x_iast hm rfl (sI rfl (by omega) (by decide)) ?_
                  refine x_iconst hm rfl (v := nI 0) (by decide) ?_
                  refine x_istore hm rfl rfl ?_
                  first
                    | exact ev_inv hI (l234 hs _ 0 _ (Nat.lt_succ_self _) (Nat.zero_le _) (Sf.w76.trans (Sf.w77 (okI5 (by omega)))))
              · refine x_aload_n hm rfl rfl ?_
                refine x_ldcI hm rfl (v := (-1000001 : Int32)) (by decide +kernel) ?_
                refine x_cVi hm rfl rfl (t135 (by decide +kernel)) (fun v25 M25 r25 => ?_)
                refine x_iret hm rfl rfl (by first | rfl | exact bI_nar | decide) ?_
                first
                  | exact ⟨_, _, rfl, rfl, r25.2.inv hI⟩
                  | exact ⟨_, _, rfl, rfl, r1.2.inv hI⟩
                  | exact ⟨_, _, rfl, rfl, r2.2.inv hI⟩
                  | exact ⟨_, _, rfl, rfl, r3.2.inv hI⟩
                  | exact ⟨_, _, rfl, rfl, r4.2.inv hI⟩
                  | exact ⟨_, _, rfl, rfl, r5.2.inv hI⟩
                  | exact ⟨_, _, rfl, rfl, r6.2.inv hI⟩
                  | exact ⟨_, _, rfl, rfl, r7.2.inv hI⟩
                  | exact ⟨_, _, rfl, rfl, r8.2.inv hI⟩
                  | exact ⟨_, _, rfl, rfl, r9.2.inv hI⟩
                  | exact ⟨_, _, rfl, rfl, r10.2.inv hI⟩
                  | exact ⟨_, _, rfl, rfl, r11.2.inv hI⟩
                  | exact ⟨_, _, rfl, rfl, r12.2.inv hI⟩
                  | exact ⟨_, _, rfl, rfl, r13.2.inv hI⟩
                  | exact ⟨_, _, rfl, rfl, r14.2.inv hI⟩
                  | exact ⟨_, _, rfl, rfl, r15.2.inv hI⟩
                  | exact ⟨_, _, rfl, rfl, r16.2.inv hI⟩
                  | exact ⟨_, _, rfl, rfl, r17.2.inv hI⟩
                  | exact ⟨_, _, rfl, rfl, r18.2.inv hI⟩
                  | exact ⟨_, _, rfl, rfl, r19.2.inv hI⟩
                  | exact ⟨_, _, rfl, rfl, r20.2.inv hI⟩
                  | exact ⟨_, _, rfl, rfl, r21.2.inv hI⟩
                  | exact ⟨_, _, rfl, rfl, r22.2.inv hI⟩
                  | exact ⟨_, _, rfl, rfl, r23.2.inv hI⟩
                  | exact ⟨_, _, rfl, rfl, r24.2.inv hI⟩
                  | exact ⟨_, _, rfl, rfl, r26.2.inv hI⟩
                  | exact ⟨_, _, rfl, rfl, r27.2.inv hI⟩
                  | exact ⟨_, _, rfl, rfl, r28.2.inv hI⟩
                  | exact ⟨_, _, rfl, rfl, r29.2.inv hI⟩
                  | exact ⟨_, _, rfl, rfl, r30.2.inv hI⟩
                  | exact ⟨_, _, rfl, rfl, r31.2.inv hI⟩
                  | exact ⟨_, _, rfl, rfl, r32.2.inv hI⟩
                  | exact ⟨_, _, rfl, rfl, r33.2.inv hI⟩
                  | exact ⟨_, _, rfl, rfl, r34.2.inv hI⟩
                  | exact ⟨_, _, rfl, rfl, r35.2.inv hI⟩
                  | exact ⟨_, _, rfl, rfl, r36.2.inv hI⟩
                  | exact ⟨_, _, rfl, rfl, r37.2.inv hI⟩
                  | exact ⟨_, _, rfl, rfl, r38.2.inv hI⟩
                  | exact ⟨_, _, rfl, rfl, r39.2.inv hI⟩
            · refine x_aload_n hm rfl rfl ?_
              refine x_ldc_wI hm rfl (v := (-1000007 : Int32)) (by decide) ?_
              refine x_cVi hm rfl rfl (t135 (by decide +kernel)) (fun v26 M26 r26 => ?_)
              refine x_iret hm rfl rfl (by first | rfl | exact bI_nar | decide) ?_
              first
                | exact ⟨_, _, rfl, rfl, r26.2.inv hI⟩
                | exact ⟨_, _, rfl, rfl, r1.2.inv hI⟩
                | exact ⟨_, _, rfl, rfl, r2.2.inv hI⟩
                | exact ⟨_, _, rfl, rfl, r3.2.inv hI⟩
                | exact ⟨_, _, rfl, rfl, r4.2.inv hI⟩
                | exact ⟨_, _, rfl, rfl, r5.2.inv hI⟩
                | exact ⟨_, _, rfl, rfl, r6.2.inv hI⟩
                | exact ⟨_, _, rfl, rfl, r7.2.inv hI⟩
                | exact ⟨_, _, rfl, rfl, r8.2.inv hI⟩
                | exact ⟨_, _, rfl, rfl, r9.2.inv hI⟩
                | exact ⟨_, _, rfl, rfl, r10.2.inv hI⟩
                | exact ⟨_, _, rfl, rfl, r11.2.inv hI⟩
                | exact ⟨_, _, rfl, rfl, r12.2.inv hI⟩
                | exact ⟨_, _, rfl, rfl, r13.2.inv hI⟩
                | exact ⟨_, _, rfl, rfl, r14.2.inv hI⟩
                | exact ⟨_, _, rfl, rfl, r15.2.inv hI⟩
                | exact ⟨_, _, rfl, rfl, r16.2.inv hI⟩
                | exact ⟨_, _, rfl, rfl, r17.2.inv hI⟩
                | exact ⟨_, _, rfl, rfl, r18.2.inv hI⟩
                | exact ⟨_, _, rfl, rfl, r19.2.inv hI⟩
                | exact ⟨_, _, rfl, rfl, r20.2.inv hI⟩
                | exact ⟨_, _, rfl, rfl, r21.2.inv hI⟩
                | exact ⟨_, _, rfl, rfl, r22.2.inv hI⟩
                | exact ⟨_, _, rfl, rfl, r23.2.inv hI⟩
                | exact ⟨_, _, rfl, rfl, r24.2.inv hI⟩
                | exact ⟨_, _, rfl, rfl, r25.2.inv hI⟩
                | exact ⟨_, _, rfl, rfl, r27.2.inv hI⟩
                | exact ⟨_, _, rfl, rfl, r28.2.inv hI⟩
                | exact ⟨_, _, rfl, rfl, r29.2.inv hI⟩
                | exact ⟨_, _, rfl, rfl, r30.2.inv hI⟩
                | exact ⟨_, _, rfl, rfl, r31.2.inv hI⟩
                | exact ⟨_, _, rfl, rfl, r32.2.inv hI⟩
                | exact ⟨_, _, rfl, rfl, r33.2.inv hI⟩
                | exact ⟨_, _, rfl, rfl, r34.2.inv hI⟩
                | exact ⟨_, _, rfl, rfl, r35.2.inv hI⟩
                | exact ⟨_, _, rfl, rfl, r36.2.inv hI⟩
                | exact ⟨_, _, rfl, rfl, r37.2.inv hI⟩
                | exact ⟨_, _, rfl, rfl, r38.2.inv hI⟩
                | exact ⟨_, _, rfl, rfl, r39.2.inv hI⟩
          · refine x_aload_n hm rfl rfl ?_
            refine x_ldcI hm rfl (v := (-1000001 : Int32)) (by decide +kernel) ?_
            refine x_cVi hm rfl rfl (t135 (by decide +kernel)) (fun v27 M27 r27 => ?_)
            refine x_iret hm rfl rfl (by first | rfl | exact bI_nar | decide) ?_
            first
              | exact ⟨_, _, rfl, rfl, r27.2.inv hI⟩
              | exact ⟨_, _, rfl, rfl, r1.2.inv hI⟩
              | exact ⟨_, _, rfl, rfl, r2.2.inv hI⟩
              | exact ⟨_, _, rfl, rfl, r3.2.inv hI⟩
              | exact ⟨_, _, rfl, rfl, r4.2.inv hI⟩
              | exact ⟨_, _, rfl, rfl, r5.2.inv hI⟩
              | exact ⟨_, _, rfl, rfl, r6.2.inv hI⟩
              | exact ⟨_, _, rfl, rfl, r7.2.inv hI⟩
              | exact ⟨_, _, rfl, rfl, r8.2.inv hI⟩
              | exact ⟨_, _, rfl, rfl, r9.2.inv hI⟩
              | exact ⟨_, _, rfl, rfl, r10.2.inv hI⟩
              | exact ⟨_, _, rfl, rfl, r11.2.inv hI⟩
              | exact ⟨_, _, rfl, rfl, r12.2.inv hI⟩
              | exact ⟨_, _, rfl, rfl, r13.2.inv hI⟩
              | exact ⟨_, _, rfl, rfl, r14.2.inv hI⟩
              | exact ⟨_, _, rfl, rfl, r15.2.inv hI⟩
              | exact ⟨_, _, rfl, rfl, r16.2.inv hI⟩
              | exact ⟨_, _, rfl, rfl, r17.2.inv hI⟩
              | exact ⟨_, _, rfl, rfl, r18.2.inv hI⟩
              | exact ⟨_, _, rfl, rfl, r19.2.inv hI⟩
              | exact ⟨_, _, rfl, rfl, r20.2.inv hI⟩
              | exact ⟨_, _, rfl, rfl, r21.2.inv hI⟩
              | exact ⟨_, _, rfl, rfl, r22.2.inv hI⟩
              | exact ⟨_, _, rfl, rfl, r23.2.inv hI⟩
              | exact ⟨_, _, rfl, rfl, r24.2.inv hI⟩
              | exact ⟨_, _, rfl, rfl, r25.2.inv hI⟩
              | exact ⟨_, _, rfl, rfl, r26.2.inv hI⟩
              | exact ⟨_, _, rfl, rfl, r28.2.inv hI⟩
              | exact ⟨_, _, rfl, rfl, r29.2.inv hI⟩
              | exact ⟨_, _, rfl, rfl, r30.2.inv hI⟩
              | exact ⟨_, _, rfl, rfl, r31.2.inv hI⟩
              | exact ⟨_, _, rfl, rfl, r32.2.inv hI⟩
              | exact ⟨_, _, rfl, rfl, r33.2.inv hI⟩
              | exact ⟨_, _, rfl, rfl, r34.2.inv hI⟩
              | exact ⟨_, _, rfl, rfl, r35.2.inv hI⟩
              | exact ⟨_, _, rfl, rfl, r36.2.inv hI⟩
              | exact ⟨_, _, rfl, rfl, r37.2.inv hI⟩
              | exact ⟨_, _, rfl, rfl, r38.2.inv hI⟩
              | exact ⟨_, _, rfl, rfl, r39.2.inv hI⟩
theorem t235 {a1 a2 a3 : Int32} (hI : Inv M) : ∃ v M', mT X 235 [.ref 66, .int a1, .int a2, .int a3] (con M) (some (.int v)) (con M') ∧ Inv M' := by
  refine ti_of (row := _) rfl (Nat.le_of_ble_eq_true rfl) ?_
  have hm : mMet 235 = some _ := rfl
  refine x_iload_n hm rfl rfl ?_
  refine x_callS hm rfl rfl (t210) ?_
  refine x_if_ne hm rfl (t := 14) rfl (fun h1 => ?_) (fun h1 => ?_)
  · obtain ⟨s, hs, rfl⟩ := le_k (by omega) (bI_ne0 h1)
    obtain ⟨z, hz, hsz⟩ := hI.1.size s
    refine x_aload_n hm rfl rfl ?_
    refine x_getf hm rfl (gR rfl rfl) ?_
    refine x_iload_n hm rfl rfl ?_
    refine x_iald hm rfl (lI rfl (by omega) (by decide)) ?_
    refine x_if_ne hm rfl (t := 30) rfl (fun h2 => ?_) (fun h2 => ?_)
    · refine x_iload_n hm rfl rfl ?_
      refine x_iconst hm rfl (v := nI 0) (by decide) ?_
      refine x_aload_n hm rfl rfl ?_
      refine x_getf hm rfl (gR rfl rfl) ?_
      refine x_iload_n hm rfl rfl ?_
      refine x_iald hm rfl (lI rfl (by omega) (by decide)) ?_
      rw [hsz]
      refine x_iconst hm rfl (v := nI 1) (by decide) ?_
      refine x_isub hm rfl ?_
      refine x_callS hm rfl rfl (t133) ?_
      refine x_if_ne hm rfl (t := 53) rfl (fun h3 => ?_) (fun h3 => ?_)
      · obtain ⟨i, hi, rfl⟩ := in_k rfl (by omega) (bI_ne0 h3)
        refine x_aload_n hm rfl rfl ?_
        refine x_getf hm rfl (gR rfl rfl) ?_
        refine x_bipush hm rfl (v := nI 40) (by decide) ?_
        refine x_iload_n hm rfl rfl ?_
        refine x_imul hm rfl ?_
        rw [jI_mul]
        refine x_iload_n hm rfl rfl ?_
        refine x_iadd hm rfl ?_
        rw [jI_add]
        refine x_iload_n hm rfl rfl ?_
        refine x_aload_n hm rfl rfl ?_
        refine x_getf hm rfl (gR rfl rfl) ?_
        refine x_iload_n hm rfl rfl ?_
        refine x_iald hm rfl (lI rfl (by omega) (by decide)) ?_
        refine x_cSe hm rfl rfl (t236) (fun v4 r4 => ?_)
        refine x_iast hm rfl (sI rfl (by omega) (by decide)) ?_
        refine x_iconst hm rfl (v := nI 1) (by decide) ?_
        refine x_iret hm rfl rfl (by first | rfl | exact bI_nar | decide) ?_
        first
          | exact ⟨_, _, rfl, rfl, r4.2.inv hI⟩
          | exact ⟨_, _, rfl, rfl, Sf.w78.inv hI⟩
          | exact ⟨_, _, rfl, rfl, r1.2.inv hI⟩
          | exact ⟨_, _, rfl, rfl, r2.2.inv hI⟩
          | exact ⟨_, _, rfl, rfl, r3.2.inv hI⟩
          | exact ⟨_, _, rfl, rfl, r5.2.inv hI⟩
          | exact ⟨_, _, rfl, rfl, r6.2.inv hI⟩
          | exact ⟨_, _, rfl, rfl, r7.2.inv hI⟩
          | exact ⟨_, _, rfl, rfl, r8.2.inv hI⟩
          | exact ⟨_, _, rfl, rfl, r9.2.inv hI⟩
          | exact ⟨_, _, rfl, rfl, r10.2.inv hI⟩
          | exact ⟨_, _, rfl, rfl, r11.2.inv hI⟩
          | exact ⟨_, _, rfl, rfl, r12.2.inv hI⟩
          | exact ⟨_, _, rfl, rfl, r13.2.inv hI⟩
          | exact ⟨_, _, rfl, rfl, r14.2.inv hI⟩
          | exact ⟨_, _, rfl, rfl, r15.2.inv hI⟩
          | exact ⟨_, _, rfl, rfl, r16.2.inv hI⟩
          | exact ⟨_, _, rfl, rfl, r17.2.inv hI⟩
          | exact ⟨_, _, rfl, rfl, r18.2.inv hI⟩
          | exact ⟨_, _, rfl, rfl, r19.2.inv hI⟩
      · refine x_aload_n hm rfl rfl ?_
        refine x_ldcI hm rfl (v := (-1000001 : Int32)) (by decide +kernel) ?_
        refine x_cVi hm rfl rfl (t135 (by decide +kernel)) (fun v5 M5 r5 => ?_)
        refine x_iret hm rfl rfl (by first | rfl | exact bI_nar | decide) ?_
        first
          | exact ⟨_, _, rfl, rfl, r5.2.inv hI⟩
          | exact ⟨_, _, rfl, rfl, Sf.w78.inv hI⟩
          | exact ⟨_, _, rfl, rfl, r1.2.inv hI⟩
          | exact ⟨_, _, rfl, rfl, r2.2.inv hI⟩
          | exact ⟨_, _, rfl, rfl, r3.2.inv hI⟩
          | exact ⟨_, _, rfl, rfl, r4.2.inv hI⟩
          | exact ⟨_, _, rfl, rfl, r6.2.inv hI⟩
          | exact ⟨_, _, rfl, rfl, r7.2.inv hI⟩
          | exact ⟨_, _, rfl, rfl, r8.2.inv hI⟩
          | exact ⟨_, _, rfl, rfl, r9.2.inv hI⟩
          | exact ⟨_, _, rfl, rfl, r10.2.inv hI⟩
          | exact ⟨_, _, rfl, rfl, r11.2.inv hI⟩
          | exact ⟨_, _, rfl, rfl, r12.2.inv hI⟩
          | exact ⟨_, _, rfl, rfl, r13.2.inv hI⟩
          | exact ⟨_, _, rfl, rfl, r14.2.inv hI⟩
          | exact ⟨_, _, rfl, rfl, r15.2.inv hI⟩
          | exact ⟨_, _, rfl, rfl, r16.2.inv hI⟩
          | exact ⟨_, _, rfl, rfl, r17.2.inv hI⟩
          | exact ⟨_, _, rfl, rfl, r18.2.inv hI⟩
          | exact ⟨_, _, rfl, rfl, r19.2.inv hI⟩
    · refine x_aload_n hm rfl rfl ?_
      refine x_ldcI hm rfl (v := (-1000006 : Int32)) (by decide +kernel) ?_
      refine x_cVi hm rfl rfl (t135 (by decide +kernel)) (fun v6 M6 r6 => ?_)
      refine x_iret hm rfl rfl (by first | rfl | exact bI_nar | decide) ?_
      first
        | exact ⟨_, _, rfl, rfl, r6.2.inv hI⟩
        | exact ⟨_, _, rfl, rfl, Sf.w78.inv hI⟩
        | exact ⟨_, _, rfl, rfl, r1.2.inv hI⟩
        | exact ⟨_, _, rfl, rfl, r2.2.inv hI⟩
        | exact ⟨_, _, rfl, rfl, r3.2.inv hI⟩
        | exact ⟨_, _, rfl, rfl, r4.2.inv hI⟩
        | exact ⟨_, _, rfl, rfl, r5.2.inv hI⟩
        | exact ⟨_, _, rfl, rfl, r7.2.inv hI⟩
        | exact ⟨_, _, rfl, rfl, r8.2.inv hI⟩
        | exact ⟨_, _, rfl, rfl, r9.2.inv hI⟩
        | exact ⟨_, _, rfl, rfl, r10.2.inv hI⟩
        | exact ⟨_, _, rfl, rfl, r11.2.inv hI⟩
        | exact ⟨_, _, rfl, rfl, r12.2.inv hI⟩
        | exact ⟨_, _, rfl, rfl, r13.2.inv hI⟩
        | exact ⟨_, _, rfl, rfl, r14.2.inv hI⟩
        | exact ⟨_, _, rfl, rfl, r15.2.inv hI⟩
        | exact ⟨_, _, rfl, rfl, r16.2.inv hI⟩
        | exact ⟨_, _, rfl, rfl, r17.2.inv hI⟩
        | exact ⟨_, _, rfl, rfl, r18.2.inv hI⟩
        | exact ⟨_, _, rfl, rfl, r19.2.inv hI⟩
  · refine x_aload_n hm rfl rfl ?_
    refine x_ldcI hm rfl (v := (-1000001 : Int32)) (by decide +kernel) ?_
    refine x_cVi hm rfl rfl (t135 (by decide +kernel)) (fun v7 M7 r7 => ?_)
    refine x_iret hm rfl rfl (by first | rfl | exact bI_nar | decide) ?_
    first
      | exact ⟨_, _, rfl, rfl, r7.2.inv hI⟩
      | exact ⟨_, _, rfl, rfl, Sf.w78.inv hI⟩
      | exact ⟨_, _, rfl, rfl, r1.2.inv hI⟩
      | exact ⟨_, _, rfl, rfl, r2.2.inv hI⟩
      | exact ⟨_, _, rfl, rfl, r3.2.inv hI⟩
      | exact ⟨_, _, rfl, rfl, r4.2.inv hI⟩
      | exact ⟨_, _, rfl, rfl, r5.2.inv hI⟩
      | exact ⟨_, _, rfl, rfl, r6.2.inv hI⟩
      | exact ⟨_, _, rfl, rfl, r8.2.inv hI⟩
      | exact ⟨_, _, rfl, rfl, r9.2.inv hI⟩
      | exact ⟨_, _, rfl, rfl, r10.2.inv hI⟩
      | exact ⟨_, _, rfl, rfl, r11.2.inv hI⟩
      | exact ⟨_, _, rfl, rfl, r12.2.inv hI⟩
      | exact ⟨_, _, rfl, rfl, r13.2.inv hI⟩
      | exact ⟨_, _, rfl, rfl, r14.2.inv hI⟩
      | exact ⟨_, _, rfl, rfl, r15.2.inv hI⟩
      | exact ⟨_, _, rfl, rfl, r16.2.inv hI⟩
      | exact ⟨_, _, rfl, rfl, r17.2.inv hI⟩
      | exact ⟨_, _, rfl, rfl, r18.2.inv hI⟩
      | exact ⟨_, _, rfl, rfl, r19.2.inv hI⟩
theorem l238 {s nt : Nat} (hW : Wf M) (hs : s ≤ 3) (hnt : M 67 1 = nI nt) (hn8 : nt ≤ 8) : ∀ (n k : Nat) (M1 : mM), 41 - k < n → k ≤ 41 → Sf M M1 → mEv X (QI (fun _ M' => Sf M M')) 238 20 [some (.ref 66), some (.int (nI s)), some (.int (nI k))] [] (con M1) := by
  have hm : mMet 238 = some _ := rfl
  intro n
  induction n with
  | zero =>
    intro k M1 hkn hkb hS
    omega
  | succ n ih =>
    intro k M1 hkn hkb hS
    have hW1 := hS.1 hW
    have hn1 : M1 67 1 = nI nt := hS.2.1.trans hnt
    obtain ⟨z, hz, hsz⟩ := hW1.size s
    refine x_iload_n hm rfl rfl ?_
    refine x_aload_n hm rfl rfl ?_
    refine x_getf hm rfl (gR rfl rfl) ?_
    refine x_iload_n hm rfl rfl ?_
    refine x_iald hm rfl (lI rfl (by omega) (by decide)) ?_
    rw [hsz]
    refine x_icmp_ge hm rfl (t := 82) rfl (fun h1 => ?_) (fun h1 => ?_)
    · refine x_iload_n hm rfl rfl ?_
      refine x_iret hm rfl rfl (by first | rfl | exact bI_nar | decide) ?_
      exact ⟨_, _, rfl, rfl, hS⟩
    · have hk : k < z := Nat.lt_of_not_le fun h => h1 (nI_le h (by omega))
      refine x_aload_n hm rfl rfl ?_
      refine x_iload_n hm rfl rfl ?_
      refine x_callV hm rfl rfl (t139) ?_
      refine x_if_eq hm rfl (t := 82) rfl (fun h2 => ?_) (fun h2 => ?_)
      · refine x_iload_n hm rfl rfl ?_
        refine x_iret hm rfl rfl (by first | rfl | exact bI_nar | decide) ?_
        exact ⟨_, _, rfl, rfl, hS⟩
      · obtain ⟨k2, hk2, e2⟩ := in_k hn1 (by omega) (bI_ne0 h2)
        obtain rfl := jI_inj (by omega) (by omega) e2
        refine x_aload_n hm rfl rfl ?_
        refine x_getf hm rfl (gR rfl rfl) ?_
        refine x_bipush hm rfl (v := nI 40) (by decide) ?_
        refine x_iload_n hm rfl rfl ?_
        refine x_imul hm rfl ?_
        rw [jI_mul]
        refine x_iload_n hm rfl rfl ?_
        refine x_iadd hm rfl ?_
        rw [jI_add]
        refine x_iald hm rfl (lI rfl (by omega) (by decide)) ?_
        refine x_callS hm rfl rfl (t151) ?_
        refine x_if_eq hm rfl (t := 82) rfl (fun h3 => ?_) (fun h3 => ?_)
        · refine x_iload_n hm rfl rfl ?_
          refine x_iret hm rfl rfl (by first | rfl | exact bI_nar | decide) ?_
          exact ⟨_, _, rfl, rfl, hS⟩
        · refine x_aload_n hm rfl rfl ?_
          refine x_getf hm rfl (gR rfl rfl) ?_
          refine x_iload_n hm rfl rfl ?_
          refine x_iconst hm rfl (v := nI 2) (by decide) ?_
          refine x_callS hm rfl rfl (t137) ?_
          refine x_aload_n hm rfl rfl ?_
          refine x_getf hm rfl (gR rfl rfl) ?_
          refine x_bipush hm rfl (v := nI 40) (by decide) ?_
          refine x_iload_n hm rfl rfl ?_
          refine x_imul hm rfl ?_
          rw [jI_mul]
          refine x_iload_n hm rfl rfl ?_
          refine x_iadd hm rfl ?_
          rw [jI_add]
          refine x_iald hm rfl (lI rfl (by omega) (by decide)) ?_
          refine x_iast hm rfl (sI rfl (by omega) (by decide)) ?_
          refine x_iinc hm rfl rfl (v := nI 1) (by decide) rfl ?_
          rw [jI_add]
          refine x_goto hm rfl (t := 20) rfl ?_
          exact ih _ _ (by omega) (by omega) (hS.trans (Sf.thing (by omega) (by decide) (by decide) (by decide)))
theorem t238 {a1 : Int32} (hI : Inv M) : ∃ v M', mT X 238 [.ref 66, .int a1] (con M) (some (.int v)) (con M') ∧ Inv M' := by
  refine ti_of (row := _) rfl (Nat.le_of_ble_eq_true rfl) ?_
  have hm : mMet 238 = some _ := rfl
  obtain ⟨nt, hn8, hnt⟩ := hI.1.nt
  refine x_aload_n hm rfl rfl ?_
  refine x_iload_n hm rfl rfl ?_
  refine x_callV hm rfl rfl (t209) ?_
  refine x_if_eq hm rfl (t := 18) rfl (fun h1 => ?_) (fun h1 => ?_)
  · obtain ⟨s, hs, rfl⟩ := lk_k h1
    refine x_iconst hm rfl (v := nI 0) (by decide) ?_
    refine x_istore_n hm rfl rfl ?_
    exact ev_inv hI (l238 hI.1 hs hnt hn8 _ 0 _ (Nat.lt_succ_self _) (Nat.zero_le _) Sf.rf)
  · refine x_aload_n hm rfl rfl ?_
    refine x_aload_n hm rfl rfl ?_
    refine x_iload_n hm rfl rfl ?_
    refine x_callV hm rfl rfl (t209) ?_
    refine x_cVi hm rfl rfl (t135 (lk_fd h1)) (fun v2 M2 r2 => ?_)
    refine x_iret hm rfl rfl (by first | rfl | exact bI_nar | decide) ?_
    first
      | exact ⟨_, _, rfl, rfl, r2.2.inv hI⟩
      | exact ⟨_, _, rfl, rfl, hI⟩
      | exact ⟨_, _, rfl, rfl, r1.2.inv hI⟩
      | exact ⟨_, _, rfl, rfl, r3.2.inv hI⟩
      | exact ⟨_, _, rfl, rfl, r4.2.inv hI⟩
      | exact ⟨_, _, rfl, rfl, r5.2.inv hI⟩
      | exact ⟨_, _, rfl, rfl, r6.2.inv hI⟩
      | exact ⟨_, _, rfl, rfl, r7.2.inv hI⟩
      | exact ⟨_, _, rfl, rfl, r8.2.inv hI⟩
      | exact ⟨_, _, rfl, rfl, r9.2.inv hI⟩
      | exact ⟨_, _, rfl, rfl, r10.2.inv hI⟩
      | exact ⟨_, _, rfl, rfl, r11.2.inv hI⟩
      | exact ⟨_, _, rfl, rfl, r12.2.inv hI⟩
      | exact ⟨_, _, rfl, rfl, r13.2.inv hI⟩
      | exact ⟨_, _, rfl, rfl, r14.2.inv hI⟩
      | exact ⟨_, _, rfl, rfl, r15.2.inv hI⟩
      | exact ⟨_, _, rfl, rfl, r16.2.inv hI⟩
      | exact ⟨_, _, rfl, rfl, r17.2.inv hI⟩
      | exact ⟨_, _, rfl, rfl, r18.2.inv hI⟩
      | exact ⟨_, _, rfl, rfl, r19.2.inv hI⟩
theorem Wf.flag (hW : Wf M) {b : Nat} {v : Int32} (hb : b ≠ 9) : Wf (mput M 66 b v) := hW.put0 (kd66 hb)
theorem flag_inv (hI : Inv M) {b : Nat} {v : Int32} (hb : b ≠ 9) : Inv (mput M 66 b v) := ⟨hI.1.flag hb, by rw [mpo (by decide)]; exact hI.2.1, by rw [mpo (by decide)]; exact hI.2.2⟩
theorem cp_b {a b j : Nat} (hj : j < 118) : cp M a b 118 b j = M a j := if_pos ⟨rfl, hj⟩
theorem cp_o {a b i : Nat} (h : i ≠ b) : cp M a b 118 i = M i := by
  funext j
  exact if_neg fun e => h e.1
theorem Ac.cp {a b : Nat} (h : Ac (M a)) : Ac (cp M a b 118 b) := h.of (cp_b (by decide)) (fun t ht => cp_b (by omega))
theorem image_inv (hI : Inv M) : Inv (cp M 67 68 118) := ⟨hI.1.ofcp (Or.inl rfl) (Or.inr (Or.inl rfl)), by rw [cp_o (by decide)]; exact hI.2.1, hI.2.1.cp⟩
theorem undo_inv (hI : Inv M) : Inv (cp M 68 67 118) := ⟨hI.1.ofcp (Or.inr (Or.inl rfl)) (Or.inl rfl), hI.2.2.cp, by rw [cp_o (by decide)]; exact hI.2.2⟩
theorem t240 (hI : Inv M) : ∃ v M', mT X 240 [.ref 66] (con M) (some (.int v)) (con M') ∧ v = nI 1 ∧ Inv M' := by
  refine ti_of (row := _) rfl (Nat.le_of_ble_eq_true rfl) ?_
  have hm : mMet 240 = some _ := rfl
  refine x_aload_n hm rfl rfl ?_
  refine x_getf hm rfl (gR rfl rfl) ?_
  refine x_aload_n hm rfl rfl ?_
  refine x_getf hm rfl (gR rfl rfl) ?_
  refine x_callS hm rfl rfl (t174 rfl rfl (by decide)) ?_
  refine x_aload_n hm rfl rfl ?_
  refine x_iconst hm rfl (v := nI 1) (by decide) ?_
  refine x_putf hm rfl (pI rfl rfl (by decide) (by first | exact mFit_int | rfl | decide) rfl) ?_
  refine x_iconst hm rfl (v := nI 1) (by decide) ?_
  refine x_iret hm rfl rfl (by first | rfl | exact bI_nar | decide) ?_
  exact ⟨_, _, rfl, rfl, rfl, flag_inv (image_inv hI) (by decide)⟩
theorem t241  (hI : Inv M) : ∃ v M', mT X 241 [.ref 66] (con M) (some (.int v)) (con M') ∧ Inv M' := by
  refine ti_of (row := _) rfl (Nat.le_of_ble_eq_true rfl) ?_
  have hm : mMet 241 = some _ := rfl
  refine x_aload_n hm rfl rfl ?_
  refine x_getf hm rfl (gI rfl rfl) ?_
  refine x_if_ne hm rfl (t := 14) rfl (fun h1 => ?_) (fun h1 => ?_)
  · refine x_aload_n hm rfl rfl ?_
    refine x_getf hm rfl (gR rfl rfl) ?_
    refine x_aload_n hm rfl rfl ?_
    refine x_getf hm rfl (gR rfl rfl) ?_
    refine x_callS hm rfl rfl (t174 rfl rfl (by decide)) ?_
    refine x_aload_n hm rfl rfl ?_
    refine x_getf hm rfl (gR rfl rfl) ?_
    refine x_iconst hm rfl (v := nI 0) (by decide) ?_
    refine x_iald hm rfl (lI rfl (by omega) (by decide)) ?_
    refine x_iret hm rfl rfl (by first | rfl | exact bI_nar | decide) ?_
    first
      | exact ⟨_, _, rfl, rfl, undo_inv hI⟩
      | exact ⟨_, _, rfl, rfl, r2.2.inv hI⟩
  · refine x_aload_n hm rfl rfl ?_
    refine x_ldcI hm rfl (v := (-1000004 : Int32)) (by decide +kernel) ?_
    refine x_cVi hm rfl rfl (t135 (by decide +kernel)) (fun v2 M2 r2 => ?_)
    refine x_iret hm rfl rfl (by first | rfl | exact bI_nar | decide) ?_
    first
      | exact ⟨_, _, rfl, rfl, r2.2.inv hI⟩
      | exact ⟨_, _, rfl, rfl, undo_inv hI⟩
theorem t242  (hI : Inv M) : ∃ v M', mT X 242 [.ref 66] (con M) (some (.int v)) (con M') ∧ Inv M' := by
  refine ti_of (row := _) rfl (Nat.le_of_ble_eq_true rfl) ?_
  have hm : mMet 242 = some _ := rfl
  refine x_aload_n hm rfl rfl ?_
  refine x_getf hm rfl (gI rfl rfl) ?_
  refine x_if_eq hm rfl (t := 11) rfl (fun h1 => ?_) (fun h1 => ?_)
  · refine x_iconst hm rfl (v := nI 0) (by decide) ?_
    refine x_istore_n hm rfl rfl ?_
    refine x_aload_n hm rfl rfl ?_
    refine x_iconst hm rfl (v := nI 0) (by decide) ?_
    refine x_putf hm rfl (pI rfl rfl (by decide) (by first | exact mFit_int | rfl | decide) rfl) ?_
    refine x_iload_n hm rfl rfl ?_
    refine x_iret hm rfl rfl (by first | rfl | exact bI_nar | decide) ?_
    exact ⟨_, _, rfl, rfl, flag_inv hI (by decide)⟩
  · refine x_iconst hm rfl (v := nI 1) (by decide) ?_
    refine x_goto hm rfl (t := 12) rfl ?_
    refine x_istore_n hm rfl rfl ?_
    refine x_aload_n hm rfl rfl ?_
    refine x_iconst hm rfl (v := nI 0) (by decide) ?_
    refine x_putf hm rfl (pI rfl rfl (by decide) (by first | exact mFit_int | rfl | decide) rfl) ?_
    refine x_iload_n hm rfl rfl ?_
    refine x_iret hm rfl rfl (by first | rfl | exact bI_nar | decide) ?_
    exact ⟨_, _, rfl, rfl, flag_inv hI (by decide)⟩
theorem l243 {a1 : Int32} (hI : Inv M) : ∀ (n k : Nat) (s : Int32), 10 - k < n → k ≤ 10 → mEv X (QI (fun _ M' => Iq M M')) 243 96 [some (.ref 66), some (.int a1), some (.int s), some (.int (nI k))] [] (con M) := by
  have hm : mMet 243 = some _ := rfl
  intro n
  induction n with
  | zero =>
    intro k s hkn hkb
    omega
  | succ n ih =>
    intro k s hkn hkb
    refine x_iload_n hm rfl rfl ?_
    refine x_bipush hm rfl (v := nI 10) (by decide) ?_
    refine x_icmp_ge hm rfl (t := 127) rfl (fun h1 => ?_) (fun h1 => ?_)
    · refine x_iload_n hm rfl rfl ?_
      refine x_iret hm rfl rfl (by first | rfl | exact bI_nar | decide) ?_
      exact ⟨_, _, rfl, rfl, Iq.rf hI⟩
    · have hk : k < 10 := Nat.lt_of_not_le fun h => h1 (nI_le h (by omega))
      refine x_iload_n hm rfl rfl ?_
      refine x_aload_n hm rfl rfl ?_
      refine x_getf hm rfl (gR rfl rfl) ?_
      refine x_iconst hm rfl (v := nI 4) (by decide) ?_
      refine x_iload_n hm rfl rfl ?_
      refine x_iadd hm rfl ?_
      rw [jI_add]
      refine x_iald hm rfl (lI rfl (by omega) (by decide)) ?_
      refine x_if_ge hm rfl (t := 118) rfl (fun h2 => ?_) (fun h2 => ?_)
      · refine x_iconst hm rfl (v := nI 1) (by decide) ?_
        refine x_iadd hm rfl ?_
        refine x_istore_n hm rfl rfl ?_
        refine x_iinc hm rfl rfl (v := nI 1) (by decide) rfl ?_
        rw [jI_add]
        refine x_goto hm rfl (t := 96) rfl ?_
        exact ih _ _ (by omega) (by omega)
      · refine x_iconst hm rfl (v := nI 0) (by decide) ?_
        refine x_goto hm rfl (t := 119) rfl ?_
        refine x_iadd hm rfl ?_
        refine x_istore_n hm rfl rfl ?_
        refine x_iinc hm rfl rfl (v := nI 1) (by decide) rfl ?_
        rw [jI_add]
        refine x_goto hm rfl (t := 96) rfl ?_
        exact ih _ _ (by omega) (by omega)
theorem t243 {a1 : Int32} (hI : Inv M) : ∃ v M', mT X 243 [.ref 66, .int a1] (con M) (some (.int v)) (con M') ∧ Iq M M' := by
  refine ti_of (row := _) rfl (Nat.le_of_ble_eq_true rfl) ?_
  have hm : mMet 243 = some _ := rfl
  refine x_iconst hm rfl (v := nI 0) (by decide) ?_
  refine x_istore_n hm rfl rfl ?_
  refine x_iload_n hm rfl rfl ?_
  refine x_ts hm rfl (fun h1 => ⟨129, rfl, ?_⟩) (fun i1 h1 g1 => ?_)
  · refine x_aload_n hm rfl rfl ?_
    refine x_ldcI hm rfl (v := (-1000001 : Int32)) (by decide +kernel) ?_
    refine x_cVi hm rfl rfl (t135 (by decide +kernel)) (fun v2 M2 r2 => ?_)
    refine x_iret hm rfl rfl (by first | rfl | exact bI_nar | decide) ?_
    first
      | exact ⟨_, _, rfl, rfl, r2.2.iq hI⟩
      | exact ⟨_, _, rfl, rfl, Iq.rf hI⟩
      | exact ⟨_, _, rfl, rfl, r1.2.iq hI⟩
      | exact ⟨_, _, rfl, rfl, r3.2.iq hI⟩
      | exact ⟨_, _, rfl, rfl, r4.2.iq hI⟩
      | exact ⟨_, _, rfl, rfl, r5.2.iq hI⟩
      | exact ⟨_, _, rfl, rfl, r6.2.iq hI⟩
      | exact ⟨_, _, rfl, rfl, r7.2.iq hI⟩
      | exact ⟨_, _, rfl, rfl, r8.2.iq hI⟩
      | exact ⟨_, _, rfl, rfl, r9.2.iq hI⟩
      | exact ⟨_, _, rfl, rfl, r10.2.iq hI⟩
      | exact ⟨_, _, rfl, rfl, r11.2.iq hI⟩
      | exact ⟨_, _, rfl, rfl, r12.2.iq hI⟩
      | exact ⟨_, _, rfl, rfl, r13.2.iq hI⟩
      | exact ⟨_, _, rfl, rfl, r14.2.iq hI⟩
      | exact ⟨_, _, rfl, rfl, r15.2.iq hI⟩
      | exact ⟨_, _, rfl, rfl, r16.2.iq hI⟩
      | exact ⟨_, _, rfl, rfl, r17.2.iq hI⟩
      | exact ⟨_, _, rfl, rfl, r18.2.iq hI⟩
      | exact ⟨_, _, rfl, rfl, r19.2.iq hI⟩
  · have k1 : i1 = 0 ∨ i1 = 1 ∨ i1 = 2 ∨ i1 = 3 ∨ i1 = 4 ∨ i1 = 5 ∨ i1 = 6 ∨ i1 = 7 := by omega
    rcases k1 with rfl | rfl | rfl | rfl | rfl | rfl | rfl | rfl
    · refine ⟨_, 48, rfl, rfl, ?_⟩
      refine x_aload_n hm rfl rfl ?_
      refine x_getf hm rfl (gR rfl rfl) ?_
      refine x_iconst hm rfl (v := nI 0) (by decide) ?_
      refine x_iald hm rfl (lI rfl (by omega) (by decide)) ?_
      refine x_iret hm rfl rfl (by first | rfl | exact bI_nar | decide) ?_
      first
        | exact ⟨_, _, rfl, rfl, Iq.rf hI⟩
        | exact ⟨_, _, rfl, rfl, r1.2.iq hI⟩
        | exact ⟨_, _, rfl, rfl, r2.2.iq hI⟩
        | exact ⟨_, _, rfl, rfl, r3.2.iq hI⟩
        | exact ⟨_, _, rfl, rfl, r4.2.iq hI⟩
        | exact ⟨_, _, rfl, rfl, r5.2.iq hI⟩
        | exact ⟨_, _, rfl, rfl, r6.2.iq hI⟩
        | exact ⟨_, _, rfl, rfl, r7.2.iq hI⟩
        | exact ⟨_, _, rfl, rfl, r8.2.iq hI⟩
        | exact ⟨_, _, rfl, rfl, r9.2.iq hI⟩
        | exact ⟨_, _, rfl, rfl, r10.2.iq hI⟩
        | exact ⟨_, _, rfl, rfl, r11.2.iq hI⟩
        | exact ⟨_, _, rfl, rfl, r12.2.iq hI⟩
        | exact ⟨_, _, rfl, rfl, r13.2.iq hI⟩
        | exact ⟨_, _, rfl, rfl, r14.2.iq hI⟩
        | exact ⟨_, _, rfl, rfl, r15.2.iq hI⟩
        | exact ⟨_, _, rfl, rfl, r16.2.iq hI⟩
        | exact ⟨_, _, rfl, rfl, r17.2.iq hI⟩
        | exact ⟨_, _, rfl, rfl, r18.2.iq hI⟩
        | exact ⟨_, _, rfl, rfl, r19.2.iq hI⟩
    · refine ⟨_, 55, rfl, rfl, ?_⟩
      refine x_aload_n hm rfl rfl ?_
      refine x_getf hm rfl (gR rfl rfl) ?_
      refine x_iconst hm rfl (v := nI 1) (by decide) ?_
      refine x_iald hm rfl (lI rfl (by omega) (by decide)) ?_
      refine x_iret hm rfl rfl (by first | rfl | exact bI_nar | decide) ?_
      first
        | exact ⟨_, _, rfl, rfl, Iq.rf hI⟩
        | exact ⟨_, _, rfl, rfl, r1.2.iq hI⟩
        | exact ⟨_, _, rfl, rfl, r2.2.iq hI⟩
        | exact ⟨_, _, rfl, rfl, r3.2.iq hI⟩
        | exact ⟨_, _, rfl, rfl, r4.2.iq hI⟩
        | exact ⟨_, _, rfl, rfl, r5.2.iq hI⟩
        | exact ⟨_, _, rfl, rfl, r6.2.iq hI⟩
        | exact ⟨_, _, rfl, rfl, r7.2.iq hI⟩
        | exact ⟨_, _, rfl, rfl, r8.2.iq hI⟩
        | exact ⟨_, _, rfl, rfl, r9.2.iq hI⟩
        | exact ⟨_, _, rfl, rfl, r10.2.iq hI⟩
        | exact ⟨_, _, rfl, rfl, r11.2.iq hI⟩
        | exact ⟨_, _, rfl, rfl, r12.2.iq hI⟩
        | exact ⟨_, _, rfl, rfl, r13.2.iq hI⟩
        | exact ⟨_, _, rfl, rfl, r14.2.iq hI⟩
        | exact ⟨_, _, rfl, rfl, r15.2.iq hI⟩
        | exact ⟨_, _, rfl, rfl, r16.2.iq hI⟩
        | exact ⟨_, _, rfl, rfl, r17.2.iq hI⟩
        | exact ⟨_, _, rfl, rfl, r18.2.iq hI⟩
        | exact ⟨_, _, rfl, rfl, r19.2.iq hI⟩
    · refine ⟨_, 62, rfl, rfl, ?_⟩
      refine x_aload_n hm rfl rfl ?_
      refine x_getf hm rfl (gR rfl rfl) ?_
      refine x_iconst hm rfl (v := nI 2) (by decide) ?_
      refine x_iald hm rfl (lI rfl (by omega) (by decide)) ?_
      refine x_iret hm rfl rfl (by first | rfl | exact bI_nar | decide) ?_
      first
        | exact ⟨_, _, rfl, rfl, Iq.rf hI⟩
        | exact ⟨_, _, rfl, rfl, r1.2.iq hI⟩
        | exact ⟨_, _, rfl, rfl, r2.2.iq hI⟩
        | exact ⟨_, _, rfl, rfl, r3.2.iq hI⟩
        | exact ⟨_, _, rfl, rfl, r4.2.iq hI⟩
        | exact ⟨_, _, rfl, rfl, r5.2.iq hI⟩
        | exact ⟨_, _, rfl, rfl, r6.2.iq hI⟩
        | exact ⟨_, _, rfl, rfl, r7.2.iq hI⟩
        | exact ⟨_, _, rfl, rfl, r8.2.iq hI⟩
        | exact ⟨_, _, rfl, rfl, r9.2.iq hI⟩
        | exact ⟨_, _, rfl, rfl, r10.2.iq hI⟩
        | exact ⟨_, _, rfl, rfl, r11.2.iq hI⟩
        | exact ⟨_, _, rfl, rfl, r12.2.iq hI⟩
        | exact ⟨_, _, rfl, rfl, r13.2.iq hI⟩
        | exact ⟨_, _, rfl, rfl, r14.2.iq hI⟩
        | exact ⟨_, _, rfl, rfl, r15.2.iq hI⟩
        | exact ⟨_, _, rfl, rfl, r16.2.iq hI⟩
        | exact ⟨_, _, rfl, rfl, r17.2.iq hI⟩
        | exact ⟨_, _, rfl, rfl, r18.2.iq hI⟩
        | exact ⟨_, _, rfl, rfl, r19.2.iq hI⟩
    · refine ⟨_, 69, rfl, rfl, ?_⟩
      refine x_aload_n hm rfl rfl ?_
      refine x_cVe hm rfl rfl (t167 hI.1) (fun v3 r3 => ?_)
      refine x_cSe hm rfl rfl (t168) (fun v4 r4 => ?_)
      refine x_iret hm rfl rfl (by first | rfl | exact bI_nar | decide) ?_
      first
        | exact ⟨_, _, rfl, rfl, r4.2.iq hI⟩
        | exact ⟨_, _, rfl, rfl, Iq.rf hI⟩
        | exact ⟨_, _, rfl, rfl, r3.2.iq hI⟩
        | exact ⟨_, _, rfl, rfl, r1.2.iq hI⟩
        | exact ⟨_, _, rfl, rfl, r2.2.iq hI⟩
        | exact ⟨_, _, rfl, rfl, r5.2.iq hI⟩
        | exact ⟨_, _, rfl, rfl, r6.2.iq hI⟩
        | exact ⟨_, _, rfl, rfl, r7.2.iq hI⟩
        | exact ⟨_, _, rfl, rfl, r8.2.iq hI⟩
        | exact ⟨_, _, rfl, rfl, r9.2.iq hI⟩
        | exact ⟨_, _, rfl, rfl, r10.2.iq hI⟩
        | exact ⟨_, _, rfl, rfl, r11.2.iq hI⟩
        | exact ⟨_, _, rfl, rfl, r12.2.iq hI⟩
        | exact ⟨_, _, rfl, rfl, r13.2.iq hI⟩
        | exact ⟨_, _, rfl, rfl, r14.2.iq hI⟩
        | exact ⟨_, _, rfl, rfl, r15.2.iq hI⟩
        | exact ⟨_, _, rfl, rfl, r16.2.iq hI⟩
        | exact ⟨_, _, rfl, rfl, r17.2.iq hI⟩
        | exact ⟨_, _, rfl, rfl, r18.2.iq hI⟩
        | exact ⟨_, _, rfl, rfl, r19.2.iq hI⟩
    · refine ⟨_, 77, rfl, rfl, ?_⟩
      refine x_aload_n hm rfl rfl ?_
      refine x_cVe hm rfl rfl (t170 hI.1) (fun v5 r5 => ?_)
      refine x_iret hm rfl rfl (by first | rfl | exact bI_nar | decide) ?_
      first
        | exact ⟨_, _, rfl, rfl, r5.2.iq hI⟩
        | exact ⟨_, _, rfl, rfl, Iq.rf hI⟩
        | exact ⟨_, _, rfl, rfl, r1.2.iq hI⟩
        | exact ⟨_, _, rfl, rfl, r2.2.iq hI⟩
        | exact ⟨_, _, rfl, rfl, r3.2.iq hI⟩
        | exact ⟨_, _, rfl, rfl, r4.2.iq hI⟩
        | exact ⟨_, _, rfl, rfl, r6.2.iq hI⟩
        | exact ⟨_, _, rfl, rfl, r7.2.iq hI⟩
        | exact ⟨_, _, rfl, rfl, r8.2.iq hI⟩
        | exact ⟨_, _, rfl, rfl, r9.2.iq hI⟩
        | exact ⟨_, _, rfl, rfl, r10.2.iq hI⟩
        | exact ⟨_, _, rfl, rfl, r11.2.iq hI⟩
        | exact ⟨_, _, rfl, rfl, r12.2.iq hI⟩
        | exact ⟨_, _, rfl, rfl, r13.2.iq hI⟩
        | exact ⟨_, _, rfl, rfl, r14.2.iq hI⟩
        | exact ⟨_, _, rfl, rfl, r15.2.iq hI⟩
        | exact ⟨_, _, rfl, rfl, r16.2.iq hI⟩
        | exact ⟨_, _, rfl, rfl, r17.2.iq hI⟩
        | exact ⟨_, _, rfl, rfl, r18.2.iq hI⟩
        | exact ⟨_, _, rfl, rfl, r19.2.iq hI⟩
    · refine ⟨_, 82, rfl, rfl, ?_⟩
      refine x_aload_n hm rfl rfl ?_
      refine x_getf hm rfl (gI rfl rfl) ?_
      refine x_iret hm rfl rfl (by first | rfl | exact bI_nar | decide) ?_
      first
        | exact ⟨_, _, rfl, rfl, Iq.rf hI⟩
        | exact ⟨_, _, rfl, rfl, r1.2.iq hI⟩
        | exact ⟨_, _, rfl, rfl, r2.2.iq hI⟩
        | exact ⟨_, _, rfl, rfl, r3.2.iq hI⟩
        | exact ⟨_, _, rfl, rfl, r4.2.iq hI⟩
        | exact ⟨_, _, rfl, rfl, r5.2.iq hI⟩
        | exact ⟨_, _, rfl, rfl, r6.2.iq hI⟩
        | exact ⟨_, _, rfl, rfl, r7.2.iq hI⟩
        | exact ⟨_, _, rfl, rfl, r8.2.iq hI⟩
        | exact ⟨_, _, rfl, rfl, r9.2.iq hI⟩
        | exact ⟨_, _, rfl, rfl, r10.2.iq hI⟩
        | exact ⟨_, _, rfl, rfl, r11.2.iq hI⟩
        | exact ⟨_, _, rfl, rfl, r12.2.iq hI⟩
        | exact ⟨_, _, rfl, rfl, r13.2.iq hI⟩
        | exact ⟨_, _, rfl, rfl, r14.2.iq hI⟩
        | exact ⟨_, _, rfl, rfl, r15.2.iq hI⟩
        | exact ⟨_, _, rfl, rfl, r16.2.iq hI⟩
        | exact ⟨_, _, rfl, rfl, r17.2.iq hI⟩
        | exact ⟨_, _, rfl, rfl, r18.2.iq hI⟩
        | exact ⟨_, _, rfl, rfl, r19.2.iq hI⟩
    · refine ⟨_, 87, rfl, rfl, ?_⟩
      refine x_aload_n hm rfl rfl ?_
      refine x_getf hm rfl (gR rfl rfl) ?_
      refine x_iconst hm rfl (v := nI 3) (by decide) ?_
      refine x_iald hm rfl (lI rfl (by omega) (by decide)) ?_
      refine x_iret hm rfl rfl (by first | rfl | exact bI_nar | decide) ?_
      first
        | exact ⟨_, _, rfl, rfl, Iq.rf hI⟩
        | exact ⟨_, _, rfl, rfl, r1.2.iq hI⟩
        | exact ⟨_, _, rfl, rfl, r2.2.iq hI⟩
        | exact ⟨_, _, rfl, rfl, r3.2.iq hI⟩
        | exact ⟨_, _, rfl, rfl, r4.2.iq hI⟩
        | exact ⟨_, _, rfl, rfl, r5.2.iq hI⟩
        | exact ⟨_, _, rfl, rfl, r6.2.iq hI⟩
        | exact ⟨_, _, rfl, rfl, r7.2.iq hI⟩
        | exact ⟨_, _, rfl, rfl, r8.2.iq hI⟩
        | exact ⟨_, _, rfl, rfl, r9.2.iq hI⟩
        | exact ⟨_, _, rfl, rfl, r10.2.iq hI⟩
        | exact ⟨_, _, rfl, rfl, r11.2.iq hI⟩
        | exact ⟨_, _, rfl, rfl, r12.2.iq hI⟩
        | exact ⟨_, _, rfl, rfl, r13.2.iq hI⟩
        | exact ⟨_, _, rfl, rfl, r14.2.iq hI⟩
        | exact ⟨_, _, rfl, rfl, r15.2.iq hI⟩
        | exact ⟨_, _, rfl, rfl, r16.2.iq hI⟩
        | exact ⟨_, _, rfl, rfl, r17.2.iq hI⟩
        | exact ⟨_, _, rfl, rfl, r18.2.iq hI⟩
        | exact ⟨_, _, rfl, rfl, r19.2.iq hI⟩
    · refine ⟨_, 94, rfl, rfl, ?_⟩
      refine x_iconst hm rfl (v := nI 0) (by decide) ?_
      refine x_istore_n hm rfl rfl ?_
      exact l243 hI _ 0 _ (Nat.lt_succ_self _) (Nat.zero_le _)
theorem st_k {v : Int32} (h : (-1 : Int32) ≤ v ∧ v ≤ nI 6) : ∃ k, k ≤ 7 ∧ v + nI 1 = nI k := by
  have h1 := Int32.le_iff_toInt_le.mp h.1
  have h2 := Int32.le_iff_toInt_le.mp h.2
  rw [jI_int (by decide)] at h2
  have e : (-1 : Int32).toInt = -1 := by decide +kernel
  rw [e] at h1
  have e1 : nI 1 = 1 := rfl
  refine jI_of2 (n := 7) ?_
  rw [Int32.toInt_add, jI_int (by decide), Int.bmod_def]
  omega
theorem t244 {a1 : Int32} (hI : Inv M) : ∃ v M', mT X 244 [.ref 66, .int a1] (con M) (some (.int v)) (con M') ∧ Iq M M' := by
  refine ti_of (row := _) rfl (Nat.le_of_ble_eq_true rfl) ?_
  have hm : mMet 244 = some _ := rfl
  refine x_iload_n hm rfl rfl ?_
  refine x_iconst hm rfl (v := (-1 : Int32)) (by decide) ?_
  refine x_bipush hm rfl (v := nI 6) (by decide) ?_
  refine x_callS hm rfl rfl (t133) ?_
  refine x_if_eq hm rfl (t := 21) rfl (fun h1 => ?_) (fun h1 => ?_)
  · refine x_aload_n hm rfl rfl ?_
    refine x_ldcI hm rfl (v := (-1000001 : Int32)) (by decide +kernel) ?_
    refine x_cVi hm rfl rfl (t135 (by decide +kernel)) (fun v2 M2 r2 => ?_)
    refine x_iret hm rfl rfl (by first | rfl | exact bI_nar | decide) ?_
    first
      | exact ⟨_, _, rfl, rfl, r2.2.iq hI⟩
      | exact ⟨_, _, rfl, rfl, Iq.rf hI⟩
      | exact ⟨_, _, rfl, rfl, r1.2.iq hI⟩
      | exact ⟨_, _, rfl, rfl, r3.2.iq hI⟩
      | exact ⟨_, _, rfl, rfl, r4.2.iq hI⟩
      | exact ⟨_, _, rfl, rfl, r5.2.iq hI⟩
      | exact ⟨_, _, rfl, rfl, r6.2.iq hI⟩
      | exact ⟨_, _, rfl, rfl, r7.2.iq hI⟩
      | exact ⟨_, _, rfl, rfl, r8.2.iq hI⟩
      | exact ⟨_, _, rfl, rfl, r9.2.iq hI⟩
      | exact ⟨_, _, rfl, rfl, r10.2.iq hI⟩
      | exact ⟨_, _, rfl, rfl, r11.2.iq hI⟩
      | exact ⟨_, _, rfl, rfl, r12.2.iq hI⟩
      | exact ⟨_, _, rfl, rfl, r13.2.iq hI⟩
      | exact ⟨_, _, rfl, rfl, r14.2.iq hI⟩
      | exact ⟨_, _, rfl, rfl, r15.2.iq hI⟩
      | exact ⟨_, _, rfl, rfl, r16.2.iq hI⟩
      | exact ⟨_, _, rfl, rfl, r17.2.iq hI⟩
      | exact ⟨_, _, rfl, rfl, r18.2.iq hI⟩
      | exact ⟨_, _, rfl, rfl, r19.2.iq hI⟩
  · obtain ⟨k, hk, hk2⟩ := st_k (bI_ne0 h1)
    refine x_aload_n hm rfl rfl ?_
    refine x_getf hm rfl (gR rfl rfl) ?_
    refine x_iload_n hm rfl rfl ?_
    refine x_iconst hm rfl (v := nI 1) (by decide) ?_
    refine x_iadd hm rfl ?_
    rw [hk2]
    refine x_iald hm rfl (lI rfl (by omega) (by decide)) ?_
    refine x_goto hm rfl (t := 27) rfl ?_
    refine x_iret hm rfl rfl (by first | rfl | exact bI_nar | decide) ?_
    first
      | exact ⟨_, _, rfl, rfl, Iq.rf hI⟩
      | exact ⟨_, _, rfl, rfl, r1.2.iq hI⟩
      | exact ⟨_, _, rfl, rfl, r2.2.iq hI⟩
      | exact ⟨_, _, rfl, rfl, r3.2.iq hI⟩
      | exact ⟨_, _, rfl, rfl, r4.2.iq hI⟩
      | exact ⟨_, _, rfl, rfl, r5.2.iq hI⟩
      | exact ⟨_, _, rfl, rfl, r6.2.iq hI⟩
      | exact ⟨_, _, rfl, rfl, r7.2.iq hI⟩
      | exact ⟨_, _, rfl, rfl, r8.2.iq hI⟩
      | exact ⟨_, _, rfl, rfl, r9.2.iq hI⟩
      | exact ⟨_, _, rfl, rfl, r10.2.iq hI⟩
      | exact ⟨_, _, rfl, rfl, r11.2.iq hI⟩
      | exact ⟨_, _, rfl, rfl, r12.2.iq hI⟩
      | exact ⟨_, _, rfl, rfl, r13.2.iq hI⟩
      | exact ⟨_, _, rfl, rfl, r14.2.iq hI⟩
      | exact ⟨_, _, rfl, rfl, r15.2.iq hI⟩
      | exact ⟨_, _, rfl, rfl, r16.2.iq hI⟩
      | exact ⟨_, _, rfl, rfl, r17.2.iq hI⟩
      | exact ⟨_, _, rfl, rfl, r18.2.iq hI⟩
      | exact ⟨_, _, rfl, rfl, r19.2.iq hI⟩
end RK
end
