/-! ===== the reference: what was worn, strollers, odds, the tape ===== -/
section RI
variable {X : mSc} {Q : Option Value → mHp → Prop} {M : mM}
def lk (M : mM) (s : Int32) : Int32 := if nI 0 ≤ s ∧ s ≤ nI 3 then (if M 76 s.toNatClampNeg = 0 then (-1000006) else nI 0) else (-1000001)
theorem lk_fd {s : Int32} (h : ¬ lk M s = 0) : FD (lk M s) := by
  unfold lk at h ⊢
  split
  · rename_i h1
    rw [if_pos h1] at h
    split
    · decide
    · rename_i h2
      rw [if_neg h2] at h
      exact absurd rfl h
  · decide
theorem lk_k {s : Int32} (h : lk M s = 0) : ∃ k, k ≤ 3 ∧ s = nI k := by
  unfold lk at h
  split at h
  · rename_i h1
    exact le_k (by decide) h1
  · exact absurd h (by decide)
theorem le1_k {v : Int32} {n : Nat} (hn : n ≤ 999) (h : nI 1 ≤ v ∧ v ≤ nI n) : ∃ k, k ≤ n ∧ 1 ≤ k ∧ v = nI k := by
  have h0 : nI 0 ≤ v := Int32.le_trans (by decide) h.1
  obtain ⟨k, hk, rfl⟩ := le_k hn ⟨h0, h.2⟩
  exact ⟨k, hk, (jI_le (by decide) (by omega)).mp h.1, rfl⟩
theorem odd_k : ∀ b, b ≤ 16 → 1 ≤ b → nI b - nI b / nI 2 * nI 2 = 0 → 1 ≤ b / 2 ∧ b / 2 < b ∧ nI b / nI 2 = nI (b / 2) := by decide +kernel
theorem dec1 (i : Nat) : nI (i + 1) + (-1) = nI i := by
  rw [← jI_add i 1]
  have e : nI 1 = 1 := rfl
  rw [e, Int32.add_assoc]
  have e2 : (1 : Int32) + (-1) = 0 := by decide +kernel
  rw [e2, Int32.add_zero]
theorem sub1 (v : Int32) : v - nI 1 = v + (-1) := by
  have e : nI 1 = 1 := rfl
  rw [e, Int32.sub_eq_add_neg]
theorem mput_ne {a b i j : Nat} {v : Int32} (h : i ≠ a) : mput M a b v i j = M i j := by
  unfold mput
  rw [if_neg fun e => h e.1]
theorem Sf.taped {v : Int32} (h : okx 4 v) : Sf M (mput M 66 9 v) := Sf.put h (by decide) (fun e => absurd e (by decide))
def QL (P : Int64 → mM → Prop) : Option Value → mHp → Prop := fun r D => ∃ v M', r = some (.long v) ∧ D = con M' ∧ P v M'
theorem tl_of {mid : Nat} {row : mRow} {as : List Value} {P : Int64 → mM → Prop} (hm : mMet mid = some row) (hb : as.length ≤ row.2.2.2.1) (h : mEv X (QL P) mid 0 (mEnv row.2.2.2.1 as) [] (con M)) : ∃ v M', mT X mid as (con M) (some (.long v)) (con M') ∧ P v M' := by
  obtain ⟨n, r1, D1, h1, v, M', rfl, rfl, hr⟩ := h
  exact ⟨v, M', ⟨row, n, hm, hb, h1⟩, hr⟩
theorem t209 {s : Int32} : mT X 209 [.ref 66, .int s] (con M) (some (.int (lk M s))) (con M) := by
  refine mT.of (row := _) rfl (Nat.le_of_ble_eq_true rfl) ?_
  have hm : mMet 209 = some _ := rfl
  refine x_iload_n hm rfl rfl ?_
  refine x_callS hm rfl rfl (t210) ?_
  refine x_if_ne hm rfl (t := 12) rfl (fun h1 => ?_) (fun h1 => ?_)
  · have hs := bI_ne0 h1
    obtain ⟨k, hk, e⟩ := le_k (by decide) hs
    subst e
    refine x_aload_n hm rfl rfl ?_
    refine x_getf hm rfl (gR rfl rfl) ?_
    refine x_iload_n hm rfl rfl ?_
    refine x_iald hm rfl (lI rfl (by omega) (by decide)) ?_
    refine x_if_ne hm rfl (t := 26) rfl (fun h2 => ?_) (fun h2 => ?_)
    · refine x_iconst hm rfl (v := nI 0) (by decide) ?_
      refine x_iret hm rfl rfl (by first | rfl | exact bI_nar | decide) ?_
      exact qt (congrArg Value.int (by unfold lk; first | rw [if_neg (bI_eq0.mp h1)] | rw [if_pos hs, jI_nat (by omega), if_pos h2] | rw [if_pos hs, jI_nat (by omega), if_neg h2]))
    · refine x_ldcI hm rfl (v := (-1000006 : Int32)) (by decide +kernel) ?_
      refine x_goto hm rfl (t := 27) rfl ?_
      refine x_iret hm rfl rfl (by first | rfl | exact bI_nar | decide) ?_
      exact qt (congrArg Value.int (by unfold lk; first | rw [if_neg (bI_eq0.mp h1)] | rw [if_pos hs, jI_nat (by omega), if_pos h2] | rw [if_pos hs, jI_nat (by omega), if_neg h2]))
  · refine x_ldcI hm rfl (v := (-1000001 : Int32)) (by decide +kernel) ?_
    refine x_goto hm rfl (t := 27) rfl ?_
    refine x_iret hm rfl rfl (by first | rfl | exact bI_nar | decide) ?_
    exact qt (congrArg Value.int (by unfold lk; first | rw [if_neg (bI_eq0.mp h1)] | rw [if_pos hs, jI_nat (by omega), if_pos h2] | rw [if_pos hs, jI_nat (by omega), if_neg h2]))
theorem l212 {s t : Nat} (hW : Wf M) (hs : s ≤ 3) (ht : t < 8) : ∀ (n k : Nat) (b : Int32) (x5 : Option Value) (M1 : mM), 41 - k < n → k ≤ 41 → (b = nI 0 ∨ b = nI 1) → Dy (cp M 67 69 118) M1 → mEv X (QI (fun v M' => (v = nI 0 ∨ v = nI 1) ∧ Sf M M')) 212 16 [some (.ref 66), some (.int (nI s)), some (.int (nI t)), some (.int b), some (.int (nI k)), x5] [] (con M1) := by
  have hm : mMet 212 = some _ := rfl
  intro n
  induction n with
  | zero =>
    intro k b x5 M1 hkn hkb h01 hD
    omega
  | succ n ih =>
    intro k b x5 M1 hkn hkb h01 hD
    have hW1 := hD.1.1 hW.aside
    obtain ⟨z, hz, hz2⟩ := ok5 (show okx 5 (M1 77 s) from hW1 77 s)
    refine x_iload hm rfl rfl ?_
    refine x_aload_n hm rfl rfl ?_
    refine x_getf hm rfl (gR rfl rfl) ?_
    refine x_iload_n hm rfl rfl ?_
    refine x_iald hm rfl (lI rfl (by omega) (by decide)) ?_
    rw [hz2]
    refine x_icmp_ge hm rfl (t := 78) rfl (fun h1 => ?_) (fun h1 => ?_)
    · refine x_aload_n hm rfl rfl ?_
      refine x_getf hm rfl (gR rfl rfl) ?_
      refine x_aload_n hm rfl rfl ?_
      refine x_getf hm rfl (gR rfl rfl) ?_
      refine x_callS hm rfl rfl (t174 rfl rfl (by decide)) ?_
      refine x_iload_n hm rfl rfl ?_
      refine x_iret hm rfl rfl (nar01 h01) ?_
      exact ⟨_, _, rfl, rfl, h01, Sf.trial hD⟩ --stop
    · have hk : k < z := Nat.lt_of_not_le fun h => h1 (nI_le h (by omega))
      refine x_iload_n hm rfl rfl ?_
      refine x_if_eq hm rfl (t := 78) rfl (fun h2 => ?_) (fun h2 => ?_)
      · refine x_aload_n hm rfl rfl ?_
        refine x_getf hm rfl (gR rfl rfl) ?_
        refine x_aload_n hm rfl rfl ?_
        refine x_getf hm rfl (gR rfl rfl) ?_
        refine x_callS hm rfl rfl (t174 rfl rfl (by decide)) ?_
        refine x_iload_n hm rfl rfl ?_
        refine x_iret hm rfl rfl (nar01 h01) ?_
        exact ⟨_, _, rfl, rfl, h01, Sf.trial hD⟩ --stop
      · refine x_aload_n hm rfl rfl ?_
        refine x_getf hm rfl (gR rfl rfl) ?_
        refine x_bipush hm rfl (v := nI 40) (by decide) ?_
        refine x_iload_n hm rfl rfl ?_
        refine x_imul hm rfl ?_
        rw [jI_mul]
        refine x_iload hm rfl rfl ?_
        refine x_iadd hm rfl ?_
        rw [jI_add]
        refine x_iald hm rfl (lI rfl (by omega) (by decide)) ?_
        refine x_istore hm rfl rfl ?_
        refine x_iload hm rfl rfl ?_
        refine x_iconst hm rfl (v := (-1 : Int32)) (by decide) ?_
        refine x_icmp_eq hm rfl (t := 62) rfl (fun h3 => ?_) (fun h3 => ?_)
        · refine x_iconst hm rfl (v := nI 1) (by decide) ?_
          refine x_goto hm rfl (t := 67) rfl ?_
          refine x_istore_n hm rfl rfl ?_
          refine x_aload_n hm rfl rfl ?_
          refine x_cVv hm rfl rfl (t165 hW1) (fun M4 r4 => ?_)
          refine x_iinc hm rfl rfl (v := nI 1) (by decide) rfl ?_
          rw [jI_add]
          refine x_goto hm rfl (t := 16) rfl ?_
          first
            | exact ih _ _ _ _ (by omega) (by omega) (by first | exact Or.inl rfl | exact Or.inr rfl) (hD.trans r4)
            | exact ih _ _ _ _ (by omega) (by omega) (by first | exact Or.inl rfl | exact Or.inr rfl) (hD.trans r2)
            | exact ih _ _ _ _ (by omega) (by omega) (by first | exact Or.inl rfl | exact Or.inr rfl) (hD.trans r3)
            | exact ih _ _ _ _ (by omega) (by omega) (by first | exact Or.inl rfl | exact Or.inr rfl) (hD.trans r5)
            | exact ih _ _ _ _ (by omega) (by omega) (by first | exact Or.inl rfl | exact Or.inr rfl) (hD.trans r6)
            | exact ih _ _ _ _ (by omega) (by omega) (by first | exact Or.inl rfl | exact Or.inr rfl) (hD.trans r7)
            | exact ih _ _ _ _ (by omega) (by omega) (by first | exact Or.inl rfl | exact Or.inr rfl) (hD.trans r8)
            | exact ih _ _ _ _ (by omega) (by omega) (by first | exact Or.inl rfl | exact Or.inr rfl) (hD.trans r9)
            | exact ih _ _ _ _ (by omega) (by omega) (by first | exact Or.inl rfl | exact Or.inr rfl) (hD.trans r10)
            | exact ih _ _ _ _ (by omega) (by omega) (by first | exact Or.inl rfl | exact Or.inr rfl) (hD.trans r11)
        · refine x_iload hm rfl rfl ?_
          refine x_aload_n hm rfl rfl ?_
          refine x_iload_n hm rfl rfl ?_
          refine x_iconst hm rfl (v := nI 2) (by decide) ?_
          refine x_callV hm rfl rfl (t143 (by omega) (by omega)) ?_
          refine x_icmp_ne hm rfl (t := 66) rfl (fun h5 => ?_) (fun h5 => ?_)
          · refine x_iconst hm rfl (v := nI 0) (by decide) ?_
            refine x_istore_n hm rfl rfl ?_
            refine x_aload_n hm rfl rfl ?_
            refine x_cVv hm rfl rfl (t165 hW1) (fun M6 r6 => ?_)
            refine x_iinc hm rfl rfl (v := nI 1) (by decide) rfl ?_
            rw [jI_add]
            refine x_goto hm rfl (t := 16) rfl ?_
            first
              | exact ih _ _ _ _ (by omega) (by omega) (by first | exact Or.inl rfl | exact Or.inr rfl) (hD.trans r6)
              | exact ih _ _ _ _ (by omega) (by omega) (by first | exact Or.inl rfl | exact Or.inr rfl) (hD.trans r2)
              | exact ih _ _ _ _ (by omega) (by omega) (by first | exact Or.inl rfl | exact Or.inr rfl) (hD.trans r3)
              | exact ih _ _ _ _ (by omega) (by omega) (by first | exact Or.inl rfl | exact Or.inr rfl) (hD.trans r4)
              | exact ih _ _ _ _ (by omega) (by omega) (by first | exact Or.inl rfl | exact Or.inr rfl) (hD.trans r5)
              | exact ih _ _ _ _ (by omega) (by omega) (by first | exact Or.inl rfl | exact Or.inr rfl) (hD.trans r7)
              | exact ih _ _ _ _ (by omega) (by omega) (by first | exact Or.inl rfl | exact Or.inr rfl) (hD.trans r8)
              | exact ih _ _ _ _ (by omega) (by omega) (by first | exact Or.inl rfl | exact Or.inr rfl) (hD.trans r9)
              | exact ih _ _ _ _ (by omega) (by omega) (by first | exact Or.inl rfl | exact Or.inr rfl) (hD.trans r10)
              | exact ih _ _ _ _ (by omega) (by omega) (by first | exact Or.inl rfl | exact Or.inr rfl) (hD.trans r11)
          · refine x_iconst hm rfl (v := nI 1) (by decide) ?_
            refine x_goto hm rfl (t := 67) rfl ?_
            refine x_istore_n hm rfl rfl ?_
            refine x_aload_n hm rfl rfl ?_
            refine x_cVv hm rfl rfl (t165 hW1) (fun M7 r7 => ?_)
            refine x_iinc hm rfl rfl (v := nI 1) (by decide) rfl ?_
            rw [jI_add]
            refine x_goto hm rfl (t := 16) rfl ?_
            first
              | exact ih _ _ _ _ (by omega) (by omega) (by first | exact Or.inl rfl | exact Or.inr rfl) (hD.trans r7)
              | exact ih _ _ _ _ (by omega) (by omega) (by first | exact Or.inl rfl | exact Or.inr rfl) (hD.trans r2)
              | exact ih _ _ _ _ (by omega) (by omega) (by first | exact Or.inl rfl | exact Or.inr rfl) (hD.trans r3)
              | exact ih _ _ _ _ (by omega) (by omega) (by first | exact Or.inl rfl | exact Or.inr rfl) (hD.trans r4)
              | exact ih _ _ _ _ (by omega) (by omega) (by first | exact Or.inl rfl | exact Or.inr rfl) (hD.trans r5)
              | exact ih _ _ _ _ (by omega) (by omega) (by first | exact Or.inl rfl | exact Or.inr rfl) (hD.trans r6)
              | exact ih _ _ _ _ (by omega) (by omega) (by first | exact Or.inl rfl | exact Or.inr rfl) (hD.trans r8)
              | exact ih _ _ _ _ (by omega) (by omega) (by first | exact Or.inl rfl | exact Or.inr rfl) (hD.trans r9)
              | exact ih _ _ _ _ (by omega) (by omega) (by first | exact Or.inl rfl | exact Or.inr rfl) (hD.trans r10)
              | exact ih _ _ _ _ (by omega) (by omega) (by first | exact Or.inl rfl | exact Or.inr rfl) (hD.trans r11)
theorem t212 {s t : Nat} (hW : Wf M) (hs : s ≤ 3) (ht : t < 8) : ∃ v M', mT X 212 [.ref 66, .int (nI s), .int (nI t)] (con M) (some (.int v)) (con M') ∧ (v = nI 0 ∨ v = nI 1) ∧ Sf M M' := by
  refine ti_of (row := _) rfl (Nat.le_of_ble_eq_true rfl) ?_
  have hm : mMet 212 = some _ := rfl
  refine x_aload_n hm rfl rfl ?_
  refine x_getf hm rfl (gR rfl rfl) ?_
  refine x_aload_n hm rfl rfl ?_
  refine x_getf hm rfl (gR rfl rfl) ?_
  refine x_callS hm rfl rfl (t174 rfl rfl (by decide)) ?_
  refine x_iconst hm rfl (v := nI 1) (by decide) ?_
  refine x_istore_n hm rfl rfl ?_
  refine x_iconst hm rfl (v := nI 0) (by decide) ?_
  refine x_istore hm rfl rfl ?_
  exact l212 hW hs ht _ 0 _ _ _ (Nat.lt_succ_self _) (Nat.zero_le _) (Or.inr rfl) Dy.rf
theorem l211 {s p t : Nat} {i : Nat} {c : Int32} (hW : Wf M) (hs : s ≤ 3) (ht : t < 8) (hp : p < 8) (hi : i < 7) : ∀ (n k : Nat) (b : Int32) (M1 : mM), 10 - k < n → k ≤ 10 → Sf M M1 → mEv X (QI (fun _ M' => Sf M M')) 211 29 [some (.ref 66), some (.int (nI s)), some (.int (nI p)), some (.int (nI t)), some (.int (nI (62 + 7 * p + i))), some (.int c), some (.int b), some (.int (nI k))] [] (con M1) := by
  have hm : mMet 211 = some _ := rfl
  intro n
  induction n with
  | zero =>
    intro k b M1 hkn hkb hS
    omega
  | succ n ih =>
    intro k b M1 hkn hkb hS
    refine x_iload hm rfl rfl ?_
    refine x_bipush hm rfl (v := nI 9) (by decide) ?_
    refine x_icmp_gt hm rfl (t := 73) rfl (fun h1 => ?_) (fun h1 => ?_)
    · refine x_aload_n hm rfl rfl ?_
      refine x_getf hm rfl (gR rfl rfl) ?_
      refine x_iload hm rfl rfl ?_
      refine x_iload hm rfl rfl ?_
      refine x_iast hm rfl (sI rfl (by omega) (by decide)) ?_
      refine x_iload hm rfl rfl ?_
      refine x_iret hm rfl rfl (by first | rfl | exact bI_nar | decide) ?_
      exact ⟨_, _, rfl, rfl, hS.trans (Sf.person hp hi)⟩
    · have hk : k ≤ 9 := Nat.le_of_not_lt fun h => h1 (nI_lt h (by omega))
      refine x_aload_n hm rfl rfl ?_
      refine x_getf hm rfl (gR rfl rfl) ?_
      refine x_iload hm rfl rfl ?_
      refine x_iload hm rfl rfl ?_
      refine x_iast hm rfl (sI rfl (by omega) (by decide)) ?_
      have hS2 := hS.trans (Sf.person (M := M1) (v := nI k) hp hi)
      refine x_iload hm rfl rfl ?_
      refine x_aload_n hm rfl rfl ?_
      refine x_iload_n hm rfl rfl ?_
      refine x_iload_n hm rfl rfl ?_
      refine x_cVi hm rfl rfl (t212 (hS2.1 hW) hs ht) (fun v2 M2 r2 => ?_)
      refine x_if_eq hm rfl (t := 63) rfl (fun h3 => ?_) (fun h3 => ?_)
      · refine x_iconst hm rfl (v := nI 0) (by decide) ?_
        refine x_ior hm rfl ?_
        refine x_istore hm rfl rfl ?_
        refine x_iinc hm rfl rfl (v := nI 1) (by decide) rfl ?_
        rw [jI_add]
        refine x_goto hm rfl (t := 29) rfl ?_
        exact ih _ _ _ (by omega) (by omega) (hS2.trans r2.2)
      · refine x_iconst hm rfl (v := nI 1) (by decide) ?_
        refine x_iload hm rfl rfl ?_
        refine x_ishl hm rfl ?_
        refine x_goto hm rfl (t := 64) rfl ?_
        refine x_ior hm rfl ?_
        refine x_istore hm rfl rfl ?_
        refine x_iinc hm rfl rfl (v := nI 1) (by decide) rfl ?_
        rw [jI_add]
        refine x_goto hm rfl (t := 29) rfl ?_
        exact ih _ _ _ (by omega) (by omega) (hS2.trans r2.2)
theorem t211 {s p t : Nat} (hW : Wf M) (hs : s ≤ 3) (ht : t < 8) (hp : p < 8) : ∃ v M', mT X 211 [.ref 66, .int (nI s), .int (nI p), .int (nI t)] (con M) (some (.int v)) (con M') ∧ Sf M M' := by
  refine ti_of (row := _) rfl (Nat.le_of_ble_eq_true rfl) ?_
  have hm : mMet 211 = some _ := rfl
  obtain ⟨w, hw3, hw⟩ := hW.sort ht
  refine x_iload_n hm rfl rfl ?_
  refine x_iconst hm rfl (v := nI 3) (by decide) ?_
  refine x_aload_n hm rfl rfl ?_
  refine x_iload_n hm rfl rfl ?_
  refine x_iconst hm rfl (v := nI 0) (by decide) ?_
  refine x_callV hm rfl rfl (t143 (by omega) (by omega)) ?_
  rw [hw]
  refine x_iadd hm rfl ?_
  rw [jI_add]
  refine x_callS hm rfl rfl (t142) ?_
  refine x_istore hm rfl rfl ?_
  refine x_aload_n hm rfl rfl ?_
  refine x_getf hm rfl (gR rfl rfl) ?_
  refine x_iload hm rfl rfl ?_
  refine x_iald hm rfl (lI rfl (by omega) (by decide)) ?_
  refine x_istore hm rfl rfl ?_
  refine x_iconst hm rfl (v := nI 0) (by decide) ?_
  refine x_istore hm rfl rfl ?_
  refine x_iconst hm rfl (v := nI 0) (by decide) ?_
  refine x_istore hm rfl rfl ?_
  exact l211 hW hs ht hp (by omega) _ 0 _ _ (Nat.lt_succ_self _) (Nat.zero_le _) Sf.rf
theorem t208 {a1 a2 a3 : Int32} (hI : Inv M) : ∃ v M', mT X 208 [.ref 66, .int a1, .int a2, .int a3] (con M) (some (.int v)) (con M') ∧ Inv M' := by
  refine ti_of (row := _) rfl (Nat.le_of_ble_eq_true rfl) ?_
  have hm : mMet 208 = some _ := rfl
  obtain ⟨np, hp8, hnp⟩ := hI.1.np
  obtain ⟨nt, hn8, hnt⟩ := hI.1.nt
  refine x_aload_n hm rfl rfl ?_
  refine x_iload_n hm rfl rfl ?_
  refine x_callV hm rfl rfl (t209) ?_
  refine x_if_eq hm rfl (t := 18) rfl (fun h1 => ?_) (fun h1 => ?_)
  · obtain ⟨s, hs, rfl⟩ := lk_k h1
    refine x_aload_n hm rfl rfl ?_
    refine x_iload_n hm rfl rfl ?_
    refine x_callV hm rfl rfl (t153) ?_
    refine x_if_eq hm rfl (t := 47) rfl (fun h2 => ?_) (fun h2 => ?_)
    · refine x_aload_n hm rfl rfl ?_
      refine x_ldcI hm rfl (v := (-1000001 : Int32)) (by decide +kernel) ?_
      refine x_cVi hm rfl rfl (t135 (by decide +kernel)) (fun v3 M3 r3 => ?_)
      refine x_iret hm rfl rfl (by first | rfl | exact bI_nar | decide) ?_
      exact ⟨_, _, rfl, rfl, by first | exact hI | exact (r1.2.inv hI) | exact (r2.2.inv hI) | exact (r3.2.inv hI) | exact (r4.2.inv hI) | exact (r5.2.inv hI) | exact (r6.2.inv hI) | exact (r7.2.inv hI) | exact (r8.2.inv hI) | exact (r1.inv hI) | exact (r2.inv hI) | exact (r3.inv hI) | exact (r4.inv hI) | exact (r5.inv hI) | exact (r6.inv hI) | exact (r7.inv hI) | exact (r8.inv hI)⟩
    · obtain ⟨p, hp, rfl⟩ := in_k hnp (by omega) (bI_ne0 h2)
      refine x_aload_n hm rfl rfl ?_
      refine x_iload_n hm rfl rfl ?_
      refine x_callV hm rfl rfl (t139) ?_
      refine x_if_eq hm rfl (t := 47) rfl (fun h4 => ?_) (fun h4 => ?_)
      · refine x_aload_n hm rfl rfl ?_
        refine x_ldcI hm rfl (v := (-1000001 : Int32)) (by decide +kernel) ?_
        refine x_cVi hm rfl rfl (t135 (by decide +kernel)) (fun v5 M5 r5 => ?_)
        refine x_iret hm rfl rfl (by first | rfl | exact bI_nar | decide) ?_
        exact ⟨_, _, rfl, rfl, by first | exact hI | exact (r1.2.inv hI) | exact (r2.2.inv hI) | exact (r3.2.inv hI) | exact (r4.2.inv hI) | exact (r5.2.inv hI) | exact (r6.2.inv hI) | exact (r7.2.inv hI) | exact (r8.2.inv hI) | exact (r1.inv hI) | exact (r2.inv hI) | exact (r3.inv hI) | exact (r4.inv hI) | exact (r5.inv hI) | exact (r6.inv hI) | exact (r7.inv hI) | exact (r8.inv hI)⟩
      · obtain ⟨t, ht, rfl⟩ := in_k hnt (by omega) (bI_ne0 h4)
        refine x_aload_n hm rfl rfl ?_
        refine x_iload_n hm rfl rfl ?_
        refine x_iload_n hm rfl rfl ?_
        refine x_iload_n hm rfl rfl ?_
        refine x_cVi hm rfl rfl (t211 hI.1 (by omega) (by omega) (by omega)) (fun v6 M6 r6 => ?_)
        refine x_cSe hm rfl rfl (t168) (fun v7 r7 => ?_)
        refine x_goto hm rfl (t := 53) rfl ?_
        refine x_iret hm rfl rfl (by first | rfl | exact bI_nar | decide) ?_
        exact ⟨_, _, rfl, rfl, by first | exact hI | exact (r1.2.inv hI) | exact (r2.2.inv hI) | exact (r3.2.inv hI) | exact (r4.2.inv hI) | exact (r5.2.inv hI) | exact (r6.2.inv hI) | exact (r7.2.inv hI) | exact (r8.2.inv hI) | exact (r1.inv hI) | exact (r2.inv hI) | exact (r3.inv hI) | exact (r4.inv hI) | exact (r5.inv hI) | exact (r6.inv hI) | exact (r7.inv hI) | exact (r8.inv hI)⟩
  · refine x_aload_n hm rfl rfl ?_
    refine x_aload_n hm rfl rfl ?_
    refine x_iload_n hm rfl rfl ?_
    refine x_callV hm rfl rfl (t209) ?_
    refine x_cVi hm rfl rfl (t135 (lk_fd h1)) (fun v8 M8 r8 => ?_)
    refine x_iret hm rfl rfl (by first | rfl | exact bI_nar | decide) ?_
    exact ⟨_, _, rfl, rfl, by first | exact hI | exact (r1.2.inv hI) | exact (r2.2.inv hI) | exact (r3.2.inv hI) | exact (r4.2.inv hI) | exact (r5.2.inv hI) | exact (r6.2.inv hI) | exact (r7.2.inv hI) | exact (r8.2.inv hI) | exact (r1.inv hI) | exact (r2.inv hI) | exact (r3.inv hI) | exact (r4.inv hI) | exact (r5.inv hI) | exact (r6.inv hI) | exact (r7.inv hI) | exact (r8.inv hI)⟩
theorem l213 {s p t : Nat} {c : Int32} {M0 : mM} (hI : Inv M0) (hS : Sf M0 M) : ∀ (n k : Nat), 11 - k < n → k ≤ 10 → mEv X (QI (fun _ M' => Inv M')) 213 53 [some (.ref 66), some (.int (nI s)), some (.int (nI p)), some (.int (nI t)), some (.int c), some (.int (nI k))] [] (con M) := by
  have hm : mMet 213 = some _ := rfl
  intro n
  induction n with
  | zero =>
    intro k hkn hkb
    omega
  | succ n ih =>
    intro k hkn hkb
    refine x_iload hm rfl rfl ?_
    refine x_bipush hm rfl (v := nI 9) (by decide) ?_
    refine x_icmp_gt hm rfl (t := 76) rfl (fun h1 => ?_) (fun h1 => ?_)
    · refine x_iload hm rfl rfl ?_
      refine x_bipush hm rfl (v := nI 9) (by decide) ?_
      refine x_icmp_le hm rfl (t := 92) rfl (fun h2 => ?_) (fun h2 => ?_)
      · refine x_iload hm rfl rfl ?_
        refine x_iret hm rfl rfl (by first | rfl | exact bI_nar | decide) ?_
        exact ⟨_, _, rfl, rfl, by first | exact hS.inv hI | exact (hS.trans r3.2.sf).inv hI | exact (hS.trans r4.2.sf).inv hI | exact (hS.trans r5.2.sf).inv hI | exact (hS.trans r6.2.sf).inv hI | exact (hS.trans r7.2.sf).inv hI | exact (hS.trans r8.2.sf).inv hI | exact (hS.trans r2.2.sf).inv hI⟩
      · refine x_aload_n hm rfl rfl ?_
        refine x_ldcI hm rfl (v := (-1000004 : Int32)) (by decide +kernel) ?_
        refine x_cVi hm rfl rfl (t135 (by decide +kernel)) (fun v3 M3 r3 => ?_)
        refine x_goto hm rfl (t := 94) rfl ?_
        refine x_iret hm rfl rfl (by first | rfl | exact bI_nar | decide) ?_
        exact ⟨_, _, rfl, rfl, by first | exact hS.inv hI | exact (hS.trans r3.2.sf).inv hI | exact (hS.trans r4.2.sf).inv hI | exact (hS.trans r5.2.sf).inv hI | exact (hS.trans r6.2.sf).inv hI | exact (hS.trans r7.2.sf).inv hI | exact (hS.trans r8.2.sf).inv hI | exact (hS.trans r2.2.sf).inv hI⟩
    · have hk : k ≤ 9 := Nat.le_of_not_lt fun h => h1 (nI_lt h (by omega))
      refine x_iload hm rfl rfl ?_
      refine x_iload hm rfl rfl ?_
      refine x_cSe hm rfl rfl (t191) (fun v4 r4 => ?_)
      refine x_if_ne hm rfl (t := 76) rfl (fun h5 => ?_) (fun h5 => ?_)
      · refine x_iload hm rfl rfl ?_
        refine x_bipush hm rfl (v := nI 9) (by decide) ?_
        refine x_icmp_le hm rfl (t := 92) rfl (fun h6 => ?_) (fun h6 => ?_)
        · refine x_iload hm rfl rfl ?_
          refine x_iret hm rfl rfl (by first | rfl | exact bI_nar | decide) ?_
          exact ⟨_, _, rfl, rfl, by first | exact hS.inv hI | exact (hS.trans r3.2.sf).inv hI | exact (hS.trans r4.2.sf).inv hI | exact (hS.trans r5.2.sf).inv hI | exact (hS.trans r6.2.sf).inv hI | exact (hS.trans r7.2.sf).inv hI | exact (hS.trans r8.2.sf).inv hI | exact (hS.trans r2.2.sf).inv hI⟩
        · refine x_aload_n hm rfl rfl ?_
          refine x_ldcI hm rfl (v := (-1000004 : Int32)) (by decide +kernel) ?_
          refine x_cVi hm rfl rfl (t135 (by decide +kernel)) (fun v7 M7 r7 => ?_)
          refine x_goto hm rfl (t := 94) rfl ?_
          refine x_iret hm rfl rfl (by first | rfl | exact bI_nar | decide) ?_
          exact ⟨_, _, rfl, rfl, by first | exact hS.inv hI | exact (hS.trans r3.2.sf).inv hI | exact (hS.trans r4.2.sf).inv hI | exact (hS.trans r5.2.sf).inv hI | exact (hS.trans r6.2.sf).inv hI | exact (hS.trans r7.2.sf).inv hI | exact (hS.trans r8.2.sf).inv hI | exact (hS.trans r2.2.sf).inv hI⟩
      · refine x_iinc hm rfl rfl (v := nI 1) (by decide) rfl ?_
        rw [jI_add]
        refine x_goto hm rfl (t := 53) rfl ?_
        exact ih _ (by omega) (by omega)
theorem t213 {a1 a2 a3 : Int32} (hI : Inv M) : ∃ v M', mT X 213 [.ref 66, .int a1, .int a2, .int a3] (con M) (some (.int v)) (con M') ∧ Inv M' := by
  refine ti_of (row := _) rfl (Nat.le_of_ble_eq_true rfl) ?_
  have hm : mMet 213 = some _ := rfl
  obtain ⟨np, hp8, hnp⟩ := hI.1.np
  obtain ⟨nt, hn8, hnt⟩ := hI.1.nt
  refine x_aload_n hm rfl rfl ?_
  refine x_iload_n hm rfl rfl ?_
  refine x_callV hm rfl rfl (t209) ?_
  refine x_if_eq hm rfl (t := 18) rfl (fun h1 => ?_) (fun h1 => ?_)
  · obtain ⟨s, hs, rfl⟩ := lk_k h1
    refine x_aload_n hm rfl rfl ?_
    refine x_iload_n hm rfl rfl ?_
    refine x_callV hm rfl rfl (t153) ?_
    refine x_if_eq hm rfl (t := 34) rfl (fun h2 => ?_) (fun h2 => ?_)
    · refine x_aload_n hm rfl rfl ?_
      refine x_ldcI hm rfl (v := (-1000001 : Int32)) (by decide +kernel) ?_
      refine x_cVi hm rfl rfl (t135 (by decide +kernel)) (fun v3 M3 r3 => ?_)
      refine x_iret hm rfl rfl (by first | rfl | exact bI_nar | decide) ?_
      exact ⟨_, _, rfl, rfl, by first | exact hI | exact (r1.2.inv hI) | exact (r2.2.inv hI) | exact (r3.2.inv hI) | exact (r4.2.inv hI) | exact (r5.2.inv hI) | exact (r6.2.inv hI) | exact (r7.2.inv hI) | exact (r8.2.inv hI) | exact (r1.inv hI) | exact (r2.inv hI) | exact (r3.inv hI) | exact (r4.inv hI) | exact (r5.inv hI) | exact (r6.inv hI) | exact (r7.inv hI) | exact (r8.inv hI)⟩
    · obtain ⟨p, hp, rfl⟩ := in_k hnp (by omega) (bI_ne0 h2)
      refine x_aload_n hm rfl rfl ?_
      refine x_iload_n hm rfl rfl ?_
      refine x_callV hm rfl rfl (t139) ?_
      refine x_if_ne hm rfl (t := 41) rfl (fun h4 => ?_) (fun h4 => ?_)
      · obtain ⟨t, ht, rfl⟩ := in_k hnt (by omega) (bI_ne0 h4)
        refine x_aload_n hm rfl rfl ?_
        refine x_iload_n hm rfl rfl ?_
        refine x_iload_n hm rfl rfl ?_
        refine x_iload_n hm rfl rfl ?_
        refine x_cVi hm rfl rfl (t211 hI.1 (by omega) (by omega) (by omega)) (fun v5 M5 r5 => ?_)
        refine x_istore hm rfl rfl ?_
        refine x_iconst hm rfl (v := nI 0) (by decide) ?_
        refine x_istore hm rfl rfl ?_
        first
          | exact l213 hI r5 _ 0 (Nat.lt_succ_self _) (Nat.zero_le _)
          | exact l213 hI r1 _ 0 (Nat.lt_succ_self _) (Nat.zero_le _)
          | exact l213 hI r2 _ 0 (Nat.lt_succ_self _) (Nat.zero_le _)
          | exact l213 hI r3 _ 0 (Nat.lt_succ_self _) (Nat.zero_le _)
          | exact l213 hI r4 _ 0 (Nat.lt_succ_self _) (Nat.zero_le _)
          | exact l213 hI r6 _ 0 (Nat.lt_succ_self _) (Nat.zero_le _)
          | exact l213 hI r7 _ 0 (Nat.lt_succ_self _) (Nat.zero_le _)
          | exact l213 hI r8 _ 0 (Nat.lt_succ_self _) (Nat.zero_le _)
      · refine x_aload_n hm rfl rfl ?_
        refine x_ldcI hm rfl (v := (-1000001 : Int32)) (by decide +kernel) ?_
        refine x_cVi hm rfl rfl (t135 (by decide +kernel)) (fun v6 M6 r6 => ?_)
        refine x_iret hm rfl rfl (by first | rfl | exact bI_nar | decide) ?_
        exact ⟨_, _, rfl, rfl, by first | exact hI | exact (r1.2.inv hI) | exact (r2.2.inv hI) | exact (r3.2.inv hI) | exact (r4.2.inv hI) | exact (r5.2.inv hI) | exact (r6.2.inv hI) | exact (r7.2.inv hI) | exact (r8.2.inv hI) | exact (r1.inv hI) | exact (r2.inv hI) | exact (r3.inv hI) | exact (r4.inv hI) | exact (r5.inv hI) | exact (r6.inv hI) | exact (r7.inv hI) | exact (r8.inv hI)⟩
  · refine x_aload_n hm rfl rfl ?_
    refine x_aload_n hm rfl rfl ?_
    refine x_iload_n hm rfl rfl ?_
    refine x_callV hm rfl rfl (t209) ?_
    refine x_cVi hm rfl rfl (t135 (lk_fd h1)) (fun v7 M7 r7 => ?_)
    refine x_iret hm rfl rfl (by first | rfl | exact bI_nar | decide) ?_
    exact ⟨_, _, rfl, rfl, by first | exact hI | exact (r1.2.inv hI) | exact (r2.2.inv hI) | exact (r3.2.inv hI) | exact (r4.2.inv hI) | exact (r5.2.inv hI) | exact (r6.2.inv hI) | exact (r7.2.inv hI) | exact (r8.2.inv hI) | exact (r1.inv hI) | exact (r2.inv hI) | exact (r3.inv hI) | exact (r4.inv hI) | exact (r5.inv hI) | exact (r6.inv hI) | exact (r7.inv hI) | exact (r8.inv hI)⟩
theorem t215  : ∃ v M', mT X 215 [.ref 66] (con M) (some (.int v)) (con M') ∧ Dy M M' := by
  refine ti_of (row := _) rfl (Nat.le_of_ble_eq_true rfl) ?_
  have hm : mMet 215 = some _ := rfl
  refine x_aload_n hm rfl rfl ?_
  refine x_getf hm rfl (gR rfl rfl) ?_
  refine x_iconst hm rfl (v := nI 3) (by decide) ?_
  refine x_aload_n hm rfl rfl ?_
  refine x_getf hm rfl (gR rfl rfl) ?_
  refine x_iconst hm rfl (v := nI 3) (by decide) ?_
  refine x_iald hm rfl (lI rfl (by omega) (by decide)) ?_
  refine x_ldcI hm rfl (v := nI 1103515245) (by decide +kernel) ?_
  refine x_imul hm rfl ?_
  refine x_sipush hm rfl (v := nI 12345) (by decide) ?_
  refine x_iadd hm rfl ?_
  refine x_iast hm rfl (sI rfl (by omega) (by decide)) ?_
  refine x_aload_n hm rfl rfl ?_
  refine x_getf hm rfl (gR rfl rfl) ?_
  refine x_iconst hm rfl (v := nI 3) (by decide) ?_
  refine x_iald hm rfl (lI rfl (by omega) (by decide)) ?_
  refine x_bipush hm rfl (v := nI 8) (by decide) ?_
  refine x_iushr hm rfl ?_
  refine x_iret hm rfl rfl (by first | rfl | exact bI_nar | decide) ?_
  exact ⟨_, _, rfl, rfl, Dy.put Sf.draw (by decide)⟩
theorem l214b {a nb j : Nat} {c : Int32} (hW : Wf M) (hnb : M 67 2 = nI nb) (h8 : nb ≤ 8) (hout : ∀ (M1 : mM) (x : Option Value), Dy M M1 → mEv X (QI (fun _ M' => Dy M M')) 214 44 [some (.ref 66), some (.int (nI a)), some (.int c), some (.int (nI (j + 1))), x] [] (con M1)) : ∀ (n k : Nat) (M1 : mM), nb - k < n → k ≤ nb → Dy M M1 → mEv X (QI (fun _ M' => Dy M M')) 214 52 [some (.ref 66), some (.int (nI a)), some (.int c), some (.int (nI j)), some (.int (nI k))] [] (con M1) := by
  have hm : mMet 214 = some _ := rfl
  intro n
  induction n with
  | zero =>
    intro k M1 hkn hkb hD
    omega
  | succ n ih =>
    intro k M1 hkn hkb hD
    have hW1 := hD.1.1 hW
    have hn1 : M1 67 2 = nI nb := hD.1.2.2.1.trans hnb
    refine x_iload hm rfl rfl ?_
    refine x_aload_n hm rfl rfl ?_
    refine x_getf hm rfl (gR rfl rfl) ?_
    refine x_iconst hm rfl (v := nI 2) (by decide) ?_
    refine x_iald hm rfl (lI rfl (by omega) (by decide)) ?_
    rw [hn1]
    refine x_icmp_ge hm rfl (t := 87) rfl (fun h1 => ?_) (fun h1 => ?_)
    · refine x_aload_n hm rfl rfl ?_
      refine x_cVv hm rfl rfl (t165 hW1) (fun M2 r2 => ?_)
      refine x_iinc hm rfl rfl (v := nI 1) (by decide) rfl ?_
      rw [jI_add]
      refine x_goto hm rfl (t := 44) rfl ?_
      first | exact hout _ _ (hD.trans r2) | exact hout _ _ (hD.trans r3)
    · have hk : k < nb := Nat.lt_of_not_le fun h => h1 (nI_le h (by omega))
      refine x_aload_n hm rfl rfl ?_
      refine x_getf hm rfl (gR rfl rfl) ?_
      refine x_iload hm rfl rfl ?_
      refine x_iconst hm rfl (v := nI 1) (by decide) ?_
      refine x_callS hm rfl rfl (t142) ?_
      refine x_aload_n hm rfl rfl ?_
      refine x_cVi hm rfl rfl (t215) (fun v3 M3 r3 => ?_)
      refine x_bipush hm rfl (v := nI 16) (by decide) ?_
      refine x_irem hm rfl (by decide) ?_
      refine x_iast hm rfl (sI rfl (by omega) (by decide)) ?_
      refine x_iinc hm rfl rfl (v := nI 1) (by decide) rfl ?_
      rw [jI_add]
      refine x_goto hm rfl (t := 52) rfl ?_
      first | exact ih _ _ (by omega) (by omega) ((hD.trans r2).trans (Dy.put (Sf.person (by omega) (by decide)) (by decide))) | exact ih _ _ (by omega) (by omega) ((hD.trans r3).trans (Dy.put (Sf.person (by omega) (by decide)) (by decide)))
theorem l214a {a nb : Nat} {c : Int32} (hW : Wf M) (ha : a ≤ 1000) (hnb : M 67 2 = nI nb) (h8 : nb ≤ 8) : ∀ (n k : Nat) (x : Option Value) (M1 : mM), a - k < n → k ≤ a → Dy M M1 → mEv X (QI (fun _ M' => Dy M M')) 214 44 [some (.ref 66), some (.int (nI a)), some (.int c), some (.int (nI k)), x] [] (con M1) := by
  have hm : mMet 214 = some _ := rfl
  intro n
  induction n with
  | zero =>
    intro k x M1 hkn hkb hD
    omega
  | succ n ih =>
    intro k x M1 hkn hkb hD
    have hW1 := hD.1.1 hW
    refine x_iload_n hm rfl rfl ?_
    refine x_iload_n hm rfl rfl ?_
    refine x_icmp_ge hm rfl (t := 97) rfl (fun h1 => ?_) (fun h1 => ?_)
    · refine x_iload_n hm rfl rfl ?_
      refine x_aload_n hm rfl rfl ?_
      refine x_cVe hm rfl rfl (t170 hW1) (fun v2 r2 => ?_)
      refine x_isub hm rfl ?_
      refine x_iret hm rfl rfl (by first | rfl | exact bI_nar | decide) ?_
      exact ⟨_, _, rfl, rfl, hD⟩
    · have hk : k < a := Nat.lt_of_not_le fun h => h1 (nI_le h (by omega))
      refine x_iconst hm rfl (v := nI 0) (by decide) ?_
      refine x_istore hm rfl rfl ?_
      exact l214b hW hnb h8 (fun M2 x g => ih (k + 1) x M2 (by omega) (by omega) g) _ 0 _ (Nat.lt_succ_self _) (Nat.zero_le _) hD
theorem ev_invD {m pc : Nat} {L : mLoc} {st : List Value} {D : mHp} (hI : Inv M) (h : mEv X (QI (fun _ M' => Dy M M')) m pc L st D) : mEv X (QI (fun _ M' => Inv M')) m pc L st D := ev_mono h (fun r D' ⟨v, M2, g1, g2, g3⟩ => ⟨v, M2, g1, g2, g3.1.inv hI⟩)
theorem t214 {a1 : Int32} (hI : Inv M) : ∃ v M', mT X 214 [.ref 66, .int a1] (con M) (some (.int v)) (con M') ∧ Inv M' := by
  refine ti_of (row := _) rfl (Nat.le_of_ble_eq_true rfl) ?_
  have hm : mMet 214 = some _ := rfl
  obtain ⟨np, hp8, hnp⟩ := hI.1.np
  refine x_iload_n hm rfl rfl ?_
  refine x_iconst hm rfl (v := nI 1) (by decide) ?_
  refine x_bipush hm rfl (v := nI 20) (by decide) ?_
  refine x_callS hm rfl rfl (t133) ?_
  refine x_if_ne hm rfl (t := 17) rfl (fun h1 => ?_) (fun h1 => ?_)
  · obtain ⟨a, ha, -, rfl⟩ := le1_k (by omega) (bI_ne0 h1)
    refine x_aload_n hm rfl rfl ?_
    refine x_getf hm rfl (gR rfl rfl) ?_
    refine x_iconst hm rfl (v := nI 0) (by decide) ?_
    refine x_iald hm rfl (lI rfl (by omega) (by decide)) ?_
    refine x_iload_n hm rfl rfl ?_
    refine x_iadd hm rfl ?_
    refine x_ldcI hm rfl (v := nI 99999) (by decide +kernel) ?_
    refine x_icmp_le hm rfl (t := 37) rfl (fun h2 => ?_) (fun h2 => ?_)
    · refine x_aload_n hm rfl rfl ?_
      refine x_cVe hm rfl rfl (t170 hI.1) (fun v3 r3 => ?_)
      refine x_istore_n hm rfl rfl ?_
      refine x_iconst hm rfl (v := nI 0) (by decide) ?_
      refine x_istore_n hm rfl rfl ?_
      exact ev_invD hI (l214a hI.1 (by omega) hnp hp8 _ 0 _ _ (Nat.lt_succ_self _) (Nat.zero_le _) Dy.rf)
    · refine x_aload_n hm rfl rfl ?_
      refine x_ldcI hm rfl (v := (-1000005 : Int32)) (by decide +kernel) ?_
      refine x_cVi hm rfl rfl (t135 (by decide +kernel)) (fun v4 M4 r4 => ?_)
      refine x_iret hm rfl rfl (by first | rfl | exact bI_nar | decide) ?_
      exact ⟨_, _, rfl, rfl, by first | exact hI | exact (r1.2.inv hI) | exact (r2.2.inv hI) | exact (r3.2.inv hI) | exact (r4.2.inv hI) | exact (r5.2.inv hI) | exact (r1.inv hI) | exact (r2.inv hI) | exact (r3.inv hI) | exact (r4.inv hI) | exact (r5.inv hI)⟩
  · refine x_aload_n hm rfl rfl ?_
    refine x_ldcI hm rfl (v := (-1000001 : Int32)) (by decide +kernel) ?_
    refine x_cVi hm rfl rfl (t135 (by decide +kernel)) (fun v5 M5 r5 => ?_)
    refine x_iret hm rfl rfl (by first | rfl | exact bI_nar | decide) ?_
    exact ⟨_, _, rfl, rfl, by first | exact hI | exact (r1.2.inv hI) | exact (r2.2.inv hI) | exact (r3.2.inv hI) | exact (r4.2.inv hI) | exact (r5.2.inv hI) | exact (r1.inv hI) | exact (r2.inv hI) | exact (r3.inv hI) | exact (r4.inv hI) | exact (r5.inv hI)⟩
theorem l216c {a : Nat} {w x : Int32} {y z : Int32} (hI : Inv M) (ha : a ≤ 1000) : ∀ (n k : Nat) (g : Int64), a - k < n → k ≤ a → mEv X (QL (fun _ M' => Iq M M')) 216 109 [some (.ref 66), some (.int (nI a)), some (.int w), some (.int x), some (.int y), some (.int z), some (.long g), none, some (.int (nI k))] [] (con M) := by
  have hm : mMet 216 = some _ := rfl
  intro n
  induction n with
  | zero =>
    intro k g hkn hkb
    omega
  | succ n ih =>
    intro k g hkn hkb
    refine x_iload hm rfl rfl ?_
    refine x_iload_n hm rfl rfl ?_
    refine x_icmp_ge hm rfl (t := 139) rfl (fun h1 => ?_) (fun h1 => ?_)
    · refine x_lload hm rfl rfl ?_
      refine x_lret hm rfl rfl ?_
      exact ⟨_, _, rfl, rfl, Iq.rf hI⟩
    · have hk : k < a := Nat.lt_of_not_le fun h => h1 (nI_le h (by omega))
      refine x_lload hm rfl rfl ?_
      refine x_iload_n hm rfl rfl ?_
      refine x_if_ne hm rfl (t := 127) rfl (fun h2 => ?_) (fun h2 => ?_)
      · refine x_iload hm rfl rfl ?_
        refine x_i2l hm rfl ?_
        refine x_lmul hm rfl ?_
        refine x_lstore hm rfl rfl ?_
        refine x_iinc hm rfl rfl (v := nI 1) (by decide) rfl ?_
        rw [jI_add]
        refine x_goto hm rfl (t := 109) rfl ?_
        exact ih _ _ (by omega) (by omega)
      · refine x_iload hm rfl rfl ?_
        refine x_i2l hm rfl ?_
        refine x_goto hm rfl (t := 130) rfl ?_
        refine x_lmul hm rfl ?_
        refine x_lstore hm rfl rfl ?_
        refine x_iinc hm rfl rfl (v := nI 1) (by decide) rfl ?_
        rw [jI_add]
        refine x_goto hm rfl (t := 109) rfl ?_
        exact ih _ _ (by omega) (by omega)
theorem l216b {a : Nat} {w x : Int32} (hI : Inv M) (ha : a ≤ 1000) : ∀ (n b : Nat) (y : Int32), b < n → 1 ≤ b → b ≤ 16 → mEv X (QL (fun _ M' => Iq M M')) 216 74 [some (.ref 66), some (.int (nI a)), some (.int w), some (.int x), some (.int y), some (.int (nI b)), none, none, none] [] (con M) := by
  have hm : mMet 216 = some _ := rfl
  intro n
  induction n with
  | zero =>
    intro b y hb h1b hb16
    omega
  | succ n ih =>
    intro b y hb h1b hb16
    refine x_iload hm rfl rfl ?_
    refine x_iconst hm rfl (v := nI 2) (by decide) ?_
    refine x_irem hm rfl (by decide) ?_
    refine x_if_ne hm rfl (t := 103) rfl (fun h1 => ?_) (fun h1 => ?_)
    · refine x_lconst hm rfl rfl ?_
      refine x_lstore hm rfl rfl ?_
      refine x_iconst hm rfl (v := nI 0) (by decide) ?_
      refine x_istore hm rfl rfl ?_
      exact l216c hI ha _ 0 _ (Nat.lt_succ_self _) (Nat.zero_le _)
    · refine x_iload hm rfl rfl ?_
      refine x_iconst hm rfl (v := nI 2) (by decide) ?_
      refine x_irem hm rfl (by decide) ?_
      refine x_if_ne hm rfl (t := 103) rfl (fun h2 => ?_) (fun h2 => ?_)
      · refine x_lconst hm rfl rfl ?_
        refine x_lstore hm rfl rfl ?_
        refine x_iconst hm rfl (v := nI 0) (by decide) ?_
        refine x_istore hm rfl rfl ?_
        exact l216c hI ha _ 0 _ (Nat.lt_succ_self _) (Nat.zero_le _)
      · obtain ⟨o1, o2, o3⟩ := odd_k b hb16 h1b h2
        refine x_iload hm rfl rfl ?_
        refine x_iconst hm rfl (v := nI 2) (by decide) ?_
        refine x_idiv hm rfl (by decide) ?_
        refine x_istore hm rfl rfl ?_
        refine x_iload hm rfl rfl ?_
        refine x_iconst hm rfl (v := nI 2) (by decide) ?_
        refine x_idiv hm rfl (by decide) ?_
        rw [o3]
        refine x_istore hm rfl rfl ?_
        refine x_goto hm rfl (t := 74) rfl ?_
        exact ih _ _ (by omega) o1 (by omega)
theorem l216a {a : Nat} {w : Int32} (hI : Inv M) (ha : a ≤ 1000) {nb : Nat} (hnb : M 67 1 = nI nb) (h8 : nb ≤ 8) : ∀ (n k : Nat) (s : Int32), nb - k < n → k ≤ nb → mEv X (QL (fun _ M' => Iq M M')) 216 32 [some (.ref 66), some (.int (nI a)), some (.int w), some (.int s), some (.int (nI k)), none, none, none, none] [] (con M) := by
  have hm : mMet 216 = some _ := rfl
  intro n
  induction n with
  | zero =>
    intro k s hkn hkb
    omega
  | succ n ih =>
    intro k s hkn hkb
    refine x_iload hm rfl rfl ?_
    refine x_aload_n hm rfl rfl ?_
    refine x_getf hm rfl (gR rfl rfl) ?_
    refine x_iconst hm rfl (v := nI 1) (by decide) ?_
    refine x_iald hm rfl (lI rfl (by omega) (by decide)) ?_
    rw [hnb]
    refine x_icmp_ge hm rfl (t := 61) rfl (fun h1 => ?_) (fun h1 => ?_)
    · refine x_bipush hm rfl (v := nI 16) (by decide) ?_
      refine x_iload_n hm rfl rfl ?_
      refine x_cSe hm rfl rfl (t168) (fun v2 r2 => ?_)
      refine x_isub hm rfl ?_
      refine x_istore hm rfl rfl ?_
      refine x_bipush hm rfl (v := nI 16) (by decide) ?_
      refine x_istore hm rfl rfl ?_
      exact l216b hI ha _ 16 _ (Nat.lt_succ_self _) (by decide) (by decide)
    · have hk : k < nb := Nat.lt_of_not_le fun h => h1 (nI_le h (by omega))
      refine x_iload_n hm rfl rfl ?_
      refine x_iconst hm rfl (v := nI 1) (by decide) ?_
      refine x_aload_n hm rfl rfl ?_
      refine x_iload hm rfl rfl ?_
      refine x_iconst hm rfl (v := nI 1) (by decide) ?_
      refine x_callV hm rfl rfl (t143 (by omega) (by omega)) ?_
      refine x_ishl hm rfl ?_
      refine x_ior hm rfl ?_
      refine x_istore_n hm rfl rfl ?_
      refine x_iinc hm rfl rfl (v := nI 1) (by decide) rfl ?_
      rw [jI_add]
      refine x_goto hm rfl (t := 32) rfl ?_
      exact ih _ _ (by omega) (by omega)
theorem t216 {a1 a2 : Int32} (hI : Inv M) : ∃ v M', mT X 216 [.ref 66, .int a1, .int a2] (con M) (some (.long v)) (con M') ∧ Iq M M' := by
  refine tl_of (row := _) rfl (Nat.le_of_ble_eq_true rfl) ?_
  have hm : mMet 216 = some _ := rfl
  obtain ⟨nt, hn8, hnt⟩ := hI.1.nt
  refine x_iload_n hm rfl rfl ?_
  refine x_iconst hm rfl (v := nI 0) (by decide) ?_
  refine x_bipush hm rfl (v := nI 14) (by decide) ?_
  refine x_callS hm rfl rfl (t133) ?_
  refine x_if_eq hm rfl (t := 19) rfl (fun h1 => ?_) (fun h1 => ?_)
  · refine x_aload_n hm rfl rfl ?_
    refine x_ldcI hm rfl (v := (-1000001 : Int32)) (by decide +kernel) ?_
    refine x_cVi hm rfl rfl (t135 (by decide +kernel)) (fun v2 M2 r2 => ?_)
    refine x_i2l hm rfl ?_
    refine x_lret hm rfl rfl ?_
    exact ⟨_, _, rfl, rfl, by first | exact Iq.rf hI | exact (r1.2.iq hI) | exact (r2.2.iq hI) | exact (r3.2.iq hI) | exact (r4.2.iq hI) | exact (r5.2.iq hI) | exact (r1.iq hI) | exact (r2.iq hI) | exact (r3.iq hI) | exact (r4.iq hI) | exact (r5.iq hI)⟩
  · obtain ⟨a, ha, rfl⟩ := le_k (by omega) (bI_ne0 h1)
    refine x_iload_n hm rfl rfl ?_
    refine x_iconst hm rfl (v := nI 0) (by decide) ?_
    refine x_iconst hm rfl (v := nI 1) (by decide) ?_
    refine x_callS hm rfl rfl (t133) ?_
    refine x_if_ne hm rfl (t := 27) rfl (fun h3 => ?_) (fun h3 => ?_)
    · refine x_iconst hm rfl (v := nI 0) (by decide) ?_
      refine x_istore_n hm rfl rfl ?_
      refine x_iconst hm rfl (v := nI 0) (by decide) ?_
      refine x_istore hm rfl rfl ?_
      exact l216a hI (by omega) hnt hn8 _ 0 _ (Nat.lt_succ_self _) (Nat.zero_le _)
    · refine x_aload_n hm rfl rfl ?_
      refine x_ldcI hm rfl (v := (-1000001 : Int32)) (by decide +kernel) ?_
      refine x_cVi hm rfl rfl (t135 (by decide +kernel)) (fun v4 M4 r4 => ?_)
      refine x_i2l hm rfl ?_
      refine x_lret hm rfl rfl ?_
      exact ⟨_, _, rfl, rfl, by first | exact Iq.rf hI | exact (r1.2.iq hI) | exact (r2.2.iq hI) | exact (r3.2.iq hI) | exact (r4.2.iq hI) | exact (r5.2.iq hI) | exact (r1.iq hI) | exact (r2.iq hI) | exact (r3.iq hI) | exact (r4.iq hI) | exact (r5.iq hI)⟩
theorem t155 {i : Nat} {v : Int32} (hi : i < 118) : mT X 155 [.ref 66, .int (nI i), .int v] (con M) (some (.int (M 67 i))) (con (mput M 67 i v)) := by
  refine mT.of (row := _) rfl (Nat.le_of_ble_eq_true rfl) ?_
  have hm : mMet 155 = some _ := rfl
  refine x_aload_n hm rfl rfl ?_
  refine x_getf hm rfl (gR rfl rfl) ?_
  refine x_iload_n hm rfl rfl ?_
  refine x_iald hm rfl (lI rfl (by omega) (by decide)) ?_
  refine x_istore_n hm rfl rfl ?_
  refine x_aload_n hm rfl rfl ?_
  refine x_getf hm rfl (gR rfl rfl) ?_
  refine x_iload_n hm rfl rfl ?_
  refine x_iload_n hm rfl rfl ?_
  refine x_iast hm rfl (sI rfl (by omega) (by decide)) ?_
  refine x_iload_n hm rfl rfl ?_
  refine x_iret hm rfl rfl (by first | rfl | exact bI_nar | decide) ?_
  exact ⟨rfl, rfl⟩
theorem t217 {a1 : Int32} (hI : Inv M) : ∃ v M', mT X 217 [.ref 66, .int a1] (con M) (some (.int v)) (con M') ∧ Inv M' := by
  refine ti_of (row := _) rfl (Nat.le_of_ble_eq_true rfl) ?_
  have hm : mMet 217 = some _ := rfl
  refine x_aload_n hm rfl rfl ?_
  refine x_iconst hm rfl (v := nI 3) (by decide) ?_
  refine x_iload_n hm rfl rfl ?_
  refine x_callV hm rfl rfl (t155 (by omega)) ?_
  refine x_iret hm rfl rfl (by first | rfl | exact bI_nar | decide) ?_
  exact ⟨_, _, rfl, rfl, Sf.draw.inv hI⟩
theorem t219  (hI : Inv M) : ∃ v M', mT X 219 [.ref 66] (con M) (some (.int v)) (con M') ∧ Inv M' := by
  refine ti_of (row := _) rfl (Nat.le_of_ble_eq_true rfl) ?_
  have hm : mMet 219 = some _ := rfl
  refine x_aload_n hm rfl rfl ?_
  refine x_getf hm rfl (gI rfl rfl) ?_
  refine x_istore_n hm rfl rfl ?_
  refine x_aload_n hm rfl rfl ?_
  refine x_iconst hm rfl (v := nI 0) (by decide) ?_
  refine x_putf hm rfl (pI rfl rfl (by decide) (by first | exact mFit_int | rfl | decide) rfl) ?_
  refine x_iload_n hm rfl rfl ?_
  refine x_iret hm rfl rfl (by first | rfl | exact bI_nar | decide) ?_
  exact ⟨_, _, rfl, rfl, (Sf.taped (okI4 (k := 0) (by decide))).inv hI⟩
theorem l218 {b nn : Int32} : ∀ (n j c : Nat) (M1 : mM), j < n → c + j ≤ 120 → M1 66 9 = nI c → Sf M M1 → mEv X (QI (fun _ M' => Sf M M')) 218 38 [some (.ref 66), some (.int b), some (.int nn), some (.int (nI j + (-1)))] [] (con M1) := by
  have hm : mMet 218 = some _ := rfl
  intro n
  induction n with
  | zero =>
    intro j c M1 hj hc hm9 hS
    omega
  | succ n ih =>
    intro j c M1 hj hc hm9 hS
    refine x_iload_n hm rfl rfl ?_
    refine x_if_lt hm rfl (t := 77) rfl (fun h1 => ?_) (fun h1 => ?_)
    · refine x_aload_n hm rfl rfl ?_
      refine x_getf hm rfl (gI rfl rfl) ?_
      refine x_iret hm rfl rfl (by first | rfl | exact bI_nar | decide) ?_
      exact ⟨_, _, rfl, rfl, hS⟩
    · obtain ⟨i, rfl⟩ : ∃ i, j = i + 1 := by
        cases j with
        | zero => exact absurd (by decide) h1
        | succ i => exact ⟨i, rfl⟩
      refine x_aload_n hm rfl rfl ?_
      refine x_getf hm rfl (gR rfl rfl) ?_
      refine x_aload_n hm rfl rfl ?_
      refine x_getf hm rfl (gI rfl rfl) ?_
      rw [hm9]
      refine x_iload_n hm rfl rfl ?_
      refine x_bipush hm rfl (v := nI 8) (by decide) ?_
      refine x_iload_n hm rfl rfl ?_
      refine x_imul hm rfl ?_
      refine x_ishr hm rfl ?_
      refine x_sipush hm rfl (v := nI 255) (by decide) ?_
      refine x_iand hm rfl ?_
      refine x_iast hm rfl (sI rfl (by omega) (by decide)) ?_
      refine x_aload_n hm rfl rfl ?_
      refine x_dup hm rfl rfl ?_
      refine x_getf hm rfl (gI rfl rfl) ?_
      rw [mput_ne (a := 73) (i := 66) (by decide), hm9]
      refine x_iconst hm rfl (v := nI 1) (by decide) ?_
      refine x_iadd hm rfl ?_
      rw [jI_add]
      refine x_putf hm rfl (pI rfl rfl (by decide) (by first | exact mFit_int | rfl | decide) rfl) ?_
      refine x_iinc hm rfl rfl (v := (-1 : Int32)) (by decide) rfl ?_
      rw [dec1]
      refine x_goto hm rfl (t := 38) rfl ?_
      exact ih _ (c + 1) _ (by omega) (by omega) (by unfold mput; rw [if_pos ⟨rfl, rfl⟩]) ((hS.trans (Sf.put0 (kd73 _) (by decide) (by decide))).trans (Sf.taped (okI4 (by omega))))
theorem t218 {a1 a2 : Int32} (hI : Inv M) : ∃ v M', mT X 218 [.ref 66, .int a1, .int a2] (con M) (some (.int v)) (con M') ∧ Inv M' := by
  refine ti_of (row := _) rfl (Nat.le_of_ble_eq_true rfl) ?_
  have hm : mMet 218 = some _ := rfl
  obtain ⟨c, hc, hc9⟩ := ok4 (show okx 4 (M 66 9) from hI.1 66 9)
  refine x_iload_n hm rfl rfl ?_
  refine x_iconst hm rfl (v := nI 1) (by decide) ?_
  refine x_iconst hm rfl (v := nI 4) (by decide) ?_
  refine x_callS hm rfl rfl (t133) ?_
  refine x_if_ne hm rfl (t := 16) rfl (fun h1 => ?_) (fun h1 => ?_)
  · obtain ⟨a, ha, ha1, rfl⟩ := le1_k (by omega) (bI_ne0 h1)
    refine x_aload_n hm rfl rfl ?_
    refine x_getf hm rfl (gI rfl rfl) ?_
    rw [hc9]
    refine x_iload_n hm rfl rfl ?_
    refine x_iadd hm rfl ?_
    rw [jI_add]
    refine x_bipush hm rfl (v := nI 120) (by decide) ?_
    refine x_icmp_le hm rfl (t := 34) rfl (fun h2 => ?_) (fun h2 => ?_)
    · have hle : c + a ≤ 120 := (jI_le (by omega) (by decide)).mp h2
      refine x_iload_n hm rfl rfl ?_
      refine x_iconst hm rfl (v := nI 1) (by decide) ?_
      refine x_isub hm rfl ?_
      rw [sub1]
      refine x_istore_n hm rfl rfl ?_
      exact ev_inv hI (l218 _ a c _ (Nat.lt_succ_self _) hle hc9 Sf.rf)
    · refine x_aload_n hm rfl rfl ?_
      refine x_ldcI hm rfl (v := (-1000002 : Int32)) (by decide +kernel) ?_
      refine x_cVi hm rfl rfl (t135 (by decide +kernel)) (fun v3 M3 r3 => ?_)
      refine x_iret hm rfl rfl (by first | rfl | exact bI_nar | decide) ?_
      exact ⟨_, _, rfl, rfl, by first | exact hI | exact (r1.2.inv hI) | exact (r2.2.inv hI) | exact (r3.2.inv hI) | exact (r4.2.inv hI) | exact (r5.2.inv hI) | exact (r1.inv hI) | exact (r2.inv hI) | exact (r3.inv hI) | exact (r4.inv hI) | exact (r5.inv hI)⟩
  · refine x_aload_n hm rfl rfl ?_
    refine x_ldcI hm rfl (v := (-1000001 : Int32)) (by decide +kernel) ?_
    refine x_cVi hm rfl rfl (t135 (by decide +kernel)) (fun v4 M4 r4 => ?_)
    refine x_iret hm rfl rfl (by first | rfl | exact bI_nar | decide) ?_
    exact ⟨_, _, rfl, rfl, by first | exact hI | exact (r1.2.inv hI) | exact (r2.2.inv hI) | exact (r3.2.inv hI) | exact (r4.2.inv hI) | exact (r5.2.inv hI) | exact (r1.inv hI) | exact (r2.inv hI) | exact (r3.inv hI) | exact (r4.inv hI) | exact (r5.inv hI)⟩
end RI
