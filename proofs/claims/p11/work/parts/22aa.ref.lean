/-! ===== the reference: what only reads ===== -/
abbrev FD (v : Int32) : Prop := v = -1000001 ∨ v = -1000002 ∨ v = -1000003 ∨ v = -1000004 ∨ v = -1000005 ∨ v = -1000006 ∨ v = -1000007
theorem FD_k {v : Int32} (h : FD v) : ∃ k, k ≤ 7 ∧ (-1000001 : Int32) - v + nI 1 = nI k := by
  rcases h with rfl | rfl | rfl | rfl | rfl | rfl | rfl
  · exact ⟨1, by omega, by decide +kernel⟩
  · exact ⟨2, by omega, by decide +kernel⟩
  · exact ⟨3, by omega, by decide +kernel⟩
  · exact ⟨4, by omega, by decide +kernel⟩
  · exact ⟨5, by omega, by decide +kernel⟩
  · exact ⟨6, by omega, by decide +kernel⟩
  · exact ⟨7, by omega, by decide +kernel⟩
/-- a number below another that is one of the small ones -/
theorem in_k {v w : Int32} {n : Nat} (hw : w = nI n) (hn : n ≤ 1000) (h : nI 0 ≤ v ∧ v ≤ w - nI 1) : ∃ k, k < n ∧ v = nI k := by
  obtain ⟨k, hk, rfl⟩ := jI_of (v := v) (by
    have h0 : (nI 0 : Int32) = 0 := rfl
    rw [← h0]
    exact Int32.not_lt.mpr h.1)
  refine ⟨k, ?_, rfl⟩
  have h2 := h.2
  subst hw
  cases n with
  | zero =>
    have e : nI 0 - nI 1 = -1 := by decide +kernel
    rw [e, Int32.le_iff_toInt_le, jI_int hk] at h2
    have e2 : (-1 : Int32).toInt = -1 := by decide +kernel
    omega
  | succ m =>
    have e : nI (m + 1) - nI 1 = nI m := by
      rw [← jI_add m 1]
      exact Int32.add_sub_cancel _ _
    rw [e, jI_le hk (by omega)] at h2
    omega
theorem le_k {v : Int32} {n : Nat} (hn : n ≤ 999) (h : nI 0 ≤ v ∧ v ≤ nI n) : ∃ k, k ≤ n ∧ v = nI k := by
  have h0 : nI n = nI (n + 1) - nI 1 := by
    rw [← jI_add n 1]
    exact (Int32.add_sub_cancel _ _).symm
  rw [h0] at h
  obtain ⟨k, hk, e⟩ := in_k (n := n + 1) rfl (by omega) h
  exact ⟨k, by omega, e⟩
theorem bI_ne0 {c : Prop} [Decidable c] (h : ¬ bI c = 0) : c := Classical.byContradiction fun hc => h (bI_eq0.mpr hc)
theorem bI_01 {c : Prop} [Decidable c] : bI c = nI 0 ∨ bI c = nI 1 := by
  unfold bI
  by_cases h : c
  · rw [if_pos h]; exact Or.inr rfl
  · rw [if_neg h]; exact Or.inl rfl
theorem kd_t : ∀ t, t < 8 → ∀ f, f < 6 → kd 67 (14 + 6 * t + f) = if f = 0 then 3 else if f = 4 ∨ f = 5 then 2 else 0 := by decide +kernel
theorem Wf.sort {M : mM} (h : Wf M) {t : Nat} (ht : t < 8) : ∃ k, k ≤ 3 ∧ M 67 (14 + 6 * t + 0) = nI k := by
  have := h 67 (14 + 6 * t + 0)
  rw [kd_t t ht 0 (by decide)] at this
  exact ok3 this
theorem Wf.owner {M : mM} (h : Wf M) {t : Nat} (ht : t < 8) : okx 2 (M 67 (14 + 6 * t + 4)) := by
  have := h 67 (14 + 6 * t + 4)
  rwa [kd_t t ht 4 (by decide)] at this
theorem Wf.on {M : mM} (h : Wf M) {t : Nat} (ht : t < 8) : okx 2 (M 67 (14 + 6 * t + 5)) := by
  have := h 67 (14 + 6 * t + 5)
  rwa [kd_t t ht 5 (by decide)] at this
theorem Wf.nt {M : mM} (h : Wf M) : ∃ n, n ≤ 8 ∧ M 67 1 = nI n := ok1 (h 67 1)
theorem Wf.np {M : mM} (h : Wf M) : ∃ n, n ≤ 8 ∧ M 67 2 = nI n := ok1 (h 67 2)
def ab (k : Int32) : Int32 := if k = 0 then -1 else if k = nI 3 then nI 2 else if k = nI 4 then nI 3 else if k = nI 6 then nI 1 else nI 0
def rkU (k : Int32) : Nat := if k < 0 then 0 else if k = 0 then 1 else if k = nI 3 then 3 else if k = nI 4 then 4 else if k = nI 6 then 3 else 2
theorem ab_rk {k : Int32} (h : ¬ k < 0) : rkU (ab k) < rkU k := by
  unfold ab
  by_cases h0 : k = 0
  · subst h0; decide
  · rw [if_neg h0]
    by_cases h3 : k = nI 3
    · subst h3; decide
    · rw [if_neg h3]
      by_cases h4 : k = nI 4
      · subst h4; decide
      · rw [if_neg h4]
        by_cases h6 : k = nI 6
        · subst h6; decide
        · rw [if_neg h6]
          unfold rkU
          rw [if_neg h, if_neg h0, if_neg h3, if_neg h4, if_neg h6]
          decide
theorem rkU_le (k : Int32) : rkU k ≤ 4 := by
  unfold rkU
  repeat' split
  all_goals omega

section RR
variable {X : mSc} {Q : Option Value → mHp → Prop} {M : mM}
theorem t134 {v : Int32} : mT X 134 [.int v] (con M) (some (.int (bI (nI 0 ≤ v ∧ v ≤ nI 15)))) (con M) := by
  refine mT.of (row := _) rfl (Nat.le_of_ble_eq_true rfl) ?_
  have hm : mMet 134 = some _ := rfl
  refine x_iload_n hm rfl rfl ?_
  refine x_iconst hm rfl (v := nI 0) (by decide) ?_
  refine x_bipush hm rfl (v := nI 15) (by decide) ?_
  refine x_callS hm rfl rfl (t133) ?_
  refine x_iret hm rfl rfl (by first | rfl | exact bI_nar | decide) ?_
  exact qt rfl
theorem t157 {v : Int32} : mT X 157 [.int v] (con M) (some (.int (bI (nI 0 ≤ v ∧ v ≤ nI 6)))) (con M) := by
  refine mT.of (row := _) rfl (Nat.le_of_ble_eq_true rfl) ?_
  have hm : mMet 157 = some _ := rfl
  refine x_iload_n hm rfl rfl ?_
  refine x_iconst hm rfl (v := nI 0) (by decide) ?_
  refine x_bipush hm rfl (v := nI 6) (by decide) ?_
  refine x_callS hm rfl rfl (t133) ?_
  refine x_iret hm rfl rfl (by first | rfl | exact bI_nar | decide) ?_
  exact qt rfl
theorem t151 {v : Int32} : mT X 151 [.int v] (con M) (some (.int (bI (nI 0 ≤ v ∧ v ≤ nI 999)))) (con M) := by
  refine mT.of (row := _) rfl (Nat.le_of_ble_eq_true rfl) ?_
  have hm : mMet 151 = some _ := rfl
  refine x_iload_n hm rfl rfl ?_
  refine x_iconst hm rfl (v := nI 0) (by decide) ?_
  refine x_sipush hm rfl (v := nI 999) (by decide) ?_
  refine x_callS hm rfl rfl (t133) ?_
  refine x_iret hm rfl rfl (by first | rfl | exact bI_nar | decide) ?_
  exact qt rfl
theorem t152 {v : Int32} : mT X 152 [.int v] (con M) (some (.int (bI (nI 0 ≤ v ∧ v ≤ nI 9)))) (con M) := by
  refine mT.of (row := _) rfl (Nat.le_of_ble_eq_true rfl) ?_
  have hm : mMet 152 = some _ := rfl
  refine x_iload_n hm rfl rfl ?_
  refine x_iconst hm rfl (v := nI 0) (by decide) ?_
  refine x_bipush hm rfl (v := nI 9) (by decide) ?_
  refine x_callS hm rfl rfl (t133) ?_
  refine x_iret hm rfl rfl (by first | rfl | exact bI_nar | decide) ?_
  exact qt rfl
theorem t232 {v : Int32} : mT X 232 [.int v] (con M) (some (.int (bI (nI 0 ≤ v ∧ v ≤ nI 9)))) (con M) := by
  refine mT.of (row := _) rfl (Nat.le_of_ble_eq_true rfl) ?_
  have hm : mMet 232 = some _ := rfl
  refine x_iload_n hm rfl rfl ?_
  refine x_iconst hm rfl (v := nI 0) (by decide) ?_
  refine x_bipush hm rfl (v := nI 9) (by decide) ?_
  refine x_callS hm rfl rfl (t133) ?_
  refine x_iret hm rfl rfl (by first | rfl | exact bI_nar | decide) ?_
  exact qt rfl
theorem t210 {v : Int32} : mT X 210 [.int v] (con M) (some (.int (bI (nI 0 ≤ v ∧ v ≤ nI 3)))) (con M) := by
  refine mT.of (row := _) rfl (Nat.le_of_ble_eq_true rfl) ?_
  have hm : mMet 210 = some _ := rfl
  refine x_iload_n hm rfl rfl ?_
  refine x_iconst hm rfl (v := nI 0) (by decide) ?_
  refine x_iconst hm rfl (v := nI 3) (by decide) ?_
  refine x_callS hm rfl rfl (t133) ?_
  refine x_iret hm rfl rfl (by first | rfl | exact bI_nar | decide) ?_
  exact qt rfl
theorem t139 {v : Int32} : mT X 139 [.ref 66, .int v] (con M) (some (.int (bI (nI 0 ≤ v ∧ v ≤ M 67 1 - nI 1)))) (con M) := by
  refine mT.of (row := _) rfl (Nat.le_of_ble_eq_true rfl) ?_
  have hm : mMet 139 = some _ := rfl
  refine x_iload_n hm rfl rfl ?_
  refine x_iconst hm rfl (v := nI 0) (by decide) ?_
  refine x_aload_n hm rfl rfl ?_
  refine x_getf hm rfl (gR rfl rfl) ?_
  refine x_iconst hm rfl (v := nI 1) (by decide) ?_
  refine x_iald hm rfl (lI rfl (by omega) (by decide)) ?_
  refine x_iconst hm rfl (v := nI 1) (by decide) ?_
  refine x_isub hm rfl ?_
  refine x_callS hm rfl rfl (t133) ?_
  refine x_iret hm rfl rfl (by first | rfl | exact bI_nar | decide) ?_
  exact qt rfl
theorem t153 {v : Int32} : mT X 153 [.ref 66, .int v] (con M) (some (.int (bI (nI 0 ≤ v ∧ v ≤ M 67 2 - nI 1)))) (con M) := by
  refine mT.of (row := _) rfl (Nat.le_of_ble_eq_true rfl) ?_
  have hm : mMet 153 = some _ := rfl
  refine x_iload_n hm rfl rfl ?_
  refine x_iconst hm rfl (v := nI 0) (by decide) ?_
  refine x_aload_n hm rfl rfl ?_
  refine x_getf hm rfl (gR rfl rfl) ?_
  refine x_iconst hm rfl (v := nI 2) (by decide) ?_
  refine x_iald hm rfl (lI rfl (by omega) (by decide)) ?_
  refine x_iconst hm rfl (v := nI 1) (by decide) ?_
  refine x_isub hm rfl ?_
  refine x_callS hm rfl rfl (t133) ?_
  refine x_iret hm rfl rfl (by first | rfl | exact bI_nar | decide) ?_
  exact qt rfl
theorem t146 {t : Nat} (ht : t < 8) : mT X 146 [.ref 66, .int (nI t)] (con M) (some (.int (bI (M 67 (14 + 6 * t + 2) = 0)))) (con M) := by
  refine mT.of (row := _) rfl (Nat.le_of_ble_eq_true rfl) ?_
  have hm : mMet 146 = some _ := rfl
  refine x_aload_n hm rfl rfl ?_
  refine x_iload_n hm rfl rfl ?_
  refine x_iconst hm rfl (v := nI 2) (by decide) ?_
  refine x_callV hm rfl rfl (t143 (by omega) (by omega)) ?_
  refine x_if_ne hm rfl (t := 13) rfl (fun h1 => ?_) (fun h1 => ?_)
  · refine x_iconst hm rfl (v := nI 0) (by decide) ?_
    refine x_iret hm rfl rfl (by first | rfl | exact bI_nar | decide) ?_
    exact qt (congrArg Value.int (by first | exact bI_t h1 | exact bI_f h1))
  · refine x_iconst hm rfl (v := nI 1) (by decide) ?_
    refine x_goto hm rfl (t := 14) rfl ?_
    refine x_iret hm rfl rfl (by first | rfl | exact bI_nar | decide) ?_
    exact qt (congrArg Value.int (by first | exact bI_t h1 | exact bI_f h1))
theorem t148 {k : Int32} : mT X 148 [.int k] (con M) (some (.int (ab k))) (con M) := by
  refine mT.of (row := _) rfl (Nat.le_of_ble_eq_true rfl) ?_
  have hm : mMet 148 = some _ := rfl
  refine x_iload_n hm rfl rfl ?_
  refine x_if_ne hm rfl (t := 8) rfl (fun h1 => ?_) (fun h1 => ?_)
  · refine x_iload_n hm rfl rfl ?_
    refine x_iconst hm rfl (v := nI 3) (by decide) ?_
    refine x_icmp_ne hm rfl (t := 17) rfl (fun h2 => ?_) (fun h2 => ?_)
    · refine x_iload_n hm rfl rfl ?_
      refine x_iconst hm rfl (v := nI 4) (by decide) ?_
      refine x_icmp_ne hm rfl (t := 26) rfl (fun h3 => ?_) (fun h3 => ?_)
      · refine x_iload_n hm rfl rfl ?_
        refine x_bipush hm rfl (v := nI 6) (by decide) ?_
        refine x_icmp_ne hm rfl (t := 36) rfl (fun h4 => ?_) (fun h4 => ?_)
        · refine x_iconst hm rfl (v := nI 0) (by decide) ?_
          refine x_iret hm rfl rfl (by first | rfl | exact bI_nar | decide) ?_
          exact qt (congrArg Value.int (by unfold ab; first | rw [if_pos h1] | (rw [if_neg h1]; first | rw [if_pos h2] | (rw [if_neg h2]; first | rw [if_pos h3] | (rw [if_neg h3]; first | rw [if_pos h4] | rw [if_neg h4])))))
        · refine x_iconst hm rfl (v := nI 1) (by decide) ?_
          refine x_goto hm rfl (t := 37) rfl ?_
          refine x_iret hm rfl rfl (by first | rfl | exact bI_nar | decide) ?_
          exact qt (congrArg Value.int (by unfold ab; first | rw [if_pos h1] | (rw [if_neg h1]; first | rw [if_pos h2] | (rw [if_neg h2]; first | rw [if_pos h3] | (rw [if_neg h3]; first | rw [if_pos h4] | rw [if_neg h4])))))
      · refine x_iconst hm rfl (v := nI 3) (by decide) ?_
        refine x_goto hm rfl (t := 37) rfl ?_
        refine x_iret hm rfl rfl (by first | rfl | exact bI_nar | decide) ?_
        exact qt (congrArg Value.int (by unfold ab; first | rw [if_pos h1] | (rw [if_neg h1]; first | rw [if_pos h2] | (rw [if_neg h2]; first | rw [if_pos h3] | (rw [if_neg h3]; first | rw [if_pos h4] | rw [if_neg h4])))))
    · refine x_iconst hm rfl (v := nI 2) (by decide) ?_
      refine x_goto hm rfl (t := 37) rfl ?_
      refine x_iret hm rfl rfl (by first | rfl | exact bI_nar | decide) ?_
      exact qt (congrArg Value.int (by unfold ab; first | rw [if_pos h1] | (rw [if_neg h1]; first | rw [if_pos h2] | (rw [if_neg h2]; first | rw [if_pos h3] | (rw [if_neg h3]; first | rw [if_pos h4] | rw [if_neg h4])))))
  · refine x_iconst hm rfl (v := (-1 : Int32)) (by decide) ?_
    refine x_goto hm rfl (t := 37) rfl ?_
    refine x_iret hm rfl rfl (by first | rfl | exact bI_nar | decide) ?_
    exact qt (congrArg Value.int (by unfold ab; first | rw [if_pos h1] | (rw [if_neg h1]; first | rw [if_pos h2] | (rw [if_neg h2]; first | rw [if_pos h3] | (rw [if_neg h3]; first | rw [if_pos h4] | rw [if_neg h4])))))
end RR
