/-! ===== the reference: what only reads ===== -/
abbrev FD (v : Int32) : Prop := v = -1000001 ∨ v = -1000002 ∨ v = -1000003 ∨ v = -1000004 ∨ v = -1000005 ∨ v = -1000006 ∨ v = -1000007
theorem FD_k {v : Int32} (h : FD v) : ∃ k, k ≤ 7 ∧ (-1000001 : Int32) - v + nI 1 = nI k := by
  rcases h with rfl | rfl | rfl | rfl | rfl | rfl | rfl
  · exact ⟨1, by omega, by decide +kernel⟩
  · exact ⟨2, by omega, by decide +kernel⟩
  · exact ⟨3, by omega, by decide +kernel⟩
  · exact ⟨4, by omega, by decide +kernel⟩
  · exact ⟨5, by omega, by decide +kernel⟩
  · exact ⟨6, by omega, by decide +kernel⟩
  · exact ⟨7, by omega, by decide +kernel⟩
/-- a number below another that is one of the small ones -/
theorem in_k {v w : Int32} {n : Nat} (hw : w = nI n) (hn : n ≤ 1000) (h : nI 0 ≤ v ∧ v ≤ w - nI 1) : ∃ k, k < n ∧ v = nI k := by
  obtain ⟨k, hk, rfl⟩ := jI_of (v := v) (by
    have h0 : (nI 0 : Int32) = 0 := rfl
    rw [← h0]
    exact Int32.not_lt.mpr h.1)
  refine ⟨k, ?_, rfl⟩
  have h2 := h.2
  subst hw
  cases n with
  | zero =>
    have e : nI 0 - nI 1 = -1 := by decide +kernel
    rw [e, Int32.le_iff_toInt_le, jI_int hk] at h2
    have e2 : (-1 : Int32).toInt = -1 := by decide +kernel
    omega
  | succ m =>
    have e : nI (m + 1) - nI 1 = nI m := by
      rw [← jI_add m 1]
      exact Int32.add_sub_cancel _ _
    rw [e, jI_le hk (by omega)] at h2
    omega
theorem le_k {v : Int32} {n : Nat} (hn : n ≤ 999) (h : nI 0 ≤ v ∧ v ≤ nI n) : ∃ k, k ≤ n ∧ v = nI k := by
  have h0 : nI n = nI (n + 1) - nI 1 := by
    rw [← jI_add n 1]
    exact (Int32.add_sub_cancel _ _).symm
  rw [h0] at h
  obtain ⟨k, hk, e⟩ := in_k (n := n + 1) rfl (by omega) h
  exact ⟨k, by omega, e⟩
theorem bI_ne0 {c : Prop} [Decidable c] (h : ¬ bI c = 0) : c := Classical.byContradiction fun hc => h (bI_eq0.mpr hc)
theorem bI_01 {c : Prop} [Decidable c] : bI c = nI 0 ∨ bI c = nI 1 := by
  unfold bI
  by_cases h : c
  · rw [if_pos h]; exact Or.inr rfl
  · rw [if_neg h]; exact Or.inl rfl
theorem kd_t : ∀ t, t < 8 → ∀ f, f < 6 → kd 67 (14 + 6 * t + f) = if f = 0 then 3 else if f = 4 ∨ f = 5 then 2 else 0 := by decide +kernel
theorem Wf.sort {M : mM} (h : Wf M) {t : Nat} (ht : t < 8) : ∃ k, k ≤ 3 ∧ M 67 (14 + 6 * t + 0) = nI k := by
  have := h 67 (14 + 6 * t + 0)
  rw [kd_t t ht 0 (by decide)] at this
  exact ok3 this
theorem Wf.owner {M : mM} (h : Wf M) {t : Nat} (ht : t < 8) : okx 2 (M 67 (14 + 6 * t + 4)) := by
  have := h 67 (14 + 6 * t + 4)
  rwa [kd_t t ht 4 (by decide)] at this
theorem Wf.on {M : mM} (h : Wf M) {t : Nat} (ht : t < 8) : okx 2 (M 67 (14 + 6 * t + 5)) := by
  have := h 67 (14 + 6 * t + 5)
  rwa [kd_t t ht 5 (by decide)] at this
theorem Wf.nt {M : mM} (h : Wf M) : ∃ n, n ≤ 8 ∧ M 67 1 = nI n := ok1 (h 67 1)
theorem Wf.np {M : mM} (h : Wf M) : ∃ n, n ≤ 8 ∧ M 67 2 = nI n := ok1 (h 67 2)
def ab (k : Int32) : Int32 := if k = 0 then -1 else if k = nI 3 then nI 2 else if k = nI 4 then nI 3 else if k = nI 6 then nI 1 else nI 0
def rkU (k : Int32) : Nat := if k < 0 then 0 else if k = 0 then 1 else if k = nI 3 then 3 else if k = nI 4 then 4 else if k = nI 6 then 3 else 2
theorem ab_rk {k : Int32} (h : ¬ k < 0) : rkU (ab k) < rkU k := by
  unfold ab
  by_cases h0 : k = 0
  · subst h0; decide
  · rw [if_neg h0]
    by_cases h3 : k = nI 3
    · subst h3; decide
    · rw [if_neg h3]
      by_cases h4 : k = nI 4
      · subst h4; decide
      · rw [if_neg h4]
        by_cases h6 : k = nI 6
        · subst h6; decide
        · rw [if_neg h6]
          unfold rkU
          rw [if_neg h, if_neg h0, if_neg h3, if_neg h4, if_neg h6]
          decide
theorem rkU_le (k : Int32) : rkU k ≤ 4 := by
  unfold rkU
  repeat' split
  all_goals omega

section RR
variable {X : mSc} {Q : Option Value → mHp → Prop} {M : mM}
theorem t134 {v : Int32} : mT X 134 [.int v] (con M) (some (.int (bI (nI 0 ≤ v ∧ v ≤ nI 15)))) (con M) := by
  refine mT.of (row := _) rfl (Nat.le_of_ble_eq_true rfl) ?_
  have hm : mMet 134 = some _ := rfl
  refine x_iload_n hm rfl rfl ?_
  refine x_iconst hm rfl (v := nI 0) (by decide) ?_
  refine x_bipush hm rfl (v := nI 15) (by decide) ?_
  refine x_callS hm rfl rfl (t133) ?_
  refine x_iret hm rfl rfl (by first | rfl | exact bI_nar | decide) ?_
  exact qt rfl
theorem t157 {v : Int32} : mT X 157 [.int v] (con M) (some (.int (bI (nI 0 ≤ v ∧ v ≤ nI 6)))) (con M) := by
  refine mT.of (row := _) rfl (Nat.le_of_ble_eq_true rfl) ?_
  have hm : mMet 157 = some _ := rfl
  refine x_iload_n hm rfl rfl ?_
  refine x_iconst hm rfl (v := nI 0) (by decide) ?_
  refine x_bipush hm rfl (v := nI 6) (by decide) ?_
  refine x_callS hm rfl rfl (t133) ?_
  refine x_iret hm rfl rfl (by first | rfl | exact bI_nar | decide) ?_
  exact qt rfl
theorem t151 {v : Int32} : mT X 151 [.int v] (con M) (some (.int (bI (nI 0 ≤ v ∧ v ≤ nI 999)))) (con M) := by
  refine mT.of (row := _) rfl (Nat.le_of_ble_eq_true rfl) ?_
  have hm : mMet 151 = some _ := rfl
  refine x_iload_n hm rfl rfl ?_
  refine x_iconst hm rfl (v := nI 0) (by decide) ?_
  refine x_sipush hm rfl (v := nI 999) (by decide) ?_
  refine x_callS hm rfl rfl (t133) ?_
  refine x_iret hm rfl rfl (by first | rfl | exact bI_nar | decide) ?_
  exact qt rfl
theorem t152 {v : Int32} : mT X 152 [.int v] (con M) (some (.int (bI (nI 0 ≤ v ∧ v ≤ nI 9)))) (con M) := by
  refine mT.of (row := _) rfl (Nat.le_of_ble_eq_true rfl) ?_
  have hm : mMet 152 = some _ := rfl
  refine x_iload_n hm rfl rfl ?_
  refine x_iconst hm rfl (v := nI 0) (by decide) ?_
  refine x_bipush hm rfl (v := nI 9) (by decide) ?_
  refine x_callS hm rfl rfl (t133) ?_
  refine x_iret hm rfl rfl (by first | rfl | exact bI_nar | decide) ?_
  exact qt rfl
theorem t232 {v : Int32} : mT X 232 [.int v] (con M) (some (.int (bI (nI 0 ≤ v ∧ v ≤ nI 9)))) (con M) := by
  refine mT.of (row := _) rfl (Nat.le_of_ble_eq_true rfl) ?_
  have hm : mMet 232 = some _ := rfl
  refine x_iload_n hm rfl rfl ?_
  refine x_iconst hm rfl (v := nI 0) (by decide) ?_
  refine x_bipush hm rfl (v := nI 9) (by decide) ?_
  refine x_callS hm rfl rfl (t133) ?_
  refine x_iret hm rfl rfl (by first | rfl | exact bI_nar | decide) ?_
  exact qt rfl
theorem t210 {v : Int32} : mT X 210 [.int v] (con M) (some (.int (bI (nI 0 ≤ v ∧ v ≤ nI 3)))) (con M) := by
  refine mT.of (row := _) rfl (Nat.le_of_ble_eq_true rfl) ?_
  have hm : mMet 210 = some _ := rfl
  refine x_iload_n hm rfl rfl ?_
  refine x_iconst hm rfl (v := nI 0) (by decide) ?_
  refine x_iconst hm rfl (v := nI 3) (by decide) ?_
  refine x_callS hm rfl rfl (t133) ?_
  refine x_iret hm rfl rfl (by first | rfl | exact bI_nar | decide) ?_
  exact qt rfl
theorem t139 {v : Int32} : mT X 139 [.ref 66, .int v] (con M) (some (.int (bI (nI 0 ≤ v ∧ v ≤ M 67 1 - nI 1)))) (con M) := by
  refine mT.of (row := _) rfl (Nat.le_of_ble_eq_true rfl) ?_
  have hm : mMet 139 = some _ := rfl
  refine x_iload_n hm rfl rfl ?_
  refine x_iconst hm rfl (v := nI 0) (by decide) ?_
  refine x_aload_n hm rfl rfl ?_
  refine x_getf hm rfl (gR rfl rfl) ?_
  refine x_iconst hm rfl (v := nI 1) (by decide) ?_
  refine x_iald hm rfl (lI rfl (by omega) (by decide)) ?_
  refine x_iconst hm rfl (v := nI 1) (by decide) ?_
  refine x_isub hm rfl ?_
  refine x_callS hm rfl rfl (t133) ?_
  refine x_iret hm rfl rfl (by first | rfl | exact bI_nar | decide) ?_
  exact qt rfl
theorem t153 {v : Int32} : mT X 153 [.ref 66, .int v] (con M) (some (.int (bI (nI 0 ≤ v ∧ v ≤ M 67 2 - nI 1)))) (con M) := by
  refine mT.of (row := _) rfl (Nat.le_of_ble_eq_true rfl) ?_
  have hm : mMet 153 = some _ := rfl
  refine x_iload_n hm rfl rfl ?_
  refine x_iconst hm rfl (v := nI 0) (by decide) ?_
  refine x_aload_n hm rfl rfl ?_
  refine x_getf hm rfl (gR rfl rfl) ?_
  refine x_iconst hm rfl (v := nI 2) (by decide) ?_
  refine x_iald hm rfl (lI rfl (by omega) (by decide)) ?_
  refine x_iconst hm rfl (v := nI 1) (by decide) ?_
  refine x_isub hm rfl ?_
  refine x_callS hm rfl rfl (t133) ?_
  refine x_iret hm rfl rfl (by first | rfl | exact bI_nar | decide) ?_
  exact qt rfl
theorem t146 {t : Nat} (ht : t < 8) : mT X 146 [.ref 66, .int (nI t)] (con M) (some (.int (bI (M 67 (14 + 6 * t + 2) = 0)))) (con M) := by
  refine mT.of (row := _) rfl (Nat.le_of_ble_eq_true rfl) ?_
  have hm : mMet 146 = some _ := rfl
  refine x_aload_n hm rfl rfl ?_
  refine x_iload_n hm rfl rfl ?_
  refine x_iconst hm rfl (v := nI 2) (by decide) ?_
  refine x_callV hm rfl rfl (t143 (by omega) (by omega)) ?_
  refine x_if_ne hm rfl (t := 13) rfl (fun h1 => ?_) (fun h1 => ?_)
  · refine x_iconst hm rfl (v := nI 0) (by decide) ?_
    refine x_iret hm rfl rfl (by first | rfl | exact bI_nar | decide) ?_
    exact qt (congrArg Value.int (by first | exact bI_t h1 | exact bI_f h1))
  · refine x_iconst hm rfl (v := nI 1) (by decide) ?_
    refine x_goto hm rfl (t := 14) rfl ?_
    refine x_iret hm rfl rfl (by first | rfl | exact bI_nar | decide) ?_
    exact qt (congrArg Value.int (by first | exact bI_t h1 | exact bI_f h1))
theorem t148 {k : Int32} : mT X 148 [.int k] (con M) (some (.int (ab k))) (con M) := by
  refine mT.of (row := _) rfl (Nat.le_of_ble_eq_true rfl) ?_
  have hm : mMet 148 = some _ := rfl
  refine x_iload_n hm rfl rfl ?_
  refine x_if_ne hm rfl (t := 8) rfl (fun h1 => ?_) (fun h1 => ?_)
  · refine x_iload_n hm rfl rfl ?_
    refine x_iconst hm rfl (v := nI 3) (by decide) ?_
    refine x_icmp_ne hm rfl (t := 17) rfl (fun h2 => ?_) (fun h2 => ?_)
    · refine x_iload_n hm rfl rfl ?_
      refine x_iconst hm rfl (v := nI 4) (by decide) ?_
      refine x_icmp_ne hm rfl (t := 26) rfl (fun h3 => ?_) (fun h3 => ?_)
      · refine x_iload_n hm rfl rfl ?_
        refine x_bipush hm rfl (v := nI 6) (by decide) ?_
        refine x_icmp_ne hm rfl (t := 36) rfl (fun h4 => ?_) (fun h4 => ?_)
        · refine x_iconst hm rfl (v := nI 0) (by decide) ?_
          refine x_iret hm rfl rfl (by first | rfl | exact bI_nar | decide) ?_
          exact qt (congrArg Value.int (by unfold ab; first | rw [if_pos h1] | (rw [if_neg h1]; first | rw [if_pos h2] | (rw [if_neg h2]; first | rw [if_pos h3] | (rw [if_neg h3]; first | rw [if_pos h4] | rw [if_neg h4])))))
        · refine x_iconst hm rfl (v := nI 1) (by decide) ?_
          refine x_goto hm rfl (t := 37) rfl ?_
          refine x_iret hm rfl rfl (by first | rfl | exact bI_nar | decide) ?_
          exact qt (congrArg Value.int (by unfold ab; first | rw [if_pos h1] | (rw [if_neg h1]; first | rw [if_pos h2] | (rw [if_neg h2]; first | rw [if_pos h3] | (rw [if_neg h3]; first | rw [if_pos h4] | rw [if_neg h4])))))
      · refine x_iconst hm rfl (v := nI 3) (by decide) ?_
        refine x_goto hm rfl (t := 37) rfl ?_
        refine x_iret hm rfl rfl (by first | rfl | exact bI_nar | decide) ?_
        exact qt (congrArg Value.int (by unfold ab; first | rw [if_pos h1] | (rw [if_neg h1]; first | rw [if_pos h2] | (rw [if_neg h2]; first | rw [if_pos h3] | (rw [if_neg h3]; first | rw [if_pos h4] | rw [if_neg h4])))))
    · refine x_iconst hm rfl (v := nI 2) (by decide) ?_
      refine x_goto hm rfl (t := 37) rfl ?_
      refine x_iret hm rfl rfl (by first | rfl | exact bI_nar | decide) ?_
      exact qt (congrArg Value.int (by unfold ab; first | rw [if_pos h1] | (rw [if_neg h1]; first | rw [if_pos h2] | (rw [if_neg h2]; first | rw [if_pos h3] | (rw [if_neg h3]; first | rw [if_pos h4] | rw [if_neg h4])))))
  · refine x_iconst hm rfl (v := (-1 : Int32)) (by decide) ?_
    refine x_goto hm rfl (t := 37) rfl ?_
    refine x_iret hm rfl rfl (by first | rfl | exact bI_nar | decide) ?_
    exact qt (congrArg Value.int (by unfold ab; first | rw [if_pos h1] | (rw [if_neg h1]; first | rw [if_pos h2] | (rw [if_neg h2]; first | rw [if_pos h3] | (rw [if_neg h3]; first | rw [if_pos h4] | rw [if_neg h4])))))
theorem l147 {o : Int32} (k0 : Int32) : ∀ (n : Nat) (k : Int32), rkU k < n → mEv X (QE M (fun v => v = nI 0 ∨ v = nI 1)) 147 2 [some (.int k0), some (.int o), some (.int k)] [] (con M) := by
  have hm : mMet 147 = some _ := rfl
  intro n
  induction n with
  | zero =>
    intro k hk
    omega
  | succ n ih =>
    intro k hk
    refine x_iload_n hm rfl rfl ?_
    refine x_if_lt hm rfl (t := 19) rfl (fun h1 => ?_) (fun h1 => ?_)
    · refine x_iload_n hm rfl rfl ?_
      refine x_if_lt hm rfl (t := 27) rfl (fun h2 => ?_) (fun h2 => ?_)
      · refine x_iconst hm rfl (v := nI 0) (by decide) ?_
        refine x_iret hm rfl rfl (by first | rfl | exact bI_nar | decide) ?_
        exact ⟨_, rfl, rfl, by first | exact Or.inl rfl | exact Or.inr rfl⟩
      · refine x_iconst hm rfl (v := nI 1) (by decide) ?_
        refine x_goto hm rfl (t := 28) rfl ?_
        refine x_iret hm rfl rfl (by first | rfl | exact bI_nar | decide) ?_
        exact ⟨_, rfl, rfl, by first | exact Or.inl rfl | exact Or.inr rfl⟩
    · refine x_iload_n hm rfl rfl ?_
      refine x_iload_n hm rfl rfl ?_
      refine x_icmp_eq hm rfl (t := 19) rfl (fun h3 => ?_) (fun h3 => ?_)
      · refine x_iload_n hm rfl rfl ?_
        refine x_if_lt hm rfl (t := 27) rfl (fun h4 => ?_) (fun h4 => ?_)
        · refine x_iconst hm rfl (v := nI 0) (by decide) ?_
          refine x_iret hm rfl rfl (by first | rfl | exact bI_nar | decide) ?_
          exact ⟨_, rfl, rfl, by first | exact Or.inl rfl | exact Or.inr rfl⟩
        · refine x_iconst hm rfl (v := nI 1) (by decide) ?_
          refine x_goto hm rfl (t := 28) rfl ?_
          refine x_iret hm rfl rfl (by first | rfl | exact bI_nar | decide) ?_
          exact ⟨_, rfl, rfl, by first | exact Or.inl rfl | exact Or.inr rfl⟩
      · refine x_iload_n hm rfl rfl ?_
        refine x_callS hm rfl rfl (t148) ?_
        refine x_istore_n hm rfl rfl ?_
        refine x_goto hm rfl (t := 2) rfl ?_
        exact ih _ (by have := ab_rk h1; omega)
theorem t147 {k o : Int32} : ∃ v, mT X 147 [.int k, .int o] (con M) (some (.int v)) (con M) ∧ (v = nI 0 ∨ v = nI 1) := by
  refine te_of (row := _) rfl (Nat.le_of_ble_eq_true rfl) ?_
  have hm : mMet 147 = some _ := rfl
  refine x_iload_n hm rfl rfl ?_
  refine x_istore_n hm rfl rfl ?_
  exact l147 _ 5 _ (by have := rkU_le k; omega)
/-- the reference's chains end -/
def Ac (r : Nat → Int32) : Prop := ∀ n, n ≤ 8 → r 1 = nI n → ∃ rk : Nat → Nat, ∀ t u, t < n → u ≤ 7 → r (14 + 6 * t + 5) = nI u → u < n ∧ rk u < rk t
def hr (r : Nat → Int32) (o : Nat) : Nat → Nat → Prop
  | 0, _ => False
  | f + 1, u => u = o ∨ ∃ w, w ≤ 7 ∧ r (14 + 6 * u + 5) = nI w ∧ hr r o f w
def Inv (M : mM) : Prop := Wf M ∧ Ac (M 67) ∧ Ac (M 68)
/-- a finding was counted, or nothing was -/
def Fnd (M M' : mM) : Prop := (Wf M → Wf M') ∧ ∀ a, a ≠ 70 → M' a = M a
theorem Wf.put0 {M : mM} {a b : Nat} {v : Int32} (h : Wf M) (hk : kd a b = 0) : Wf (mput M a b v) := h.put (by rw [hk]; trivial)
theorem kd70 (b : Nat) : kd 70 b = 0 := by simp [kd]
theorem kd71 (b : Nat) : kd 71 b = 0 := by simp [kd]
theorem kd72 (b : Nat) : kd 72 b = 0 := by simp [kd]
theorem kd73 (b : Nat) : kd 73 b = 0 := by simp [kd]
theorem kd75 (b : Nat) : kd 75 b = 0 := by simp [kd]
theorem kd76 (b : Nat) : kd 76 b = 0 := by simp [kd]
theorem kd78 (b : Nat) : kd 78 b = 0 := by simp [kd]
theorem kd79 (b : Nat) : kd 79 b = 0 := by simp [kd]
theorem kd66 {b : Nat} (h : b ≠ 9) : kd 66 b = 0 := by simp [kd, h]
theorem Fnd.rf : Fnd M M := ⟨fun h => h, fun _ _ => rfl⟩
theorem Fnd.inv {M M' : mM} (h : Fnd M M') (hI : Inv M) : Inv M' := ⟨h.1 hI.1, by rw [h.2 67 (by decide)]; exact hI.2.1, by rw [h.2 68 (by decide)]; exact hI.2.2⟩
theorem tsm1 {v : Int32} (h : ¬ v < 0) (ho : okx 2 v) : ∃ k, k ≤ 7 ∧ v = nI k := by
  rcases ok2 ho with rfl | h1
  · exact absurd (by decide) h
  · exact h1
theorem t145 {p t : Nat} {o : Int32} (hW : Wf M) (hp : p < 8) (ht : t < 8) (ho : okx 2 o) : ∃ v, mT X 145 [.ref 66, .int (nI p), .int (nI t), .int o] (con M) (some (.int v)) (con M) ∧ True := by
  refine te_of (row := _) rfl (Nat.le_of_ble_eq_true rfl) ?_
  have hm : mMet 145 = some _ := rfl
  obtain ⟨s, hs3, hs⟩ := hW.sort ht
  have J190 : ∀ (o1 v4 v5 v6 : Int32), mEv X (QE M (fun _ => True)) 145 190 [some (.ref 66), some (.int (nI p)), some (.int (nI t)), some (.int o1), some (.int v4), some (.int v5), some (.int v6)] [] (con M) := by
    intro o1 v4 v5 v6
    refine x_iconst hm rfl (v := nI 0) (by decide) ?_
    refine x_iload hm rfl rfl ?_
    refine x_lib hm rfl rfl ?_
    dsimp only
    refine x_iret hm rfl rfl (by first | rfl | exact bI_nar | decide) ?_
    exact ⟨_, rfl, rfl, trivial⟩
  have J73 : ∀ (o1 v4 v5 : Int32), mEv X (QE M (fun _ => True)) 145 73 [some (.ref 66), some (.int (nI p)), some (.int (nI t)), some (.int o1), some (.int v4), some (.int v5), none] [] (con M) := by
    intro o1 v4 v5
    refine x_aload_n hm rfl rfl ?_
    refine x_iload_n hm rfl rfl ?_
    refine x_iconst hm rfl (v := nI 0) (by decide) ?_
    refine x_callV hm rfl rfl (t141 (by omega) (by omega)) ?_
    refine x_ts hm rfl (fun h1 => ⟨186, rfl, ?_⟩) (fun i1 h1 g1 => ?_)
    · refine x_iload hm rfl rfl ?_
      refine x_istore hm rfl rfl ?_
      exact J190 _ _ _ _
    · have k1 : i1 = 0 ∨ i1 = 1 ∨ i1 = 2 ∨ i1 = 3 ∨ i1 = 4 ∨ i1 = 5 := by omega
      rcases k1 with rfl | rfl | rfl | rfl | rfl | rfl
      · refine ⟨_, 116, rfl, rfl, ?_⟩
        refine x_iload hm rfl rfl ?_
        refine x_iconst hm rfl (v := nI 2) (by decide) ?_
        refine x_idiv hm rfl (by decide) ?_
        refine x_istore hm rfl rfl ?_
        refine x_goto hm rfl (t := 190) rfl ?_
        exact J190 _ _ _ _
      · refine ⟨_, 142, rfl, rfl, ?_⟩
        refine x_iload hm rfl rfl ?_
        refine x_istore hm rfl rfl ?_
        refine x_goto hm rfl (t := 190) rfl ?_
        exact J190 _ _ _ _
      · refine ⟨_, 149, rfl, rfl, ?_⟩
        refine x_iload hm rfl rfl ?_
        refine x_iconst hm rfl (v := nI 3) (by decide) ?_
        refine x_isub hm rfl ?_
        refine x_istore hm rfl rfl ?_
        refine x_goto hm rfl (t := 190) rfl ?_
        exact J190 _ _ _ _
      · refine ⟨_, 158, rfl, rfl, ?_⟩
        refine x_iload hm rfl rfl ?_
        refine x_iconst hm rfl (v := nI 3) (by decide) ?_
        refine x_isub hm rfl ?_
        refine x_aload_n hm rfl rfl ?_
        refine x_iload_n hm rfl rfl ?_
        refine x_iconst hm rfl (v := nI 2) (by decide) ?_
        refine x_callV hm rfl rfl (t143 (by omega) (by omega)) ?_
        refine x_bipush hm rfl (v := nI 100) (by decide) ?_
        refine x_idiv hm rfl (by decide) ?_
        refine x_iadd hm rfl ?_
        refine x_istore hm rfl rfl ?_
        refine x_goto hm rfl (t := 190) rfl ?_
        exact J190 _ _ _ _
      · refine ⟨_, 177, rfl, rfl, ?_⟩
        refine x_iconst hm rfl (v := nI 2) (by decide) ?_
        refine x_iload hm rfl rfl ?_
        refine x_imul hm rfl ?_
        refine x_istore hm rfl rfl ?_
        refine x_goto hm rfl (t := 190) rfl ?_
        exact J190 _ _ _ _
      · refine ⟨_, 125, rfl, rfl, ?_⟩
        refine x_iload_n hm rfl rfl ?_
        refine x_if_ge hm rfl (t := 133) rfl (fun h2 => ?_) (fun h2 => ?_)
        · refine x_iload hm rfl rfl ?_
          refine x_iconst hm rfl (v := nI 2) (by decide) ?_
          refine x_idiv hm rfl (by decide) ?_
          refine x_istore hm rfl rfl ?_
          refine x_goto hm rfl (t := 190) rfl ?_
          exact J190 _ _ _ _
        · refine x_iconst hm rfl (v := nI 0) (by decide) ?_
          refine x_goto hm rfl (t := 137) rfl ?_
          refine x_istore hm rfl rfl ?_
          refine x_goto hm rfl (t := 190) rfl ?_
          exact J190 _ _ _ _
  refine x_iload_n hm rfl rfl ?_
  refine x_iload_n hm rfl rfl ?_
  refine x_icmp_eq hm rfl (t := 21) rfl (fun h3 => ?_) (fun h3 => ?_)
  · refine x_iconst hm rfl (v := nI 0) (by decide) ?_
    refine x_iret hm rfl rfl (by first | rfl | exact bI_nar | decide) ?_
    exact ⟨_, rfl, rfl, trivial⟩
  · refine x_aload_n hm rfl rfl ?_
    refine x_iload_n hm rfl rfl ?_
    refine x_callV hm rfl rfl (t146 (by omega)) ?_
    refine x_if_ne hm rfl (t := 21) rfl (fun h4 => ?_) (fun h4 => ?_)
    · refine x_iconst hm rfl (v := nI 0) (by decide) ?_
      refine x_iret hm rfl rfl (by first | rfl | exact bI_nar | decide) ?_
      exact ⟨_, rfl, rfl, trivial⟩
    · refine x_iload_n hm rfl rfl ?_
      refine x_aload_n hm rfl rfl ?_
      refine x_getf hm rfl (gI rfl rfl) ?_
      refine x_icmp_ne hm rfl (t := 23) rfl (fun h5 => ?_) (fun h5 => ?_)
      · refine x_aload_n hm rfl rfl ?_
        refine x_iload_n hm rfl rfl ?_
        refine x_iconst hm rfl (v := nI 3) (by decide) ?_
        refine x_aload_n hm rfl rfl ?_
        refine x_iload_n hm rfl rfl ?_
        refine x_iconst hm rfl (v := nI 0) (by decide) ?_
        refine x_callV hm rfl rfl (t143 (by omega) (by omega)) ?_
        rw [hs]
        refine x_iadd hm rfl ?_
        rw [jI_add]
        refine x_callV hm rfl rfl (t141 (by omega) (by omega)) ?_
        refine x_aload_n hm rfl rfl ?_
        refine x_iload_n hm rfl rfl ?_
        refine x_iconst hm rfl (v := nI 3) (by decide) ?_
        refine x_callV hm rfl rfl (t143 (by omega) (by omega)) ?_
        refine x_isub hm rfl ?_
        refine x_istore hm rfl rfl ?_
        refine x_iload_n hm rfl rfl ?_
        refine x_if_lt hm rfl (t := 69) rfl (fun h6 => ?_) (fun h6 => ?_)
        · refine x_iload hm rfl rfl ?_
          refine x_istore hm rfl rfl ?_
          exact J73 _ _ _
        · obtain ⟨k, hk, rfl⟩ := tsm1 h6 ho
          refine x_aload_n hm rfl rfl ?_
          refine x_iload_n hm rfl rfl ?_
          refine x_iconst hm rfl (v := nI 0) (by decide) ?_
          refine x_callV hm rfl rfl (t141 (by omega) (by omega)) ?_
          refine x_iconst hm rfl (v := nI 2) (by decide) ?_
          refine x_cSe hm rfl rfl (t147) (fun v7 r7 => ?_)
          refine x_if_eq hm rfl (t := 69) rfl (fun h8 => ?_) (fun h8 => ?_)
          · refine x_iload hm rfl rfl ?_
            refine x_istore hm rfl rfl ?_
            exact J73 _ _ _
          · refine x_iload hm rfl rfl ?_
            refine x_iconst hm rfl (v := nI 2) (by decide) ?_
            refine x_iadd hm rfl ?_
            refine x_goto hm rfl (t := 71) rfl ?_
            refine x_istore hm rfl rfl ?_
            exact J73 _ _ _
      · refine x_iconst hm rfl (v := nI 0) (by decide) ?_
        refine x_iret hm rfl rfl (by first | rfl | exact bI_nar | decide) ?_
        exact ⟨_, rfl, rfl, trivial⟩
theorem t144 {p t : Nat} (hW : Wf M) (hp : p < 8) (ht : t < 8) : ∃ v, mT X 144 [.ref 66, .int (nI p), .int (nI t)] (con M) (some (.int v)) (con M) ∧ True := by
  refine te_of (row := _) rfl (Nat.le_of_ble_eq_true rfl) ?_
  have hm : mMet 144 = some _ := rfl
  refine x_aload_n hm rfl rfl ?_
  refine x_iload_n hm rfl rfl ?_
  refine x_iload_n hm rfl rfl ?_
  refine x_aload_n hm rfl rfl ?_
  refine x_iload_n hm rfl rfl ?_
  refine x_iconst hm rfl (v := nI 4) (by decide) ?_
  refine x_callV hm rfl rfl (t143 (by omega) (by omega)) ?_
  refine x_cVe hm rfl rfl (t145 hW hp ht (hW.owner ht)) (fun v1 r1 => ?_)
  refine x_iret hm rfl rfl (by first | rfl | exact bI_nar | decide) ?_
  exact ⟨_, rfl, rfl, trivial⟩
theorem l140 {t np : Nat} (hW : Wf M) (hnp : M 67 2 = nI np) (h8 : np ≤ 8) (ht : t < 8) : ∀ (n p : Nat) (s : Int32), np - p < n → p ≤ np → mEv X (QE M (fun _ => True)) 140 4 [some (.ref 66), some (.int (nI t)), some (.int s), some (.int (nI p))] [] (con M) := by
  have hm : mMet 140 = some _ := rfl
  intro n
  induction n with
  | zero =>
    intro p s hp hpn
    omega
  | succ n ih =>
    intro p s hp hpn
    refine x_iload_n hm rfl rfl ?_
    refine x_aload_n hm rfl rfl ?_
    refine x_getf hm rfl (gR rfl rfl) ?_
    refine x_iconst hm rfl (v := nI 2) (by decide) ?_
    refine x_iald hm rfl (lI rfl (by omega) (by decide)) ?_
    rw [hnp]
    refine x_icmp_ge hm rfl (t := 48) rfl (fun h1 => ?_) (fun h1 => ?_)
    · refine x_iload_n hm rfl rfl ?_
      refine x_aload_n hm rfl rfl ?_
      refine x_iload_n hm rfl rfl ?_
      refine x_iconst hm rfl (v := nI 2) (by decide) ?_
      refine x_callV hm rfl rfl (t143 (by omega) (by omega)) ?_
      refine x_lib hm rfl rfl ?_
      dsimp only
      refine x_iret hm rfl rfl (by first | rfl | exact bI_nar | decide) ?_
      exact ⟨_, rfl, rfl, trivial⟩
    · have hlt : p < np := Nat.lt_of_not_le fun h => h1 (nI_le h (by omega))
      refine x_iload_n hm rfl rfl ?_
      refine x_aload_n hm rfl rfl ?_
      refine x_iload_n hm rfl rfl ?_
      refine x_iconst hm rfl (v := nI 1) (by decide) ?_
      refine x_callV hm rfl rfl (t141 (by omega) (by omega)) ?_
      refine x_aload_n hm rfl rfl ?_
      refine x_iload_n hm rfl rfl ?_
      refine x_iconst hm rfl (v := nI 1) (by decide) ?_
      refine x_callV hm rfl rfl (t143 (by omega) (by omega)) ?_
      refine x_icmp_ne hm rfl (t := 39) rfl (fun h2 => ?_) (fun h2 => ?_)
      · refine x_iconst hm rfl (v := nI 0) (by decide) ?_
        refine x_iadd hm rfl ?_
        refine x_istore_n hm rfl rfl ?_
        refine x_iinc hm rfl rfl (v := nI 1) (by decide) rfl ?_
        rw [jI_add]
        refine x_goto hm rfl (t := 4) rfl ?_
        exact ih _ _ (by omega) (by omega)
      · refine x_aload_n hm rfl rfl ?_
        refine x_iload_n hm rfl rfl ?_
        refine x_iload_n hm rfl rfl ?_
        refine x_cVe hm rfl rfl (t144 hW (by omega) (by omega)) (fun v3 r3 => ?_)
        refine x_goto hm rfl (t := 40) rfl ?_
        refine x_iadd hm rfl ?_
        refine x_istore_n hm rfl rfl ?_
        refine x_iinc hm rfl rfl (v := nI 1) (by decide) rfl ?_
        rw [jI_add]
        refine x_goto hm rfl (t := 4) rfl ?_
        exact ih _ _ (by omega) (by omega)
theorem t140 {t : Nat} (hW : Wf M) (ht : t < 8) : ∃ v, mT X 140 [.ref 66, .int (nI t)] (con M) (some (.int v)) (con M) ∧ True := by
  refine te_of (row := _) rfl (Nat.le_of_ble_eq_true rfl) ?_
  have hm : mMet 140 = some _ := rfl
  obtain ⟨np, h8, hnp⟩ := hW.np
  refine x_iconst hm rfl (v := nI 0) (by decide) ?_
  refine x_istore_n hm rfl rfl ?_
  refine x_iconst hm rfl (v := nI 0) (by decide) ?_
  refine x_istore_n hm rfl rfl ?_
  exact l140 hW hnp h8 ht _ 0 _ (Nat.lt_succ_self _) (Nat.zero_le _)
theorem t135 {v : Int32} (hv : FD v) : ∃ v' M', mT X 135 [.ref 66, .int v] (con M) (some (.int v')) (con M') ∧ v' = v ∧ Fnd M M' := by
  refine ti_of (row := _) rfl (Nat.le_of_ble_eq_true rfl) ?_
  have hm : mMet 135 = some _ := rfl
  obtain ⟨k, hk, he⟩ := FD_k hv
  refine x_aload_n hm rfl rfl ?_
  refine x_getf hm rfl (gR rfl rfl) ?_
  refine x_ldcI hm rfl (v := (-1000001 : Int32)) (by decide +kernel) ?_
  refine x_iload_n hm rfl rfl ?_
  refine x_isub hm rfl ?_
  refine x_iconst hm rfl (v := nI 1) (by decide) ?_
  refine x_iadd hm rfl ?_
  rw [he]
  refine x_dup2 hm rfl rfl rfl ?_
  refine x_iald hm rfl (lI rfl (by omega) (by decide)) ?_
  refine x_iconst hm rfl (v := nI 1) (by decide) ?_
  refine x_iadd hm rfl ?_
  refine x_iast hm rfl (sI rfl (by omega) (by decide)) ?_
  refine x_aload_n hm rfl rfl ?_
  refine x_getf hm rfl (gR rfl rfl) ?_
  refine x_iconst hm rfl (v := nI 0) (by decide) ?_
  refine x_dup2 hm rfl rfl rfl ?_
  refine x_iald hm rfl (lI rfl (by omega) (by decide)) ?_
  refine x_iconst hm rfl (v := nI 1) (by decide) ?_
  refine x_iadd hm rfl ?_
  refine x_iast hm rfl (sI rfl (by omega) (by decide)) ?_
  refine x_iload_n hm rfl rfl ?_
  refine x_iret hm rfl rfl (by first | rfl | exact bI_nar | decide) ?_
  exact ⟨_, _, rfl, rfl, rfl, fun h => (h.put0 (kd70 _)).put0 (kd70 _), fun a ha => by funext b; simp [mput, ha]⟩
/-- what is only asked changes but the findings -/
def Iq (M M' : mM) : Prop := Inv M' ∧ ∀ a, a ≠ 70 → M' a = M a
theorem Iq.rf (hI : Inv M) : Iq M M := ⟨hI, fun _ _ => rfl⟩
theorem Fnd.iq {M' : mM} (h : Fnd M M') (hI : Inv M) : Iq M M' := ⟨h.inv hI, h.2⟩
theorem t138 {a1 a2 : Int32} (hI : Inv M) : ∃ v M', mT X 138 [.ref 66, .int a1, .int a2] (con M) (some (.int v)) (con M') ∧ Iq M M' := by
  refine ti_of (row := _) rfl (Nat.le_of_ble_eq_true rfl) ?_
  have hm : mMet 138 = some _ := rfl
  obtain ⟨nt, hn8, hnt⟩ := hI.1.nt
  refine x_aload_n hm rfl rfl ?_
  refine x_iload_n hm rfl rfl ?_
  refine x_callV hm rfl rfl (t139) ?_
  refine x_if_eq hm rfl (t := 18) rfl (fun h1 => ?_) (fun h1 => ?_)
  · refine x_aload_n hm rfl rfl ?_
    refine x_ldcI hm rfl (v := (-1000001 : Int32)) (by decide +kernel) ?_
    refine x_cVi hm rfl rfl (t135 (by decide +kernel)) (fun v2 M2 r2 => ?_)
    refine x_iret hm rfl rfl (by first | rfl | exact bI_nar | decide) ?_
    exact ⟨_, _, rfl, rfl, by first | exact Iq.rf hI | exact (r1.2.iq hI) | exact (r2.2.iq hI) | exact (r3.2.iq hI) | exact (r4.2.iq hI) | exact (r5.2.iq hI) | exact (r6.2.iq hI) | exact (r7.2.iq hI) | exact (r8.2.iq hI)⟩
  · obtain ⟨t, ht, rfl⟩ := in_k hnt (by omega) (bI_ne0 h1)
    refine x_iload_n hm rfl rfl ?_
    refine x_iconst hm rfl (v := nI 0) (by decide) ?_
    refine x_bipush hm rfl (v := nI 6) (by decide) ?_
    refine x_callS hm rfl rfl (t133) ?_
    refine x_if_ne hm rfl (t := 25) rfl (fun h3 => ?_) (fun h3 => ?_)
    · obtain ⟨w, hw, rfl⟩ := le_k (by omega) (bI_ne0 h3)
      refine x_iload_n hm rfl rfl ?_
      refine x_bipush hm rfl (v := nI 6) (by decide) ?_
      refine x_icmp_ne hm rfl (t := 39) rfl (fun h4 => ?_) (fun h4 => ?_)
      · have hw6 : w ≠ 6 := fun e => h4 (by rw [e])
        refine x_aload_n hm rfl rfl ?_
        refine x_iload_n hm rfl rfl ?_
        refine x_iload_n hm rfl rfl ?_
        refine x_callV hm rfl rfl (t143 (by omega) (by omega)) ?_
        refine x_iret hm rfl rfl (by first | rfl | exact bI_nar | decide) ?_
        exact ⟨_, _, rfl, rfl, by first | exact Iq.rf hI | exact (r1.2.iq hI) | exact (r2.2.iq hI) | exact (r3.2.iq hI) | exact (r4.2.iq hI) | exact (r5.2.iq hI) | exact (r6.2.iq hI) | exact (r7.2.iq hI) | exact (r8.2.iq hI)⟩
      · 
        refine x_aload_n hm rfl rfl ?_
        refine x_iload_n hm rfl rfl ?_
        refine x_cVe hm rfl rfl (t140 hI.1 (by omega)) (fun v5 r5 => ?_)
        refine x_goto hm rfl (t := 45) rfl ?_
        refine x_iret hm rfl rfl (by first | rfl | exact bI_nar | decide) ?_
        exact ⟨_, _, rfl, rfl, by first | exact Iq.rf hI | exact (r1.2.iq hI) | exact (r2.2.iq hI) | exact (r3.2.iq hI) | exact (r4.2.iq hI) | exact (r5.2.iq hI) | exact (r6.2.iq hI) | exact (r7.2.iq hI) | exact (r8.2.iq hI)⟩
    · refine x_aload_n hm rfl rfl ?_
      refine x_ldcI hm rfl (v := (-1000001 : Int32)) (by decide +kernel) ?_
      refine x_cVi hm rfl rfl (t135 (by decide +kernel)) (fun v6 M6 r6 => ?_)
      refine x_iret hm rfl rfl (by first | rfl | exact bI_nar | decide) ?_
      exact ⟨_, _, rfl, rfl, by first | exact Iq.rf hI | exact (r1.2.iq hI) | exact (r2.2.iq hI) | exact (r3.2.iq hI) | exact (r4.2.iq hI) | exact (r5.2.iq hI) | exact (r6.2.iq hI) | exact (r7.2.iq hI) | exact (r8.2.iq hI)⟩
end RR
