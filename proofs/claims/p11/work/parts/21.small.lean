/-! ===== the small methods ===== -/
/-- a truth value as the machine has it -/
def bI (c : Prop) [Decidable c] : Int32 := if c then nI 1 else nI 0
theorem bI_t {c : Prop} [Decidable c] (h : c) : nI 1 = bI c := (if_pos h).symm
theorem bI_f {c : Prop} [Decidable c] (h : ¬ c) : nI 0 = bI c := (if_neg h).symm
theorem qt {a b : Value} {D : mHp} (h : a = b) : (some a = some b ∧ D = D) := ⟨by rw [h], rfl⟩
theorem bI_eq0 {c : Prop} [Decidable c] : bI c = 0 ↔ ¬ c := by
  unfold bI
  by_cases h : c <;> simp [h, nI] <;> decide
theorem bI_nar {c : Prop} [Decidable c] : narrow .boolean (.int (bI c)) = .int (bI c) := by
  unfold bI
  by_cases h : c
  · rw [if_pos h]; rfl
  · rw [if_neg h]; rfl
theorem bI_iff {c d : Prop} [Decidable c] [Decidable d] (h : c ↔ d) : bI c = bI d := by
  unfold bI
  by_cases hc : c
  · rw [if_pos hc, if_pos (h.mp hc)]
  · rw [if_neg hc, if_neg fun x => hc (h.mpr x)]

section SM
variable {X : mSc} {M : mM}
theorem t6 {v a b : Int32} : mT X 6 [.int v, .int a, .int b] (con M) (some (.int (bI (a ≤ v ∧ v ≤ b)))) (con M) := by
  refine mT.of (row := _) rfl (Nat.le_of_ble_eq_true rfl) ?_
  have hm : mMet 6 = some _ := rfl
  refine x_iload_n hm rfl rfl ?_
  refine x_iload_n hm rfl rfl ?_
  refine x_icmp_lt hm rfl (t := 14) rfl (fun h1 => ?_) (fun h1 => ?_)
  · refine x_iconst hm rfl (v := nI 0) (by decide) ?_
    refine x_iret hm rfl rfl (by first | rfl | exact bI_nar | decide) ?_
    exact qt (congrArg Value.int (by first | exact bI_t ⟨Int32.not_lt.mp h1, Int32.not_lt.mp h2⟩ | exact bI_f (fun h => Int32.not_lt.mpr h.1 h1) | exact bI_f (fun h => Int32.not_lt.mpr h.2 h2)))
  · refine x_iload_n hm rfl rfl ?_
    refine x_iload_n hm rfl rfl ?_
    refine x_icmp_gt hm rfl (t := 14) rfl (fun h2 => ?_) (fun h2 => ?_)
    · refine x_iconst hm rfl (v := nI 0) (by decide) ?_
      refine x_iret hm rfl rfl (by first | rfl | exact bI_nar | decide) ?_
      exact qt (congrArg Value.int (by first | exact bI_t ⟨Int32.not_lt.mp h1, Int32.not_lt.mp h2⟩ | exact bI_f (fun h => Int32.not_lt.mpr h.1 h1) | exact bI_f (fun h => Int32.not_lt.mpr h.2 h2)))
    · refine x_iconst hm rfl (v := nI 1) (by decide) ?_
      refine x_goto hm rfl (t := 15) rfl ?_
      refine x_iret hm rfl rfl (by first | rfl | exact bI_nar | decide) ?_
      exact qt (congrArg Value.int (by first | exact bI_t ⟨Int32.not_lt.mp h1, Int32.not_lt.mp h2⟩ | exact bI_f (fun h => Int32.not_lt.mpr h.1 h1) | exact bI_f (fun h => Int32.not_lt.mpr h.2 h2)))
theorem t133 {v a b : Int32} : mT X 133 [.int v, .int a, .int b] (con M) (some (.int (bI (a ≤ v ∧ v ≤ b)))) (con M) := by
  refine mT.of (row := _) rfl (Nat.le_of_ble_eq_true rfl) ?_
  have hm : mMet 133 = some _ := rfl
  refine x_iload_n hm rfl rfl ?_
  refine x_iload_n hm rfl rfl ?_
  refine x_icmp_lt hm rfl (t := 14) rfl (fun h1 => ?_) (fun h1 => ?_)
  · refine x_iconst hm rfl (v := nI 0) (by decide) ?_
    refine x_iret hm rfl rfl (by first | rfl | exact bI_nar | decide) ?_
    exact qt (congrArg Value.int (by first | exact bI_t ⟨Int32.not_lt.mp h1, Int32.not_lt.mp h2⟩ | exact bI_f (fun h => Int32.not_lt.mpr h.1 h1) | exact bI_f (fun h => Int32.not_lt.mpr h.2 h2)))
  · refine x_iload_n hm rfl rfl ?_
    refine x_iload_n hm rfl rfl ?_
    refine x_icmp_gt hm rfl (t := 14) rfl (fun h2 => ?_) (fun h2 => ?_)
    · refine x_iconst hm rfl (v := nI 0) (by decide) ?_
      refine x_iret hm rfl rfl (by first | rfl | exact bI_nar | decide) ?_
      exact qt (congrArg Value.int (by first | exact bI_t ⟨Int32.not_lt.mp h1, Int32.not_lt.mp h2⟩ | exact bI_f (fun h => Int32.not_lt.mpr h.1 h1) | exact bI_f (fun h => Int32.not_lt.mpr h.2 h2)))
    · refine x_iconst hm rfl (v := nI 1) (by decide) ?_
      refine x_goto hm rfl (t := 15) rfl ?_
      refine x_iret hm rfl rfl (by first | rfl | exact bI_nar | decide) ?_
      exact qt (congrArg Value.int (by first | exact bI_t ⟨Int32.not_lt.mp h1, Int32.not_lt.mp h2⟩ | exact bI_f (fun h => Int32.not_lt.mpr h.1 h1) | exact bI_f (fun h => Int32.not_lt.mpr h.2 h2)))
theorem t137 {t f : Nat} : mT X 137 [.int (nI t), .int (nI f)] (con M) (some (.int (nI (14 + 6 * t + f)))) (con M) := by
  refine mT.of (row := _) rfl (Nat.le_of_ble_eq_true rfl) ?_
  have hm : mMet 137 = some _ := rfl
  refine x_bipush hm rfl (v := nI 14) (by decide) ?_
  refine x_bipush hm rfl (v := nI 6) (by decide) ?_
  refine x_iload_n hm rfl rfl ?_
  refine x_imul hm rfl ?_
  refine x_iadd hm rfl ?_
  refine x_iload_n hm rfl rfl ?_
  refine x_iadd hm rfl ?_
  refine x_iret hm rfl rfl (by first | rfl | exact bI_nar | decide) ?_
  exact qt (by rw [jI_mul, jI_add, jI_add])
theorem t142 {t f : Nat} : mT X 142 [.int (nI t), .int (nI f)] (con M) (some (.int (nI (62 + 7 * t + f)))) (con M) := by
  refine mT.of (row := _) rfl (Nat.le_of_ble_eq_true rfl) ?_
  have hm : mMet 142 = some _ := rfl
  refine x_bipush hm rfl (v := nI 62) (by decide) ?_
  refine x_bipush hm rfl (v := nI 7) (by decide) ?_
  refine x_iload_n hm rfl rfl ?_
  refine x_imul hm rfl ?_
  refine x_iadd hm rfl ?_
  refine x_iload_n hm rfl rfl ?_
  refine x_iadd hm rfl ?_
  refine x_iret hm rfl rfl (by first | rfl | exact bI_nar | decide) ?_
  exact qt (by rw [jI_mul, jI_add, jI_add])
theorem t143 {t f : Nat} (ht : t < 8) (hf : f < 6) : mT X 143 [.ref 66, .int (nI t), .int (nI f)] (con M) (some (.int (M 67 (14 + 6 * t + f)))) (con M) := by
  refine mT.of (row := _) rfl (Nat.le_of_ble_eq_true rfl) ?_
  have hm : mMet 143 = some _ := rfl
  refine x_aload_n hm rfl rfl ?_
  refine x_getf hm rfl (gR rfl rfl) ?_
  refine x_iload_n hm rfl rfl ?_
  refine x_iload_n hm rfl rfl ?_
  refine x_callS hm rfl rfl (t137) ?_
  refine x_iald hm rfl (lI rfl (by omega) (by decide)) ?_
  refine x_iret hm rfl rfl (by first | rfl | exact bI_nar | decide) ?_
  exact qt rfl
theorem t141 {t f : Nat} (ht : t < 8) (hf : f < 7) : mT X 141 [.ref 66, .int (nI t), .int (nI f)] (con M) (some (.int (M 67 (62 + 7 * t + f)))) (con M) := by
  refine mT.of (row := _) rfl (Nat.le_of_ble_eq_true rfl) ?_
  have hm : mMet 141 = some _ := rfl
  refine x_aload_n hm rfl rfl ?_
  refine x_getf hm rfl (gR rfl rfl) ?_
  refine x_iload_n hm rfl rfl ?_
  refine x_iload_n hm rfl rfl ?_
  refine x_callS hm rfl rfl (t142) ?_
  refine x_iald hm rfl (lI rfl (by omega) (by decide)) ?_
  refine x_iret hm rfl rfl (by first | rfl | exact bI_nar | decide) ?_
  exact qt rfl
end SM
