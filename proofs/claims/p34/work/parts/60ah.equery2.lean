section EH
variable {X : mSc} {Q : Option Value → mHp → Prop} {M : mM}
theorem m181 {p t : Nat} (hp : p < 8) (ht : t < 8) : ∀ (n k : Nat) (x : Int32), 16 - k < n → k ≤ 16 → mEv X (QI (fun v M' => v = (sSe (M 67 (14 + 6 * t + 1)) (M 67 (62 + 7 * p + 2)) (16 - k) k x).1 ∧ Kq M M' ∧ Fq (sSe (M 67 (14 + 6 * t + 1)) (M 67 (62 + 7 * p + 2)) (16 - k) k x) M M')) 181 33 [some (.ref 66), some (.int (nI p)), some (.int (nI t)), some (.int x), some (.int (nI k))] [] (con M) := by
  have hm : mMet 181 = some _ := rfl
  intro n
  induction n with
  | zero =>
    intro k x hkn hkb
    omega
  | succ n ih =>
    intro k x hkn hkb
    refine x_iload hm rfl rfl ?_
    refine x_bipush hm rfl (v := nI 16) (by decide) ?_
    refine x_icmp_ge hm rfl (t := 68) rfl (fun h1 => ?_) (fun h1 => ?_)
    · obtain rfl : k = 16 := Nat.le_antisymm hkb ((jI_le (by decide) (by omega)).mp h1)
      refine x_iload hm rfl rfl ?_
      refine x_bipush hm rfl (v := nI 16) (by decide) ?_
      refine x_icmp_ge hm rfl (t := 80) rfl (fun h2 => ?_) (fun h2 => ?_)
      · refine x_aload_n hm rfl rfl ?_
        refine x_ldcI hm rfl (v := (-1000004 : Int32)) (by decide +kernel) ?_
        refine x_callV hm rfl rfl (e135 (by decide +kernel)) ?_
        refine x_iret hm rfl rfl (by first | rfl | exact bI_nar | decide) ?_
        first
          | exact absurd (show nI 16 ≤ nI k by assumption) (show ¬ nI 16 ≤ nI k by assumption)
          | exact absurd (nI_le (Nat.le_refl 16) (by decide)) (by assumption)
          | (have hq : sSe (M 67 (14 + 6 * t + 1)) (M 67 (62 + 7 * p + 2)) ((16 - (k + 1)) + 1) k x = (nI k, false) := if_pos (by assumption)
             exact ⟨_, _, rfl, rfl, fst_q hq, Kq.rf, by rw [hq]; exact rfl⟩)
          | exact ⟨_, _, rfl, rfl, rfl, fndR_kq, fndR_fq⟩
      · refine x_iload hm rfl rfl ?_
        refine x_goto hm rfl (t := 86) rfl ?_
        refine x_iret hm rfl rfl (by first | rfl | exact bI_nar | decide) ?_
        first
          | exact absurd (show nI 16 ≤ nI k by assumption) (show ¬ nI 16 ≤ nI k by assumption)
          | exact absurd (nI_le (Nat.le_refl 16) (by decide)) (by assumption)
          | (have hq : sSe (M 67 (14 + 6 * t + 1)) (M 67 (62 + 7 * p + 2)) ((16 - (k + 1)) + 1) k x = (nI k, false) := if_pos (by assumption)
             exact ⟨_, _, rfl, rfl, fst_q hq, Kq.rf, by rw [hq]; exact rfl⟩)
          | exact ⟨_, _, rfl, rfl, rfl, fndR_kq, fndR_fq⟩
    · have hk : k < 16 := Nat.lt_of_not_le fun h => h1 (nI_le h (by omega))
      have e16 : 16 - k = (16 - (k + 1)) + 1 := by omega
      rw [e16]
      refine x_iload_n hm rfl rfl ?_
      refine x_aload_n hm rfl rfl ?_
      refine x_iload_n hm rfl rfl ?_
      refine x_iconst hm rfl (v := nI 1) (by decide) ?_
      refine x_callV hm rfl rfl (t143 (by omega) (by omega)) ?_
      refine x_icmp_eq hm rfl (t := 68) rfl (fun h3 => ?_) (fun h3 => ?_)
      · refine x_iload hm rfl rfl ?_
        refine x_bipush hm rfl (v := nI 16) (by decide) ?_
        refine x_icmp_ge hm rfl (t := 80) rfl (fun h4 => ?_) (fun h4 => ?_)
        · refine x_aload_n hm rfl rfl ?_
          refine x_ldcI hm rfl (v := (-1000004 : Int32)) (by decide +kernel) ?_
          refine x_callV hm rfl rfl (e135 (by decide +kernel)) ?_
          refine x_iret hm rfl rfl (by first | rfl | exact bI_nar | decide) ?_
          first
            | exact absurd (show nI 16 ≤ nI k by assumption) (show ¬ nI 16 ≤ nI k by assumption)
            | exact absurd (nI_le (Nat.le_refl 16) (by decide)) (by assumption)
            | (have hq : sSe (M 67 (14 + 6 * t + 1)) (M 67 (62 + 7 * p + 2)) ((16 - (k + 1)) + 1) k x = (nI k, false) := if_pos (by assumption)
               exact ⟨_, _, rfl, rfl, fst_q hq, Kq.rf, by rw [hq]; exact rfl⟩)
            | exact ⟨_, _, rfl, rfl, rfl, fndR_kq, fndR_fq⟩
        · refine x_iload hm rfl rfl ?_
          refine x_goto hm rfl (t := 86) rfl ?_
          refine x_iret hm rfl rfl (by first | rfl | exact bI_nar | decide) ?_
          first
            | exact absurd (show nI 16 ≤ nI k by assumption) (show ¬ nI 16 ≤ nI k by assumption)
            | exact absurd (nI_le (Nat.le_refl 16) (by decide)) (by assumption)
            | (have hq : sSe (M 67 (14 + 6 * t + 1)) (M 67 (62 + 7 * p + 2)) ((16 - (k + 1)) + 1) k x = (nI k, false) := if_pos (by assumption)
               exact ⟨_, _, rfl, rfl, fst_q hq, Kq.rf, by rw [hq]; exact rfl⟩)
            | exact ⟨_, _, rfl, rfl, rfl, fndR_kq, fndR_fq⟩
      · refine x_iload_n hm rfl rfl ?_
        refine x_aload_n hm rfl rfl ?_
        refine x_iload_n hm rfl rfl ?_
        refine x_iconst hm rfl (v := nI 2) (by decide) ?_
        refine x_callV hm rfl rfl (t141 (by omega) (by omega)) ?_
        refine x_iadd hm rfl ?_
        refine x_bipush hm rfl (v := nI 16) (by decide) ?_
        refine x_irem hm rfl (by decide) ?_
        refine x_istore_n hm rfl rfl ?_
        refine x_iinc hm rfl rfl (v := nI 1) (by decide) rfl ?_
        rw [jI_add]
        refine x_goto hm rfl (t := 33) rfl ?_
        rw [show sSe (M 67 (14 + 6 * t + 1)) (M 67 (62 + 7 * p + 2)) ((16 - (k + 1)) + 1) k x = sSe (M 67 (14 + 6 * t + 1)) (M 67 (62 + 7 * p + 2)) (16 - (k + 1)) (k + 1) (rem16 (x + M 67 (62 + 7 * p + 2))) from if_neg (by assumption)]
        exact ih _ _ (by omega) (by omega)
end EH
