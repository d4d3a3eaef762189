section EP
variable {X : mSc} {Q : Option Value → mHp → Prop} {M : mM}
theorem m213 {s p t S : Nat} {M0 : mM} (hN : S < 1024) (hK : Kr M0 M) : ∀ (n k : Nat), 11 - k < n → k ≤ 10 → sLk S 10 0 = sLk S (10 - k) k → mEv X (QI (fun v M' => v = (sLk S 10 0).1 ∧ Kq M0 M' ∧ Fq (sLk S 10 0) M0 M')) 213 53 [some (.ref 66), some (.int (nI s)), some (.int (nI p)), some (.int (nI t)), some (.int (nI S)), some (.int (nI k))] [] (con M) := by
  have hm : mMet 213 = some _ := rfl
  intro n
  induction n with
  | zero =>
    intro k hkn hkb hq
    omega
  | succ n ih =>
    intro k hkn hkb hq
    refine x_iload hm rfl rfl ?_
    refine x_bipush hm rfl (v := nI 9) (by decide) ?_
    refine x_icmp_gt hm rfl (t := 76) rfl (fun h1 => ?_) (fun h1 => ?_)
    · have hk : k = 10 := Nat.le_antisymm hkb (Nat.lt_of_not_le fun g => absurd h1 (Int32.not_lt.mpr ((jI_le (by omega) (by decide)).mpr g)))
      subst hk
      have hq9 : sLk S 10 0 = (-1000004, true) := hq
      refine x_iload hm rfl rfl ?_
      refine x_bipush hm rfl (v := nI 9) (by decide) ?_
      refine x_icmp_le hm rfl (t := 92) rfl (fun h2 => ?_) (fun h2 => ?_)
      · refine x_iload hm rfl rfl ?_
        refine x_iret hm rfl rfl (by first | rfl | exact bI_nar | decide) ?_
        first
          | exact absurd (show nI 10 ≤ nI 9 by assumption) (by decide)
          | exact absurd ((jI_le (by omega) (by decide)).mpr hk) (by assumption)
          | exact ⟨_, _, rfl, rfl, by rw [hq9], by first | exact hK.kq | exact hK.kq.to fndR_kq, by rw [hq9]; first | exact hK.fq | exact fndR_fq.of (hK.2 70 (by decide) (by decide))⟩
      · refine x_aload_n hm rfl rfl ?_
        refine x_ldcI hm rfl (v := (-1000004 : Int32)) (by decide +kernel) ?_
        refine x_callV hm rfl rfl (e135 (by first | decide | exact lk_fd h1)) ?_
        refine x_goto hm rfl (t := 94) rfl ?_
        refine x_iret hm rfl rfl (by first | rfl | exact bI_nar | decide) ?_
        first
          | exact absurd (show nI 10 ≤ nI 9 by assumption) (by decide)
          | exact absurd ((jI_le (by omega) (by decide)).mpr hk) (by assumption)
          | exact ⟨_, _, rfl, rfl, by rw [hq9], by first | exact hK.kq | exact hK.kq.to fndR_kq, by rw [hq9]; first | exact hK.fq | exact fndR_fq.of (hK.2 70 (by decide) (by decide))⟩
    · have hk : k ≤ 9 := Nat.le_of_not_lt fun h => h1 (nI_lt h (by omega))
      have hq8 := hq.trans (show sLk S (10 - k) k = sLk S (10 - (k + 1) + 1) k by rw [show 10 - k = 10 - (k + 1) + 1 by omega])
      refine x_iload hm rfl rfl ?_
      refine x_iload hm rfl rfl ?_
      refine x_callS hm rfl rfl (g191 hN (by omega)) ?_
      refine x_if_ne hm rfl (t := 76) rfl (fun h3 => ?_) (fun h3 => ?_)
      · have hq9 : sLk S 10 0 = (nI k, false) := hq8.trans (if_pos (bI_ne0 h3))
        refine x_iload hm rfl rfl ?_
        refine x_bipush hm rfl (v := nI 9) (by decide) ?_
        refine x_icmp_le hm rfl (t := 92) rfl (fun h4 => ?_) (fun h4 => ?_)
        · refine x_iload hm rfl rfl ?_
          refine x_iret hm rfl rfl (by first | rfl | exact bI_nar | decide) ?_
          first
            | exact absurd (show nI 10 ≤ nI 9 by assumption) (by decide)
            | exact absurd ((jI_le (by omega) (by decide)).mpr hk) (by assumption)
            | exact ⟨_, _, rfl, rfl, by rw [hq9], by first | exact hK.kq | exact hK.kq.to fndR_kq, by rw [hq9]; first | exact hK.fq | exact fndR_fq.of (hK.2 70 (by decide) (by decide))⟩
        · refine x_aload_n hm rfl rfl ?_
          refine x_ldcI hm rfl (v := (-1000004 : Int32)) (by decide +kernel) ?_
          refine x_callV hm rfl rfl (e135 (by first | decide | exact lk_fd h1)) ?_
          refine x_goto hm rfl (t := 94) rfl ?_
          refine x_iret hm rfl rfl (by first | rfl | exact bI_nar | decide) ?_
          first
            | exact absurd (show nI 10 ≤ nI 9 by assumption) (by decide)
            | exact absurd ((jI_le (by omega) (by decide)).mpr hk) (by assumption)
            | exact ⟨_, _, rfl, rfl, by rw [hq9], by first | exact hK.kq | exact hK.kq.to fndR_kq, by rw [hq9]; first | exact hK.fq | exact fndR_fq.of (hK.2 70 (by decide) (by decide))⟩
      · have hq9 : sLk S 10 0 = sLk S (10 - (k + 1)) (k + 1) := hq8.trans (if_neg (bI_eq0.mp h3))
        refine x_iinc hm rfl rfl (v := nI 1) (by decide) rfl ?_
        rw [jI_add]
        refine x_goto hm rfl (t := 53) rfl ?_
        exact ih _ (by omega) (by omega) hq9
end EP
