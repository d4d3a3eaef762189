/-! ===== the reference: judge ===== -/
section RL
variable {X : mSc} {Q : Option Value → mHp → Prop} {M : mM}
theorem l239 {s nt : Nat} (hI : Inv M) (hs : s ≤ 3) (hnt : M 67 1 = nI nt) (hn8 : nt ≤ 8) : ∀ (n k : Nat) (g : Int32) (x4 : Option Value), 2 * (41 - k) + (if g = nI 0 then 0 else 1) < n → k ≤ 41 → (k = 0 ∨ ∃ u, u < 8 ∧ M 78 (40 * s + k - 1) = nI u) → mEv X (QI (fun _ M' => Iq M M')) 239 22 [some (.ref 66), some (.int (nI s)), some (.int (nI k)), some (.int g), x4] [] (con M) := by
  have hm : mMet 239 = some _ := rfl
  intro n
  induction n with
  | zero =>
    intro k g x4 hkn hkb hinv
    omega
  | succ n ih =>
    intro k g x4 hkn hkb hinv
    obtain ⟨z, hz, hsz⟩ := hI.1.size s
    refine x_iload_n hm rfl rfl ?_
    refine x_aload_n hm rfl rfl ?_
    refine x_getf hm rfl (gR rfl rfl) ?_
    refine x_iload_n hm rfl rfl ?_
    refine x_iald hm rfl (lI rfl (by omega) (by decide)) ?_
    rw [hsz]
    refine x_icmp_ge hm rfl (t := 106) rfl (fun h1 => ?_) (fun h1 => ?_)
    · refine x_iload_n hm rfl rfl ?_
      refine x_if_eq hm rfl (t := 114) rfl (fun h2 => ?_) (fun h2 => ?_)
      · refine x_iconst hm rfl (v := nI 1) (by decide) ?_
        refine x_iload_n hm rfl rfl ?_
        refine x_iadd hm rfl ?_
        refine x_iret hm rfl rfl (by first | rfl | exact bI_nar | decide) ?_
        first
          | exact ⟨_, _, rfl, rfl, Iq.rf hI⟩
          | exact ⟨_, _, rfl, rfl, r1.2.iq hI⟩
          | exact ⟨_, _, rfl, rfl, r2.2.iq hI⟩
          | exact ⟨_, _, rfl, rfl, r3.2.iq hI⟩
          | exact ⟨_, _, rfl, rfl, r4.2.iq hI⟩
          | exact ⟨_, _, rfl, rfl, r5.2.iq hI⟩
          | exact ⟨_, _, rfl, rfl, r6.2.iq hI⟩
          | exact ⟨_, _, rfl, rfl, r7.2.iq hI⟩
          | exact ⟨_, _, rfl, rfl, r8.2.iq hI⟩
          | exact ⟨_, _, rfl, rfl, r9.2.iq hI⟩
          | exact ⟨_, _, rfl, rfl, r10.2.iq hI⟩
          | exact ⟨_, _, rfl, rfl, r11.2.iq hI⟩
          | exact ⟨_, _, rfl, rfl, r12.2.iq hI⟩
          | exact ⟨_, _, rfl, rfl, r13.2.iq hI⟩
          | exact ⟨_, _, rfl, rfl, r14.2.iq hI⟩
          | exact ⟨_, _, rfl, rfl, r15.2.iq hI⟩
          | exact ⟨_, _, rfl, rfl, r16.2.iq hI⟩
          | exact ⟨_, _, rfl, rfl, r17.2.iq hI⟩
          | exact ⟨_, _, rfl, rfl, r18.2.iq hI⟩
          | exact ⟨_, _, rfl, rfl, r19.2.iq hI⟩
      · refine x_iconst hm rfl (v := nI 0) (by decide) ?_
        refine x_goto hm rfl (t := 117) rfl ?_
        refine x_iret hm rfl rfl (by first | rfl | exact bI_nar | decide) ?_
        first
          | exact ⟨_, _, rfl, rfl, Iq.rf hI⟩
          | exact ⟨_, _, rfl, rfl, r1.2.iq hI⟩
          | exact ⟨_, _, rfl, rfl, r2.2.iq hI⟩
          | exact ⟨_, _, rfl, rfl, r3.2.iq hI⟩
          | exact ⟨_, _, rfl, rfl, r4.2.iq hI⟩
          | exact ⟨_, _, rfl, rfl, r5.2.iq hI⟩
          | exact ⟨_, _, rfl, rfl, r6.2.iq hI⟩
          | exact ⟨_, _, rfl, rfl, r7.2.iq hI⟩
          | exact ⟨_, _, rfl, rfl, r8.2.iq hI⟩
          | exact ⟨_, _, rfl, rfl, r9.2.iq hI⟩
          | exact ⟨_, _, rfl, rfl, r10.2.iq hI⟩
          | exact ⟨_, _, rfl, rfl, r11.2.iq hI⟩
          | exact ⟨_, _, rfl, rfl, r12.2.iq hI⟩
          | exact ⟨_, _, rfl, rfl, r13.2.iq hI⟩
          | exact ⟨_, _, rfl, rfl, r14.2.iq hI⟩
          | exact ⟨_, _, rfl, rfl, r15.2.iq hI⟩
          | exact ⟨_, _, rfl, rfl, r16.2.iq hI⟩
          | exact ⟨_, _, rfl, rfl, r17.2.iq hI⟩
          | exact ⟨_, _, rfl, rfl, r18.2.iq hI⟩
          | exact ⟨_, _, rfl, rfl, r19.2.iq hI⟩
    · have hk : k < z := Nat.lt_of_not_le fun h => h1 (nI_le h (by omega))
      refine x_iload_n hm rfl rfl ?_
      refine x_if_eq hm rfl (t := 106) rfl (fun h3 => ?_) (fun h3 => ?_)
      · refine x_iload_n hm rfl rfl ?_
        refine x_if_eq hm rfl (t := 114) rfl (fun h4 => ?_) (fun h4 => ?_)
        · refine x_iconst hm rfl (v := nI 1) (by decide) ?_
          refine x_iload_n hm rfl rfl ?_
          refine x_iadd hm rfl ?_
          refine x_iret hm rfl rfl (by first | rfl | exact bI_nar | decide) ?_
          first
            | exact ⟨_, _, rfl, rfl, Iq.rf hI⟩
            | exact ⟨_, _, rfl, rfl, r1.2.iq hI⟩
            | exact ⟨_, _, rfl, rfl, r2.2.iq hI⟩
            | exact ⟨_, _, rfl, rfl, r3.2.iq hI⟩
            | exact ⟨_, _, rfl, rfl, r4.2.iq hI⟩
            | exact ⟨_, _, rfl, rfl, r5.2.iq hI⟩
            | exact ⟨_, _, rfl, rfl, r6.2.iq hI⟩
            | exact ⟨_, _, rfl, rfl, r7.2.iq hI⟩
            | exact ⟨_, _, rfl, rfl, r8.2.iq hI⟩
            | exact ⟨_, _, rfl, rfl, r9.2.iq hI⟩
            | exact ⟨_, _, rfl, rfl, r10.2.iq hI⟩
            | exact ⟨_, _, rfl, rfl, r11.2.iq hI⟩
            | exact ⟨_, _, rfl, rfl, r12.2.iq hI⟩
            | exact ⟨_, _, rfl, rfl, r13.2.iq hI⟩
            | exact ⟨_, _, rfl, rfl, r14.2.iq hI⟩
            | exact ⟨_, _, rfl, rfl, r15.2.iq hI⟩
            | exact ⟨_, _, rfl, rfl, r16.2.iq hI⟩
            | exact ⟨_, _, rfl, rfl, r17.2.iq hI⟩
            | exact ⟨_, _, rfl, rfl, r18.2.iq hI⟩
            | exact ⟨_, _, rfl, rfl, r19.2.iq hI⟩
        · refine x_iconst hm rfl (v := nI 0) (by decide) ?_
          refine x_goto hm rfl (t := 117) rfl ?_
          refine x_iret hm rfl rfl (by first | rfl | exact bI_nar | decide) ?_
          first
            | exact ⟨_, _, rfl, rfl, Iq.rf hI⟩
            | exact ⟨_, _, rfl, rfl, r1.2.iq hI⟩
            | exact ⟨_, _, rfl, rfl, r2.2.iq hI⟩
            | exact ⟨_, _, rfl, rfl, r3.2.iq hI⟩
            | exact ⟨_, _, rfl, rfl, r4.2.iq hI⟩
            | exact ⟨_, _, rfl, rfl, r5.2.iq hI⟩
            | exact ⟨_, _, rfl, rfl, r6.2.iq hI⟩
            | exact ⟨_, _, rfl, rfl, r7.2.iq hI⟩
            | exact ⟨_, _, rfl, rfl, r8.2.iq hI⟩
            | exact ⟨_, _, rfl, rfl, r9.2.iq hI⟩
            | exact ⟨_, _, rfl, rfl, r10.2.iq hI⟩
            | exact ⟨_, _, rfl, rfl, r11.2.iq hI⟩
            | exact ⟨_, _, rfl, rfl, r12.2.iq hI⟩
            | exact ⟨_, _, rfl, rfl, r13.2.iq hI⟩
            | exact ⟨_, _, rfl, rfl, r14.2.iq hI⟩
            | exact ⟨_, _, rfl, rfl, r15.2.iq hI⟩
            | exact ⟨_, _, rfl, rfl, r16.2.iq hI⟩
            | exact ⟨_, _, rfl, rfl, r17.2.iq hI⟩
            | exact ⟨_, _, rfl, rfl, r18.2.iq hI⟩
            | exact ⟨_, _, rfl, rfl, r19.2.iq hI⟩
      · have hg0 : ¬ g = nI 0 := fun e => h3 (by rw [e]; rfl)
        rw [if_neg hg0] at hkn
        refine x_aload_n hm rfl rfl ?_
        refine x_getf hm rfl (gR rfl rfl) ?_
        refine x_bipush hm rfl (v := nI 40) (by decide) ?_
        refine x_iload_n hm rfl rfl ?_
        refine x_imul hm rfl ?_
        rw [jI_mul]
        refine x_iload_n hm rfl rfl ?_
        refine x_iadd hm rfl ?_
        rw [jI_add]
        refine x_iald hm rfl (lI rfl (by omega) (by decide)) ?_
        refine x_istore hm rfl rfl ?_
        refine x_aload_n hm rfl rfl ?_
        refine x_iload hm rfl rfl ?_
        refine x_callV hm rfl rfl (t139) ?_
        refine x_if_eq hm rfl (t := 89) rfl (fun h5 => ?_) (fun h5 => ?_)
        · refine x_iconst hm rfl (v := nI 0) (by decide) ?_
          refine x_istore_n hm rfl rfl ?_
          refine x_iload_n hm rfl rfl ?_
          refine x_iload_n hm rfl rfl ?_
          refine x_if_eq hm rfl (t := 100) rfl (fun h6 => ?_) (fun h6 => ?_)
          · refine x_iconst hm rfl (v := nI 0) (by decide) ?_
            refine x_iadd hm rfl ?_
            rw [jI_add]
            refine x_istore_n hm rfl rfl ?_
            refine x_goto hm rfl (t := 22) rfl ?_
            first
              | exact absurd (show nI 1 = 0 by assumption) (by decide)
              | exact absurd rfl (show ¬ nI 0 = 0 by assumption)
              | exact ih (k + 1) (nI 1) _ (by rw [if_neg (by decide)]; omega) (by omega) (Or.inr ⟨u, by omega, hv⟩)
              | exact ih (k + 0) (nI 0) _ (by rw [if_pos rfl]; omega) (by omega) hinv
          · refine x_iconst hm rfl (v := nI 1) (by decide) ?_
            refine x_goto hm rfl (t := 101) rfl ?_
            refine x_iadd hm rfl ?_
            rw [jI_add]
            refine x_istore_n hm rfl rfl ?_
            refine x_goto hm rfl (t := 22) rfl ?_
            first
              | exact absurd (show nI 1 = 0 by assumption) (by decide)
              | exact absurd rfl (show ¬ nI 0 = 0 by assumption)
              | exact ih (k + 1) (nI 1) _ (by rw [if_neg (by decide)]; omega) (by omega) (Or.inr ⟨u, by omega, hv⟩)
              | exact ih (k + 0) (nI 0) _ (by rw [if_pos rfl]; omega) (by omega) hinv
        · obtain ⟨u, hu, hv⟩ := in_k hnt (by omega) (bI_ne0 h5)
          refine x_iload_n hm rfl rfl ?_
          refine x_if_eq hm rfl (t := 85) rfl (fun h7 => ?_) (fun h7 => ?_)
          · refine x_iconst hm rfl (v := nI 1) (by decide) ?_
            refine x_goto hm rfl (t := 90) rfl ?_
            refine x_istore_n hm rfl rfl ?_
            refine x_iload_n hm rfl rfl ?_
            refine x_iload_n hm rfl rfl ?_
            refine x_if_eq hm rfl (t := 100) rfl (fun h8 => ?_) (fun h8 => ?_)
            · refine x_iconst hm rfl (v := nI 0) (by decide) ?_
              refine x_iadd hm rfl ?_
              rw [jI_add]
              refine x_istore_n hm rfl rfl ?_
              refine x_goto hm rfl (t := 22) rfl ?_
              first
                | exact absurd (show nI 1 = 0 by assumption) (by decide)
                | exact absurd rfl (show ¬ nI 0 = 0 by assumption)
                | exact ih (k + 1) (nI 1) _ (by rw [if_neg (by decide)]; omega) (by omega) (Or.inr ⟨u, by omega, hv⟩)
                | exact ih (k + 0) (nI 0) _ (by rw [if_pos rfl]; omega) (by omega) hinv
            · refine x_iconst hm rfl (v := nI 1) (by decide) ?_
              refine x_goto hm rfl (t := 101) rfl ?_
              refine x_iadd hm rfl ?_
              rw [jI_add]
              refine x_istore_n hm rfl rfl ?_
              refine x_goto hm rfl (t := 22) rfl ?_
              first
                | exact absurd (show nI 1 = 0 by assumption) (by decide)
                | exact absurd rfl (show ¬ nI 0 = 0 by assumption)
                | exact ih (k + 1) (nI 1) _ (by rw [if_neg (by decide)]; omega) (by omega) (Or.inr ⟨u, by omega, hv⟩)
                | exact ih (k + 0) (nI 0) _ (by rw [if_pos rfl]; omega) (by omega) hinv
          · have hk1 : 1 ≤ k := Nat.pos_of_ne_zero fun e => h7 (by rw [e]; rfl)
            obtain ⟨u2, hu2, hv2⟩ := hinv.resolve_left (by omega)
            refine x_aload_n hm rfl rfl ?_
            refine x_aload_n hm rfl rfl ?_
            refine x_getf hm rfl (gR rfl rfl) ?_
            refine x_bipush hm rfl (v := nI 40) (by decide) ?_
            refine x_iload_n hm rfl rfl ?_
            refine x_imul hm rfl ?_
            rw [jI_mul]
            refine x_iload_n hm rfl rfl ?_
            refine x_iadd hm rfl ?_
            rw [jI_add]
            refine x_iconst hm rfl (v := nI 1) (by decide) ?_
            refine x_isub hm rfl ?_
            rw [sub_k (i := 1) (z := 40 * s + k) (by omega)]
            refine x_iald hm rfl (lI rfl (by omega) (by decide)) ?_
            rw [hv2]
            refine x_iconst hm rfl (v := nI 5) (by decide) ?_
            refine x_callV hm rfl rfl (t143 (by omega) (by omega)) ?_
            refine x_iload hm rfl rfl ?_
            refine x_icmp_ne hm rfl (t := 89) rfl (fun h9 => ?_) (fun h9 => ?_)
            · refine x_iconst hm rfl (v := nI 0) (by decide) ?_
              refine x_istore_n hm rfl rfl ?_
              refine x_iload_n hm rfl rfl ?_
              refine x_iload_n hm rfl rfl ?_
              refine x_if_eq hm rfl (t := 100) rfl (fun h10 => ?_) (fun h10 => ?_)
              · refine x_iconst hm rfl (v := nI 0) (by decide) ?_
                refine x_iadd hm rfl ?_
                rw [jI_add]
                refine x_istore_n hm rfl rfl ?_
                refine x_goto hm rfl (t := 22) rfl ?_
                first
                  | exact absurd (show nI 1 = 0 by assumption) (by decide)
                  | exact absurd rfl (show ¬ nI 0 = 0 by assumption)
                  | exact ih (k + 1) (nI 1) _ (by rw [if_neg (by decide)]; omega) (by omega) (Or.inr ⟨u, by omega, hv⟩)
                  | exact ih (k + 0) (nI 0) _ (by rw [if_pos rfl]; omega) (by omega) hinv
              · refine x_iconst hm rfl (v := nI 1) (by decide) ?_
                refine x_goto hm rfl (t := 101) rfl ?_
                refine x_iadd hm rfl ?_
                rw [jI_add]
                refine x_istore_n hm rfl rfl ?_
                refine x_goto hm rfl (t := 22) rfl ?_
                first
                  | exact absurd (show nI 1 = 0 by assumption) (by decide)
                  | exact absurd rfl (show ¬ nI 0 = 0 by assumption)
                  | exact ih (k + 1) (nI 1) _ (by rw [if_neg (by decide)]; omega) (by omega) (Or.inr ⟨u, by omega, hv⟩)
                  | exact ih (k + 0) (nI 0) _ (by rw [if_pos rfl]; omega) (by omega) hinv
            · refine x_iconst hm rfl (v := nI 1) (by decide) ?_
              refine x_goto hm rfl (t := 90) rfl ?_
              refine x_istore_n hm rfl rfl ?_
              refine x_iload_n hm rfl rfl ?_
              refine x_iload_n hm rfl rfl ?_
              refine x_if_eq hm rfl (t := 100) rfl (fun h11 => ?_) (fun h11 => ?_)
              · refine x_iconst hm rfl (v := nI 0) (by decide) ?_
                refine x_iadd hm rfl ?_
                rw [jI_add]
                refine x_istore_n hm rfl rfl ?_
                refine x_goto hm rfl (t := 22) rfl ?_
                first
                  | exact absurd (show nI 1 = 0 by assumption) (by decide)
                  | exact absurd rfl (show ¬ nI 0 = 0 by assumption)
                  | exact ih (k + 1) (nI 1) _ (by rw [if_neg (by decide)]; omega) (by omega) (Or.inr ⟨u, by omega, hv⟩)
                  | exact ih (k + 0) (nI 0) _ (by rw [if_pos rfl]; omega) (by omega) hinv
              · refine x_iconst hm rfl (v := nI 1) (by decide) ?_
                refine x_goto hm rfl (t := 101) rfl ?_
                refine x_iadd hm rfl ?_
                rw [jI_add]
                refine x_istore_n hm rfl rfl ?_
                refine x_goto hm rfl (t := 22) rfl ?_
                first
                  | exact absurd (show nI 1 = 0 by assumption) (by decide)
                  | exact absurd rfl (show ¬ nI 0 = 0 by assumption)
                  | exact ih (k + 1) (nI 1) _ (by rw [if_neg (by decide)]; omega) (by omega) (Or.inr ⟨u, by omega, hv⟩)
                  | exact ih (k + 0) (nI 0) _ (by rw [if_pos rfl]; omega) (by omega) hinv
theorem t239 {a1 : Int32} (hI : Inv M) : ∃ v M', mT X 239 [.ref 66, .int a1] (con M) (some (.int v)) (con M') ∧ Iq M M' := by
  refine ti_of (row := _) rfl (Nat.le_of_ble_eq_true rfl) ?_
  have hm : mMet 239 = some _ := rfl
  obtain ⟨nt, hn8, hnt⟩ := hI.1.nt
  refine x_aload_n hm rfl rfl ?_
  refine x_iload_n hm rfl rfl ?_
  refine x_callV hm rfl rfl (t209) ?_
  refine x_if_eq hm rfl (t := 18) rfl (fun h1 => ?_) (fun h1 => ?_)
  · obtain ⟨s, hs, rfl⟩ := lk_k h1
    refine x_iconst hm rfl (v := nI 0) (by decide) ?_
    refine x_istore_n hm rfl rfl ?_
    refine x_iconst hm rfl (v := nI 1) (by decide) ?_
    refine x_istore_n hm rfl rfl ?_
    exact l239 hI hs hnt hn8 _ 0 _ _ (Nat.lt_succ_self _) (Nat.zero_le _) (Or.inl rfl)
  · refine x_aload_n hm rfl rfl ?_
    refine x_aload_n hm rfl rfl ?_
    refine x_iload_n hm rfl rfl ?_
    refine x_callV hm rfl rfl (t209) ?_
    refine x_cVi hm rfl rfl (t135 (lk_fd h1)) (fun v2 M2 r2 => ?_)
    refine x_iret hm rfl rfl (by first | rfl | exact bI_nar | decide) ?_
    first
      | exact ⟨_, _, rfl, rfl, r2.2.iq hI⟩
      | exact ⟨_, _, rfl, rfl, Iq.rf hI⟩
      | exact ⟨_, _, rfl, rfl, r1.2.iq hI⟩
      | exact ⟨_, _, rfl, rfl, r3.2.iq hI⟩
      | exact ⟨_, _, rfl, rfl, r4.2.iq hI⟩
      | exact ⟨_, _, rfl, rfl, r5.2.iq hI⟩
      | exact ⟨_, _, rfl, rfl, r6.2.iq hI⟩
      | exact ⟨_, _, rfl, rfl, r7.2.iq hI⟩
      | exact ⟨_, _, rfl, rfl, r8.2.iq hI⟩
      | exact ⟨_, _, rfl, rfl, r9.2.iq hI⟩
      | exact ⟨_, _, rfl, rfl, r10.2.iq hI⟩
      | exact ⟨_, _, rfl, rfl, r11.2.iq hI⟩
      | exact ⟨_, _, rfl, rfl, r12.2.iq hI⟩
      | exact ⟨_, _, rfl, rfl, r13.2.iq hI⟩
      | exact ⟨_, _, rfl, rfl, r14.2.iq hI⟩
      | exact ⟨_, _, rfl, rfl, r15.2.iq hI⟩
      | exact ⟨_, _, rfl, rfl, r16.2.iq hI⟩
      | exact ⟨_, _, rfl, rfl, r17.2.iq hI⟩
      | exact ⟨_, _, rfl, rfl, r18.2.iq hI⟩
      | exact ⟨_, _, rfl, rfl, r19.2.iq hI⟩
end RL
