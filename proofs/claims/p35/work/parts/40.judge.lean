section
/-! ===== the reference: judge ===== -/
section RL
variable {X : mSc} {Q : Option Value → mHp → Prop} {M : mM}
theorem l239 {s nt : Nat} (hI : Inv M) (hs : s ≤ 3) (hnt : M 67 1 = nI nt) (hn8 : nt ≤ 8) : ∀ (n k : Nat) (g : Int32) (x4 : Option Value), 2 * (41 - k) + (if g = nI 0 then 0 else 1) < n → k ≤ 41 → (k = 0 ∨ ∃ u, u < 8 ∧ M 78 (40 * s + k - 1) = nI u) → mEv X (QI (fun _ M' => Iq M M')) 239 22 [some (.ref 66), some (.int (nI s)), some (.int (nI k)), some (.int g), x4] [] (con M) := by
  have hm : mMet 239 = some _ := rfl
  intro n
  induction n with
  | zero =>
    intro k g x4 hkn hkb hinv
    omega
  | succ n ih =>
    intro k g x4 hkn hkb hinv
    obtain ⟨z, hz, hsz⟩ := hI.1.size s
    refine x_iload_n hm rfl rfl ?_
    refine x_aload_n hm rfl rfl ?_
    refine x_getf hm rfl (gR rfl rfl) ?_
    refine x_iload_n hm rfl rfl ?_
    refine x_iald hm rfl (lI rfl (by omega) (by decide)) ?_
    rw [hsz]
    refine x_icmp_ge hm rfl (t := 106) rfl (fun h1 => ?_) (fun h1 => ?_)
    · refine x_iload_n hm rfl rfl ?_
      refine x_if_eq hm rfl (t := 114) rfl (fun h2 => ?_) (fun h2 => ?_)
      · refine x_iconst hm rfl (v := nI 1) (by decide) ?_
        refine x_iload_n hm rfl rfl ?_
        refine x_iadd hm rfl ?_
        refine x_iret hm rfl rfl (by first | rfl | exact bI_nar | decide) ?_
        first
          | exact ⟨_, _, rfl, rfl, Iq.rf hI⟩
          | exact ⟨_, _, rfl, rfl, r1.2.iq hI⟩
          | exact ⟨_, _, rfl, rfl, r2.2.iq hI⟩
          | exact ⟨_, _, rfl, rfl, r3.2.iq hI⟩
          | exact ⟨_, _, rfl, rfl, r4.2.iq hI⟩
          | exact ⟨_, _, rfl, rfl, r5.2.iq hI⟩
          | exact ⟨_, _, rfl, rfl, r6.2.iq hI⟩
          | exact ⟨_, _, rfl, rfl, r7.2.iq hI⟩
          | exact ⟨_, _, rfl, rfl, r8.2.iq hI⟩
          | exact ⟨_, _, rfl, rfl, r9.2.iq hI⟩
          | exact ⟨_, _, rfl, rfl, r10.2.iq hI⟩
          | exact ⟨_, _, rfl, rfl, r11.2.iq hI⟩
          | exact ⟨_, _, rfl, rfl, r12.2.iq hI⟩
          | exact ⟨_, _, rfl, rfl, r13.2.iq hI⟩
          | exact ⟨_, _, rfl, rfl, r14.2.iq hI⟩
          | exact ⟨_, _, rfl, rfl, r15.2.iq hI⟩
          | exact ⟨_, _, rfl, rfl, r16.2.iq hI⟩
          | exact ⟨_, _, rfl, rfl, r17.2.iq hI⟩
          | exact ⟨_, _, rfl, rfl, r18.2.iq hI⟩
          | exact ⟨_, _, rfl, rfl, r19.2.iq hI⟩
      · refine x_iconst hm rfl (v := nI 0) (by decide) ?_
        refine x_goto hm rfl (t := 117) rfl ?_
        refine x_iret hm rfl rfl (by first | rfl | exact bI_nar | decide) ?_
        first
          | exact ⟨_, _, rfl, rfl, Iq.rf hI⟩
          | exact ⟨_, _, rfl, rfl, r1.2.iq hI⟩
          | exact ⟨_, _, rfl, rfl, r2.2.iq hI⟩
          | exact ⟨_, _, rfl, rfl, r3.2.iq hI⟩
          | exact ⟨_, _, rfl, rfl, r4.2.iq hI⟩
          | exact ⟨_, _, rfl, rfl, r5.2.iq hI⟩
          | exact ⟨_, _, rfl, rfl, r6.2.iq hI⟩
          | exact ⟨_, _, rfl, rfl, r7.2.iq hI⟩
          | exact ⟨_, _, rfl, rfl, r8.2.iq hI⟩
          | exact ⟨_, _, rfl, rfl, r9.2.iq hI⟩
          | exact ⟨_, _, rfl, rfl, r10.2.iq hI⟩
          | exact ⟨_, _, rfl, rfl, r11.2.iq hI⟩
          | exact ⟨_, _, rfl, rfl, r12.2.iq hI⟩
          | exact ⟨_, _, rfl, rfl, r13.2.iq hI⟩
          | exact ⟨_, _, rfl, rfl, r14.2.iq hI⟩
          | exact ⟨_, _, rfl, rfl, r15.2.iq hI⟩
          | exact ⟨_, _, rfl, rfl, r16.2.iq hI⟩
          | exact ⟨_, _, rfl, rfl, r17.2.iq hI⟩
          | exact ⟨_, _, rfl, rfl, r18.2.iq hI⟩
          | exact ⟨_, _, rfl, rfl, r19.2.iq hI⟩
    · have hk : k < z := Nat.lt_of_not_le fun h => h1 (nI_le h (by omega))
      refine x_iload_n hm rfl rfl ?_
      refine x_if_eq hm rfl (t := 106) rfl (fun h3 => ?_) (fun h3 => ?_)
      · refine x_iload_n hm rfl rfl ?_
        refine x_if_eq hm rfl (t := 114) rfl (fun h4 => ?_) (fun h4 => ?_)
        · refine x_iconst hm rfl (v := nI 1) (by decide) ?_
          refine x_iload_n hm rfl rfl ?_
          refine x_iadd hm rfl ?_
          refine x_iret hm rfl rfl (by first | rfl | exact bI_nar | decide) ?_
          first
            | exact ⟨_, _, rfl, rfl, Iq.rf hI⟩
            | exact ⟨_, _, rfl, rfl, r1.2.iq hI⟩
            | exact ⟨_, _, rfl, rfl, r2.2.iq hI⟩
            | exact ⟨_, _, rfl, rfl, r3.2.iq hI⟩
            | exact ⟨_, _, rfl, rfl, r4.2.iq hI⟩
            | exact ⟨_, _, rfl, rfl, r5.2.iq hI⟩
            | exact ⟨_, _, rfl, rfl, r6.2.iq hI⟩
            | exact ⟨_, _, rfl, rfl, r7.2.iq hI⟩
            | exact ⟨_, _, rfl, rfl, r8.2.iq hI⟩
            | exact ⟨_, _, rfl, rfl, r9.2.iq hI⟩
            | exact ⟨_, _, rfl, rfl, r10.2.iq hI⟩
            | exact ⟨_, _, rfl, rfl, r11.2.iq hI⟩
            | exact ⟨_, _, rfl, rfl, r12.2.iq hI⟩
            | exact ⟨_, _, rfl, rfl, r13.2.iq hI⟩
            | exact ⟨_, _, rfl, rfl, r14.2.iq hI⟩
            | exact ⟨_, _, rfl, rfl, r15.2.iq hI⟩
            | exact ⟨_, _, rfl, rfl, r16.2.iq hI⟩
            | exact ⟨_, _, rfl, rfl, r17.2.iq hI⟩
            | exact ⟨_, _, rfl, rfl, r18.2.iq hI⟩
            | exact ⟨_, _, rfl, rfl, r19.2.iq hI⟩
        · refine x_iconst hm rfl (v := nI 0) (by decide) ?_
          refine x_goto hm rfl (t := 117) rfl ?_
          refine x_iret hm rfl rfl (by first | rfl | exact bI_nar | decide) ?_
          first
            | exact ⟨_, _, rfl, rfl, Iq.rf hI⟩
            | exact ⟨_, _, rfl, rfl, r1.2.iq hI⟩
            | exact ⟨_, _, rfl, rfl, r2.2.iq hI⟩
            | exact ⟨_, _, rfl, rfl, r3.2.iq hI⟩
            | exact ⟨_, _, rfl, rfl, r4.2.iq hI⟩
            | exact ⟨_, _, rfl, rfl, r5.2.iq hI⟩
            | exact ⟨_, _, rfl, rfl, r6.2.iq hI⟩
            | exact ⟨_, _, rfl, rfl, r7.2.iq hI⟩
            | exact ⟨_, _, rfl, rfl, r8.2.iq hI⟩
            | exact ⟨_, _, rfl, rfl, r9.2.iq hI⟩
            | exact ⟨_, _, rfl, rfl, r10.2.iq hI⟩
            | exact ⟨_, _, rfl, rfl, r11.2.iq hI⟩
            | exact ⟨_, _, rfl, rfl, r12.2.iq hI⟩
            | exact ⟨_, _, rfl, rfl, r13.2.iq hI⟩
            | exact ⟨_, _, rfl, rfl, r14.2.iq hI⟩
            | exact ⟨_, _, rfl, rfl, r15.2.iq hI⟩
            | exact ⟨_, _, rfl, rfl, r16.2.iq hI⟩
            | exact ⟨_, _, rfl, rfl, r17.2.iq hI⟩
            | exact ⟨_, _, rfl, rfl, r18.2.iq hI⟩
            | exact ⟨_, _, rfl, rfl, r19.2.iq hI⟩
      · have hg0 : ¬ g = nI 0 := fun e => h3 (by rw [e]; rfl)
        rw [if_neg hg0] at hkn
        refine x_aload_n hm rfl rfl ?_
        refine x_getf hm rfl (gR rfl rfl) ?_
        refine x_bipush hm rfl (v := nI 40) (by decide) ?_
        refine x_iload_n hm rfl rfl ?_
        refine x_imul hm rfl ?_
        rw [jI_mul]
        refine x_iload_n hm rfl rfl ?_
        refine x_iadd hm rfl ?_
        rw [jI_add]
        refine x_iald hm rfl (lI rfl (by omega) (by decide)) ?_
        refine x_istore hm rfl rfl ?_
        refine x_aload_n hm rfl rfl ?_
        refine x_iload hm rfl rfl ?_
        refine x_callV hm rfl rfl (t139) ?_
        refine x_if_eq hm rfl (t := 89) rfl (fun h5 => ?_) (fun h5 => ?_)
        · refine x_iconst hm rfl (v := nI 0) (by decide) ?_
          refine x_istore_n hm rfl rfl ?_
          refine x_iload_n hm rfl rfl ?_
          refine x_iload_n hm rfl rfl ?_
          refine x_if_eq hm rfl (t := 100) rfl (fun h6 => ?_) (fun h6 => ?_)
          · refine x_iconst hm rfl (v := nI 0) (by decide) ?_
            refine x_iadd hm rfl ?_
            rw [jI_add]
            refine x_istore_n hm rfl rfl ?_
            refine x_goto hm rfl (t := 22) rfl ?_
            first
              | exact absurd (show nI 1 = 0 by assumption) (by decide)
              | exact absurd rfl (show ¬ nI 0 = 0 by assumption)
              | exact ih (k + 1) (nI 1) _ (by rw [if_neg (by decide)]; omega) (by omega) (Or.inr ⟨u, by omega, hv⟩)
              | exact ih (k + 0) (nI 0) _ (by rw [if_pos rfl]; omega) (by omega) hinv
          · refine x_iconst hm rfl (v := nI 1) (by decide) ?_
            refine x_goto hm rfl (t := 101) rfl ?_
            refine x_iadd hm rfl ?_
            rw [jI_add]
            refine x_istore_n hm rfl rfl ?_
            refine x_goto hm rfl (t := 22) rfl ?_
            first
              | exact absurd (show nI 1 = 0 by assumption) (by decide)
              | exact absurd rfl (show ¬ nI 0 = 0 by assumption)
              | exact ih (k + 1) (nI 1) _ (by rw [if_neg (by decide)]; omega) (by omega) (Or.inr ⟨u, by omega, hv⟩)
              | exact ih (k + 0) (nI 0) _ (by rw [if_pos rfl]; omega) (by omega) hinv
        · obtain ⟨u, hu, hv⟩ := in_k hnt (by omega) (bI_ne0 h5)
          refine x_iload_n hm rfl rfl ?_
          refine x_if_eq hm rfl (t := 85) rfl (fun h7 => ?_) (fun h7 => ?_)
          · refine x_iconst hm rfl (v := nI 1) (by decide) ?_
            refine x_goto hm rfl (t := 90) rfl ?_
            refine x_istore_n hm rfl rfl ?_
            refine x_iload_n hm rfl rfl ?_
            refine x_iload_n hm rfl rfl ?_
            refine x_if_eq hm rfl (t := 100) rfl (fun h8 => ?_) (fun h8 => ?_)
            · refine x_iconst hm rfl (v := nI 0) (by decide) ?_
              refine x_iadd hm rfl ?_
              rw [jI_add]
              refine x_istore_n hm rfl rfl ?_
              refine x_goto hm rfl (t := 22) rfl ?_
              first
                | exact absurd (show nI 1 = 0 by assumption) (by decide)
                | exact absurd rfl (show ¬ nI 0 = 0 by assumption)
                | exact ih (k + 1) (nI 1) _ (by rw [if_neg (by decide)]; omega) (by omega) (Or.inr ⟨u, by omega, hv⟩)
                | exact ih (k + 0) (nI 0) _ (by rw [if_pos rfl]; omega) (by omega) hinv
            · refine x_iconst hm rfl (v := nI 1) (by decide) ?_
              refine x_goto hm rfl (t := 101) rfl ?_
              refine x_iadd hm rfl ?_
              rw [jI_add]
              refine x_istore_n hm rfl rfl ?_
              refine x_goto hm rfl (t := 22) rfl ?_
              first
                | exact absurd (show nI 1 = 0 by assumption) (by decide)
                | exact absurd rfl (show ¬ nI 0 = 0 by assumption)
                | exact ih (k + 1) (nI 1) _ (by rw [if_neg (by decide)]; omega) (by omega) (Or.inr ⟨u, by omega, hv⟩)
                | exact ih (k + 0) (nI 0) _ (by rw [if_pos rfl]; omega) (by omega) hinv
          · have hk1 : 1 ≤ k := Nat.pos_of_ne_zero fun e => h7 (by rw [e]; rfl)
            obtain ⟨u2, hu2, hv2⟩ := hinv.resolve_left (by omega)
            refine x_aload_n hm rfl rfl ?_
            refine x_aload_n hm rfl rfl ?_
            refine x_getf hm rfl (gR rfl rfl) ?_
            refine x_bipush hm rfl (v := nI 40) (by decide) ?_
            refine x_iload_n hm rfl rfl ?_
            refine x_imul hm rfl ?_
            rw [jI_mul]
            refine x_iload_n hm rfl rfl ?_
            refine x_iadd hm rfl ?_
            rw [jI_add]
            refine x_iconst hm rfl (v := nI 1) (by decide) ?_
            refine x_isub hm rfl ?_
            rw [sub_k (i := 1) (z := 40 * s + k) (by omega)]
            refine x_iald hm rfl (lI rfl (by omega) (by decide)) ?_
            rw [hv2]
            refine x_iconst hm rfl (v := nI 5) (by decide) ?_
            refine x_callV hm rfl rfl (t143 (by omega) (by omega)) ?_
            refine x_iload hm rfl rfl ?_
            refine x_icmp_ne hm rfl (t := 89) rfl (fun h9 => ?_) (fun h9 => ?_)
            · refine x_iconst hm rfl (v := nI 0) (by decide) ?_
              refine x_istore_n hm rfl rfl ?_
              refine x_iload_n hm rfl rfl ?_
              refine x_iload_n hm rfl rfl ?_
              refine x_if_eq hm rfl (t := 100) rfl (fun h10 => ?_) (fun h10 => ?_)
              · refine x_iconst hm rfl (v := nI 0) (by decide) ?_
                refine x_iadd hm rfl ?_
                rw [jI_add]
                refine x_istore_n hm rfl rfl ?_
                refine x_goto hm rfl (t := 22) rfl ?_
                first
                  | exact absurd (show nI 1 = 0 by assumption) (by decide)
                  | exact absurd rfl (show ¬ nI 0 = 0 by assumption)
                  | exact ih (k + 1) (nI 1) _ (by rw [if_neg (by decide)]; omega) (by omega) (Or.inr ⟨u, by omega, hv⟩)
                  | exact ih (k + 0) (nI 0) _ (by rw [if_pos rfl]; omega) (by omega) hinv
              · refine x_iconst hm rfl (v := nI 1) (by decide) ?_
                refine x_goto hm rfl (t := 101) rfl ?_
                refine x_iadd hm rfl ?_
                rw [jI_add]
                refine x_istore_n hm rfl rfl ?_
                refine x_goto hm rfl (t := 22) rfl ?_
                first
                  | exact absurd (show nI 1 = 0 by assumption) (by decide)
                  | exact absurd rfl (show ¬ nI 0 = 0 by assumption)
                  | exact ih (k + 1) (nI 1) _ (by rw [if_neg (by decide)]; omega) (by omega) (Or.inr ⟨u, by omega, hv⟩)
                  | exact ih (k + 0) (nI 0) _ (by rw [if_pos rfl]; omega) (by omega) hinv
            · refine x_iconst hm rfl (v := nI 1) (by decide) ?_
              refine x_goto hm rfl (t := 90) rfl ?_
              refine x_istore_n hm rfl rfl ?_
              refine x_iload_n hm rfl rfl ?_
              refine x_iload_n hm rfl rfl ?_
              refine x_if_eq hm rfl (t := 100) rfl (fun h11 => ?_) (fun h11 => ?_)
              · refine x_iconst hm rfl (v := nI 0) (by decide) ?_
                refine x_iadd hm rfl ?_
                rw [jI_add]
                refine x_istore_n hm rfl rfl ?_
                refine x_goto hm rfl (t := 22) rfl ?_
                first
                  | exact absurd (show nI 1 = 0 by assumption) (by decide)
                  | exact absurd rfl (show ¬ nI 0 = 0 by assumption)
                  | exact ih (k + 1) (nI 1) _ (by rw [if_neg (by decide)]; omega) (by omega) (Or.inr ⟨u, by omega, hv⟩)
                  | exact ih (k + 0) (nI 0) _ (by rw [if_pos rfl]; omega) (by omega) hinv
              · refine x_iconst hm rfl (v := nI 1) (by decide) ?_
                refine x_goto hm rfl (t := 101) rfl ?_
                refine x_iadd hm rfl ?_
                rw [jI_add]
                refine x_istore_n hm rfl rfl ?_
                refine x_goto hm rfl (t := 22) rfl ?_
                first
                  | exact absurd (show nI 1 = 0 by assumption) (by decide)
                  | exact absurd rfl (show ¬ nI 0 = 0 by assumption)
                  | exact ih (k + 1) (nI 1) _ (by rw [if_neg (by decide)]; omega) (by omega) (Or.inr ⟨u, by omega, hv⟩)
                  | exact ih (k + 0) (nI 0) _ (by rw [if_pos rfl]; omega) (by omega) hinv
theorem t239 {a1 : Int32} (hI : Inv M) : ∃ v M', mT X 239 [.ref 66, .int a1] (con M) (some (.int v)) (con M') ∧ Iq M M' := by
  refine ti_of (row := _) rfl (Nat.le_of_ble_eq_true rfl) ?_
  have hm : mMet 239 = some _ := rfl
  obtain ⟨nt, hn8, hnt⟩ := hI.1.nt
  refine x_aload_n hm rfl rfl ?_
  refine x_iload_n hm rfl rfl ?_
  refine x_callV hm rfl rfl (t209) ?_
  refine x_if_eq hm rfl (t := 18) rfl (fun h1 => ?_) (fun h1 => ?_)
  · obtain ⟨s, hs, rfl⟩ := lk_k h1
    refine x_iconst hm rfl (v := nI 0) (by decide) ?_
    refine x_istore_n hm rfl rfl ?_
    refine x_iconst hm rfl (v := nI 1) (by decide) ?_
    refine x_istore_n hm rfl rfl ?_
    exact l239 hI hs hnt hn8 _ 0 _ _ (Nat.lt_succ_self _) (Nat.zero_le _) (Or.inl rfl)
  · refine x_aload_n hm rfl rfl ?_
    refine x_aload_n hm rfl rfl ?_
    refine x_iload_n hm rfl rfl ?_
    refine x_callV hm rfl rfl (t209) ?_
    refine x_cVi hm rfl rfl (t135 (lk_fd h1)) (fun v2 M2 r2 => ?_)
    refine x_iret hm rfl rfl (by first | rfl | exact bI_nar | decide) ?_
    first
      | exact ⟨_, _, rfl, rfl, r2.2.iq hI⟩
      | exact ⟨_, _, rfl, rfl, Iq.rf hI⟩
      | exact ⟨_, _, rfl, rfl, r1.2.iq hI⟩
      | exact ⟨_, _, rfl, rfl, r3.2.iq hI⟩
      | exact ⟨_, _, rfl, rfl, r4.2.iq hI⟩
      | exact ⟨_, _, rfl, rfl, r5.2.iq hI⟩
      | exact ⟨_, _, rfl, rfl, r6.2.iq hI⟩
      | exact ⟨_, _, rfl, rfl, r7.2.iq hI⟩
      | exact ⟨_, _, rfl, rfl, r8.2.iq hI⟩
      | exact ⟨_, _, rfl, rfl, r9.2.iq hI⟩
      | exact ⟨_, _, rfl, rfl, r10.2.iq hI⟩
      | exact ⟨_, _, rfl, rfl, r11.2.iq hI⟩
      | exact ⟨_, _, rfl, rfl, r12.2.iq hI⟩
      | exact ⟨_, _, rfl, rfl, r13.2.iq hI⟩
      | exact ⟨_, _, rfl, rfl, r14.2.iq hI⟩
      | exact ⟨_, _, rfl, rfl, r15.2.iq hI⟩
      | exact ⟨_, _, rfl, rfl, r16.2.iq hI⟩
      | exact ⟨_, _, rfl, rfl, r17.2.iq hI⟩
      | exact ⟨_, _, rfl, rfl, r18.2.iq hI⟩
      | exact ⟨_, _, rfl, rfl, r19.2.iq hI⟩
end RL
end
section
/-! ===== the reference: the tape read token by token ===== -/
section RM
variable {X : mSc} {Q : Option Value → mHp → Prop} {M : mM}
/-- only the reader's four numbers changed -/
def Lx (M M' : mM) : Prop := ∀ a x, (a ≠ 66 ∨ x < 10 ∨ 13 < x) → M' a x = M a x
theorem Lx.rf : Lx M M := fun _ _ _ => rfl
theorem Lx.trans {M1 M2 : mM} (h : Lx M M1) (g : Lx M1 M2) : Lx M M2 := fun a x hx => (g a x hx).trans (h a x hx)
theorem Lx.put {x : Nat} {v : Int32} (h1 : 10 ≤ x) (h2 : x ≤ 13) : Lx M (mput M 66 x v) := fun a y h => by
  unfold mput
  rw [if_neg]
  rintro ⟨e1, e2⟩
  omega
def by8 (M : mM) (c k : Nat) : Int32 := if k < c then M 73 k else -1
theorem by8_lt {c k : Nat} {lo : Nat} (h : nI lo ≤ by8 M c k) (hl : lo ≤ 1000) : k < c := by
  unfold by8 at h
  by_cases hk : k < c
  · exact hk
  · rw [if_neg hk, Int32.le_iff_toInt_le, jI_int (by omega)] at h
    have e : (-1 : Int32).toInt = -1 := by decide +kernel
    omega
theorem mpf {a b j : Nat} {v : Int32} (h : j ≠ b) : mput M a b v a j = M a j := by
  unfold mput
  rw [if_neg fun e => h e.2]
theorem t222 {c k : Nat} (hc : M 66 9 = nI c) (hc1 : c ≤ 120) (hk : k < 1000) : mT X 222 [.ref 66, .int (nI k)] (con M) (some (.int (by8 M c k))) (con M) := by
  refine mT.of (row := _) rfl (Nat.le_of_ble_eq_true rfl) ?_
  have hm : mMet 222 = some _ := rfl
  refine x_iload_n hm rfl rfl ?_
  refine x_aload_n hm rfl rfl ?_
  refine x_getf hm rfl (gI rfl rfl) ?_
  rw [hc]
  refine x_icmp_ge hm rfl (t := 17) rfl (fun h1 => ?_) (fun h1 => ?_)
  · refine x_iconst hm rfl (v := (-1 : Int32)) (by decide) ?_
    refine x_iret hm rfl rfl (by first | rfl | exact bI_nar | decide) ?_
    exact qt (congrArg Value.int (by unfold by8; first | rw [if_pos hlt] | rw [if_neg (fun q => nI_ge q (by omega) h1)]))
  · have hlt : k < c := Nat.lt_of_not_le fun h => h1 (nI_le h (by omega))
    refine x_aload_n hm rfl rfl ?_
    refine x_getf hm rfl (gR rfl rfl) ?_
    refine x_iload_n hm rfl rfl ?_
    refine x_iald hm rfl (lI rfl (by omega) (by decide)) ?_
    refine x_goto hm rfl (t := 18) rfl ?_
    refine x_iret hm rfl rfl (by first | rfl | exact bI_nar | decide) ?_
    exact qt (congrArg Value.int (by unfold by8; first | rw [if_pos hlt] | rw [if_neg (fun q => nI_ge q (by omega) h1)]))
theorem l221w {c e0 : Nat} (hc9 : M 66 9 = nI c) (hc1 : c ≤ 120) {b : Nat} {v : Int32} (he0 : e0 ≤ b) : ∀ (n e : Nat) (M1 : mM), c - e < n → b ≤ e → e ≤ c → M1 66 10 = nI b → M1 66 11 = nI e → M1 66 12 = nI 1 → Lx M M1 → (b < e ∨ (e = b ∧ nI 97 ≤ by8 M c b ∧ by8 M c b ≤ nI 122)) → mEv X (QV (fun M' => ∃ b e, M' 66 10 = nI b ∧ M' 66 11 = nI e ∧ e0 ≤ b ∧ b ≤ e ∧ e ≤ c ∧ (¬ M' 66 12 = 0 → b < e) ∧ Lx M M')) 221 84 [some (.ref 66), some (.int v)] [] (con M1) := by
  have hm : mMet 221 = some _ := rfl
  intro n
  induction n with
  | zero =>
    intro e M1 hen hbe hec h10 h11 h12 hL hne
    omega
  | succ n ih =>
    intro e M1 hen hbe hec h10 h11 h12 hL hne
    have h9 : M1 66 9 = nI c := (hL 66 9 (by omega)).trans hc9
    have e8 : ∀ k, by8 M1 c k = by8 M c k := fun k => by
      unfold by8
      rw [hL 73 k (by omega)]
    refine x_aload_n hm rfl rfl ?_
    refine x_aload_n hm rfl rfl ?_
    refine x_getf hm rfl (gI rfl rfl) ?_
    rw [h11]
    refine x_callV hm rfl rfl (t222 h9 hc1 (by omega)) ?_
    refine x_bipush hm rfl (v := nI 97) (by decide) ?_
    refine x_bipush hm rfl (v := nI 122) (by decide) ?_
    refine x_callS hm rfl rfl (t133) ?_
    refine x_if_eq hm rfl (t := 206) rfl (fun h1 => ?_) (fun h1 => ?_)
    · refine x_ret hm rfl rfl ?_
      exact ⟨_, rfl, rfl, b, e, h10, h11, he0, hbe, hec, fun _ => hne.resolve_right (fun ⟨q1, q2⟩ => by subst q1; exact bI_eq0.mp h1 (by rw [e8]; exact q2)), hL⟩
    · have hlt : e < c := by8_lt (bI_ne0 h1).1 (by decide)
      refine x_aload_n hm rfl rfl ?_
      refine x_dup hm rfl rfl ?_
      refine x_getf hm rfl (gI rfl rfl) ?_
      rw [h11]
      refine x_iconst hm rfl (v := nI 1) (by decide) ?_
      refine x_iadd hm rfl ?_
      rw [jI_add]
      refine x_putf hm rfl (pI rfl rfl (by decide) (by first | exact mFit_int | rfl | decide) rfl) ?_
      refine x_goto hm rfl (t := 84) rfl ?_
      exact ih (e + 1) _ (by omega) (by omega) (by omega) (by rw [mpf (by decide)]; exact h10) mp0 (by rw [mpf (by decide)]; exact h12) (hL.trans (Lx.put (by decide) (by decide))) (Or.inl (by omega))
theorem l221n {c e0 : Nat} (hc9 : M 66 9 = nI c) (hc1 : c ≤ 120) {b : Nat} {v : Int32} (he0 : e0 ≤ b) : ∀ (n e : Nat) (M1 : mM), c - e < n → b ≤ e → e ≤ c → M1 66 10 = nI b → M1 66 11 = nI e → M1 66 12 = nI 2 → Lx M M1 → (b < e ∨ (e = b ∧ nI 48 ≤ by8 M c b ∧ by8 M c b ≤ nI 57)) → mEv X (QV (fun M' => ∃ b e, M' 66 10 = nI b ∧ M' 66 11 = nI e ∧ e0 ≤ b ∧ b ≤ e ∧ e ≤ c ∧ (¬ M' 66 12 = 0 → b < e) ∧ Lx M M')) 221 131 [some (.ref 66), some (.int v)] [] (con M1) := by
  have hm : mMet 221 = some _ := rfl
  intro n
  induction n with
  | zero =>
    intro e M1 hen hbe hec h10 h11 h12 hL hne
    omega
  | succ n ih =>
    intro e M1 hen hbe hec h10 h11 h12 hL hne
    have h9 : M1 66 9 = nI c := (hL 66 9 (by omega)).trans hc9
    have e8 : ∀ k, by8 M1 c k = by8 M c k := fun k => by
      unfold by8
      rw [hL 73 k (by omega)]
    refine x_aload_n hm rfl rfl ?_
    refine x_aload_n hm rfl rfl ?_
    refine x_getf hm rfl (gI rfl rfl) ?_
    rw [h11]
    refine x_callV hm rfl rfl (t222 h9 hc1 (by omega)) ?_
    refine x_bipush hm rfl (v := nI 48) (by decide) ?_
    refine x_bipush hm rfl (v := nI 57) (by decide) ?_
    refine x_callS hm rfl rfl (t133) ?_
    refine x_if_eq hm rfl (t := 206) rfl (fun h1 => ?_) (fun h1 => ?_)
    · refine x_ret hm rfl rfl ?_
      exact ⟨_, rfl, rfl, b, e, h10, h11, he0, hbe, hec, fun _ => hne.resolve_right (fun ⟨q1, q2⟩ => by subst q1; exact bI_eq0.mp h1 (by rw [e8]; exact q2)), hL⟩
    · have hlt : e < c := by8_lt (bI_ne0 h1).1 (by decide)
      refine x_aload_n hm rfl rfl ?_
      refine x_sipush hm rfl (v := nI 1000) (by decide) ?_
      refine x_bipush hm rfl (v := nI 10) (by decide) ?_
      refine x_aload_n hm rfl rfl ?_
      refine x_getf hm rfl (gI rfl rfl) ?_
      refine x_imul hm rfl ?_
      refine x_aload_n hm rfl rfl ?_
      refine x_aload_n hm rfl rfl ?_
      refine x_getf hm rfl (gI rfl rfl) ?_
      rw [h11]
      refine x_callV hm rfl rfl (t222 h9 hc1 (by omega)) ?_
      refine x_iadd hm rfl ?_
      refine x_bipush hm rfl (v := nI 48) (by decide) ?_
      refine x_isub hm rfl ?_
      refine x_lib hm rfl rfl ?_
      dsimp only
      refine x_putf hm rfl (pI rfl rfl (by decide) (by first | exact mFit_int | rfl | decide) rfl) ?_
      refine x_aload_n hm rfl rfl ?_
      refine x_dup hm rfl rfl ?_
      refine x_getf hm rfl (gI rfl rfl) ?_
      rw [mpf (by decide), h11]
      refine x_iconst hm rfl (v := nI 1) (by decide) ?_
      refine x_iadd hm rfl ?_
      rw [jI_add]
      refine x_putf hm rfl (pI rfl rfl (by decide) (by first | exact mFit_int | rfl | decide) rfl) ?_
      refine x_goto hm rfl (t := 131) rfl ?_
      exact ih (e + 1) _ (by omega) (by omega) (by omega) (by rw [mpf (by decide), mpf (by decide)]; exact h10) mp0 (by rw [mpf (by decide), mpf (by decide)]; exact h12) ((hL.trans (Lx.put (by decide) (by decide))).trans (Lx.put (by decide) (by decide))) (Or.inl (by omega))
theorem l221s {c e0 : Nat} (hc9 : M 66 9 = nI c) (hc1 : c ≤ 120) : ∀ (n b : Nat) (x1 : Option Value) (M1 : mM), c - b < n → e0 ≤ b → b ≤ c → M1 66 10 = nI b → Lx M M1 → mEv X (QV (fun M' => ∃ b e, M' 66 10 = nI b ∧ M' 66 11 = nI e ∧ e0 ≤ b ∧ b ≤ e ∧ e ≤ c ∧ (¬ M' 66 12 = 0 → b < e) ∧ Lx M M')) 221 8 [some (.ref 66), x1] [] (con M1) := by
  have hm : mMet 221 = some _ := rfl
  intro n
  induction n with
  | zero =>
    intro b x1 M1 hbn he0 hbc h10 hL
    omega
  | succ n ih =>
    intro b x1 M1 hbn he0 hbc h10 hL
    have h9 : M1 66 9 = nI c := (hL 66 9 (by omega)).trans hc9
    have e8 : ∀ k, by8 M1 c k = by8 M c k := fun k => by
      unfold by8
      rw [hL 73 k (by omega)]
    refine x_aload_n hm rfl rfl ?_
    refine x_aload_n hm rfl rfl ?_
    refine x_getf hm rfl (gI rfl rfl) ?_
    rw [h10]
    refine x_callV hm rfl rfl (t222 h9 hc1 (by omega)) ?_
    refine x_bipush hm rfl (v := nI 32) (by decide) ?_
    refine x_icmp_ne hm rfl (t := 34) rfl (fun h1 => ?_) (fun h1 => ?_)
    · refine x_aload_n hm rfl rfl ?_
      refine x_aload_n hm rfl rfl ?_
      refine x_getf hm rfl (gI rfl rfl) ?_
      rw [h10]
      refine x_callV hm rfl rfl (t222 h9 hc1 (by omega)) ?_
      refine x_istore_n hm rfl rfl ?_
      refine x_aload_n hm rfl rfl ?_
      refine x_aload_n hm rfl rfl ?_
      refine x_getf hm rfl (gI rfl rfl) ?_
      rw [h10]
      refine x_putf hm rfl (pI rfl rfl (by decide) (by first | exact mFit_int | rfl | decide) rfl) ?_
      refine x_aload_n hm rfl rfl ?_
      refine x_iconst hm rfl (v := nI 0) (by decide) ?_
      refine x_putf hm rfl (pI rfl rfl (by decide) (by first | exact mFit_int | rfl | decide) rfl) ?_
      refine x_iload_n hm rfl rfl ?_
      refine x_if_ge hm rfl (t := 68) rfl (fun h2 => ?_) (fun h2 => ?_)
      · have hv0 : nI 0 ≤ by8 M1 c b := h2
        have hlt : b < c := by8_lt hv0 (by decide)
        refine x_iload_n hm rfl rfl ?_
        refine x_bipush hm rfl (v := nI 97) (by decide) ?_
        refine x_bipush hm rfl (v := nI 122) (by decide) ?_
        refine x_callS hm rfl rfl (t133) ?_
        refine x_if_eq hm rfl (t := 115) rfl (fun h3 => ?_) (fun h3 => ?_)
        · refine x_iload_n hm rfl rfl ?_
          refine x_bipush hm rfl (v := nI 48) (by decide) ?_
          refine x_bipush hm rfl (v := nI 57) (by decide) ?_
          refine x_callS hm rfl rfl (t133) ?_
          refine x_if_eq hm rfl (t := 191) rfl (fun h4 => ?_) (fun h4 => ?_)
          · refine x_aload_n hm rfl rfl ?_
            refine x_iconst hm rfl (v := nI 3) (by decide) ?_
            refine x_putf hm rfl (pI rfl rfl (by decide) (by first | exact mFit_int | rfl | decide) rfl) ?_
            refine x_aload_n hm rfl rfl ?_
            refine x_dup hm rfl rfl ?_
            refine x_getf hm rfl (gI rfl rfl) ?_
            rw [mpf (by decide), mpf (by decide), mp0]
            refine x_iconst hm rfl (v := nI 1) (by decide) ?_
            refine x_iadd hm rfl ?_
            rw [jI_add]
            refine x_putf hm rfl (pI rfl rfl (by decide) (by first | exact mFit_int | rfl | decide) rfl) ?_
            refine x_ret hm rfl rfl ?_
            first
              | exact ⟨_, rfl, rfl, b, b, by rw [mpf (by decide), mpf (by decide), mpf (by decide)]; exact h10, by rw [mpf (by decide), mpf (by decide)]; exact mp0, he0, Nat.le_refl _, hbc, fun q => absurd mp0 q, hL.trans (((Lx.put (M := M1) (x := 11) (v := nI b) (by decide) (by decide)).trans (Lx.put (x := 13) (v := nI 0) (by decide) (by decide))).trans (Lx.put (x := 12) (v := nI 0) (by decide) (by decide)))⟩
              | exact ⟨_, rfl, rfl, b, b + 1, by rw [mpf (by decide), mpf (by decide), mpf (by decide), mpf (by decide)]; exact h10, mp0, he0, Nat.le_succ _, hlt, fun _ => Nat.lt_succ_self _, (hL.trans (((Lx.put (M := M1) (x := 11) (v := nI b) (by decide) (by decide)).trans (Lx.put (x := 13) (v := nI 0) (by decide) (by decide))).trans (Lx.put (x := 12) (v := nI 3) (by decide) (by decide)))).trans (Lx.put (by decide) (by decide))⟩
          · refine x_aload_n hm rfl rfl ?_
            refine x_iconst hm rfl (v := nI 2) (by decide) ?_
            refine x_putf hm rfl (pI rfl rfl (by decide) (by first | exact mFit_int | rfl | decide) rfl) ?_
            exact l221n hc9 hc1 he0 _ b _ (Nat.lt_succ_self _) (Nat.le_refl _) hbc (by rw [mpf (by decide), mpf (by decide), mpf (by decide)]; exact h10) (by rw [mpf (by decide), mpf (by decide)]; exact mp0) mp0 (hL.trans (((Lx.put (M := M1) (x := 11) (v := nI b) (by decide) (by decide)).trans (Lx.put (x := 13) (v := nI 0) (by decide) (by decide))).trans (Lx.put (x := 12) (v := nI 2) (by decide) (by decide)))) (Or.inr ⟨rfl, by rw [← e8]; exact bI_ne0 (by assumption)⟩)
        · refine x_aload_n hm rfl rfl ?_
          refine x_iconst hm rfl (v := nI 1) (by decide) ?_
          refine x_putf hm rfl (pI rfl rfl (by decide) (by first | exact mFit_int | rfl | decide) rfl) ?_
          exact l221w hc9 hc1 he0 _ b _ (Nat.lt_succ_self _) (Nat.le_refl _) hbc (by rw [mpf (by decide), mpf (by decide), mpf (by decide)]; exact h10) (by rw [mpf (by decide), mpf (by decide)]; exact mp0) mp0 (hL.trans (((Lx.put (M := M1) (x := 11) (v := nI b) (by decide) (by decide)).trans (Lx.put (x := 13) (v := nI 0) (by decide) (by decide))).trans (Lx.put (x := 12) (v := nI 1) (by decide) (by decide)))) (Or.inr ⟨rfl, by rw [← e8]; exact bI_ne0 (by assumption)⟩)
      · refine x_aload_n hm rfl rfl ?_
        refine x_iconst hm rfl (v := nI 0) (by decide) ?_
        refine x_putf hm rfl (pI rfl rfl (by decide) (by first | exact mFit_int | rfl | decide) rfl) ?_
        refine x_goto hm rfl (t := 206) rfl ?_
        refine x_ret hm rfl rfl ?_
        first
          | exact ⟨_, rfl, rfl, b, b, by rw [mpf (by decide), mpf (by decide), mpf (by decide)]; exact h10, by rw [mpf (by decide), mpf (by decide)]; exact mp0, he0, Nat.le_refl _, hbc, fun q => absurd mp0 q, hL.trans (((Lx.put (M := M1) (x := 11) (v := nI b) (by decide) (by decide)).trans (Lx.put (x := 13) (v := nI 0) (by decide) (by decide))).trans (Lx.put (x := 12) (v := nI 0) (by decide) (by decide)))⟩
          | exact ⟨_, rfl, rfl, b, b + 1, by rw [mpf (by decide), mpf (by decide), mpf (by decide), mpf (by decide)]; exact h10, mp0, he0, Nat.le_succ _, hlt, fun _ => Nat.lt_succ_self _, (hL.trans (((Lx.put (M := M1) (x := 11) (v := nI b) (by decide) (by decide)).trans (Lx.put (x := 13) (v := nI 0) (by decide) (by decide))).trans (Lx.put (x := 12) (v := nI 3) (by decide) (by decide)))).trans (Lx.put (by decide) (by decide))⟩
    · have hlt : b < c := by8_lt (lo := 32) (by rw [h1]; exact Int32.le_refl _) (by decide)
      refine x_aload_n hm rfl rfl ?_
      refine x_dup hm rfl rfl ?_
      refine x_getf hm rfl (gI rfl rfl) ?_
      rw [h10]
      refine x_iconst hm rfl (v := nI 1) (by decide) ?_
      refine x_iadd hm rfl ?_
      rw [jI_add]
      refine x_putf hm rfl (pI rfl rfl (by decide) (by first | exact mFit_int | rfl | decide) rfl) ?_
      refine x_goto hm rfl (t := 8) rfl ?_
      exact ih (b + 1) _ _ (by omega) (by omega) (by omega) mp0 (hL.trans (Lx.put (by decide) (by decide)))
theorem t221 {c e0 : Nat} (hc9 : M 66 9 = nI c) (hc1 : c ≤ 120) (he : M 66 11 = nI e0) (hec : e0 ≤ c) : ∃ M', mT X 221 [.ref 66] (con M) none (con M') ∧ ∃ b e, M' 66 10 = nI b ∧ M' 66 11 = nI e ∧ e0 ≤ b ∧ b ≤ e ∧ e ≤ c ∧ (¬ M' 66 12 = 0 → b < e) ∧ Lx M M' := by
  refine tv_of (row := _) rfl (Nat.le_of_ble_eq_true rfl) ?_
  have hm : mMet 221 = some _ := rfl
  refine x_aload_n hm rfl rfl ?_
  refine x_aload_n hm rfl rfl ?_
  refine x_getf hm rfl (gI rfl rfl) ?_
  rw [he]
  refine x_putf hm rfl (pI rfl rfl (by decide) (by first | exact mFit_int | rfl | decide) rfl) ?_
  exact l221s hc9 hc1 _ e0 _ _ (Nat.lt_succ_self _) (Nat.le_refl _) hec mp0 (Lx.put (by decide) (by decide))
end RM
end
section
/-! ===== the reference: must, number ===== -/
section RN
variable {X : mSc} {Q : Option Value → mHp → Prop} {M : mM}
/-- where the reading stands: begins, ends, taped -/
def Tx (b e c : Nat) (M : mM) : Prop := M 66 10 = nI b ∧ M 66 11 = nI e ∧ M 66 9 = nI c ∧ b ≤ e ∧ e ≤ c ∧ c ≤ 120 ∧ (¬ M 66 12 = 0 → b < e)
def Ly (M M' : mM) : Prop := ∀ a x, (a ≠ 66 ∨ x < 10 ∨ 14 < x) → M' a x = M a x
theorem Ly.rf : Ly M M := fun _ _ _ => rfl
theorem Ly.trans {M1 M2 : mM} (h : Ly M M1) (g : Ly M1 M2) : Ly M M2 := fun a x hx => (g a x hx).trans (h a x hx)
theorem Lx.ly {M1 : mM} (h : Lx M M1) : Ly M M1 := fun a x hx => h a x (by omega)
theorem Ly.flag {v : Int32} : Ly M (mput M 66 14 v) := fun a y h => by
  unfold mput
  rw [if_neg]
  rintro ⟨e1, e2⟩
  omega
theorem Tx.flag {b e c : Nat} {v : Int32} (h : Tx b e c M) : Tx b e c (mput M 66 14 v) := by
  obtain ⟨h1, h2, h3, h4, h5, h6, h7⟩ := h
  exact ⟨(mpf (by decide)).trans h1, (mpf (by decide)).trans h2, (mpf (by decide)).trans h3, h4, h5, h6, fun q => h7 (by rwa [mpf (by decide)] at q)⟩
theorem t226 {b e c : Nat} {x : Int32} (hT : Tx b e c M) : ∃ M', mT X 226 [.ref 66, .int x] (con M) none (con M') ∧ ∃ b' e', Tx b' e' c M' ∧ Ly M M' ∧ b ≤ b' ∧ (M' 66 14 = 0 → M 66 14 = 0 ∧ ¬ x = 0 ∧ e ≤ b') := by
  refine tv_of (row := _) rfl (Nat.le_of_ble_eq_true rfl) ?_
  have hm : mMet 226 = some _ := rfl
  refine x_aload_n hm rfl rfl ?_
  refine x_aload_n hm rfl rfl ?_
  refine x_getf hm rfl (gI rfl rfl) ?_
  refine x_if_ne hm rfl (t := 12) rfl (fun h1 => ?_) (fun h1 => ?_)
  · refine x_iconst hm rfl (v := nI 1) (by decide) ?_
    refine x_goto hm rfl (t := 17) rfl ?_
    refine x_putf hm rfl (pI rfl rfl (by decide) (by first | exact mFit_int | rfl | decide) rfl) ?_
    refine x_aload_n hm rfl rfl ?_
    refine x_getf hm rfl (gI rfl rfl) ?_
    rw [mp0]
    refine x_if_ne hm rfl (t := 31) rfl (fun h2 => ?_) (fun h2 => ?_)
    · refine x_ret hm rfl rfl ?_
      first
        | exact absurd (by decide : nI 0 = (0 : Int32)) (by assumption)
        | exact ⟨_, rfl, rfl, b, e, hT.flag, Ly.flag, Nat.le_refl _, fun q => absurd (mp0.symm.trans q) (by decide)⟩
        | (obtain ⟨b1, e1, g1, g2, g3, g4, g5, g6, g7⟩ := r2; exact ⟨_, rfl, rfl, b1, e1, ⟨g1, g2, (g7 66 9 (by omega)).trans hT.flag.2.2.1, g4, g5, hT.2.2.2.2.2.1, g6⟩, Ly.flag.trans g7.ly, Nat.le_trans hT.2.2.2.1 g3, fun _ => ⟨by assumption, by assumption, g3⟩⟩)
        | (obtain ⟨b1, e1, g1, g2, g3, g4, g5, g6, g7⟩ := r3; exact ⟨_, rfl, rfl, b1, e1, ⟨g1, g2, (g7 66 9 (by omega)).trans hT.flag.2.2.1, g4, g5, hT.2.2.2.2.2.1, g6⟩, Ly.flag.trans g7.ly, Nat.le_trans hT.2.2.2.1 g3, fun _ => ⟨by assumption, by assumption, g3⟩⟩)
        | (obtain ⟨b1, e1, g1, g2, g3, g4, g5, g6, g7⟩ := r4; exact ⟨_, rfl, rfl, b1, e1, ⟨g1, g2, (g7 66 9 (by omega)).trans hT.flag.2.2.1, g4, g5, hT.2.2.2.2.2.1, g6⟩, Ly.flag.trans g7.ly, Nat.le_trans hT.2.2.2.1 g3, fun _ => ⟨by assumption, by assumption, g3⟩⟩)
        | (obtain ⟨b1, e1, g1, g2, g3, g4, g5, g6, g7⟩ := r5; exact ⟨_, rfl, rfl, b1, e1, ⟨g1, g2, (g7 66 9 (by omega)).trans hT.flag.2.2.1, g4, g5, hT.2.2.2.2.2.1, g6⟩, Ly.flag.trans g7.ly, Nat.le_trans hT.2.2.2.1 g3, fun _ => ⟨by assumption, by assumption, g3⟩⟩)
        | (obtain ⟨b1, e1, g1, g2, g3, g4, g5, g6, g7⟩ := r6; exact ⟨_, rfl, rfl, b1, e1, ⟨g1, g2, (g7 66 9 (by omega)).trans hT.flag.2.2.1, g4, g5, hT.2.2.2.2.2.1, g6⟩, Ly.flag.trans g7.ly, Nat.le_trans hT.2.2.2.1 g3, fun _ => ⟨by assumption, by assumption, g3⟩⟩)
        | (obtain ⟨b1, e1, g1, g2, g3, g4, g5, g6, g7⟩ := r7; exact ⟨_, rfl, rfl, b1, e1, ⟨g1, g2, (g7 66 9 (by omega)).trans hT.flag.2.2.1, g4, g5, hT.2.2.2.2.2.1, g6⟩, Ly.flag.trans g7.ly, Nat.le_trans hT.2.2.2.1 g3, fun _ => ⟨by assumption, by assumption, g3⟩⟩)
        | (obtain ⟨b1, e1, g1, g2, g3, g4, g5, g6, g7⟩ := r8; exact ⟨_, rfl, rfl, b1, e1, ⟨g1, g2, (g7 66 9 (by omega)).trans hT.flag.2.2.1, g4, g5, hT.2.2.2.2.2.1, g6⟩, Ly.flag.trans g7.ly, Nat.le_trans hT.2.2.2.1 g3, fun _ => ⟨by assumption, by assumption, g3⟩⟩)
        | (obtain ⟨b1, e1, g1, g2, g3, g4, g5, g6, g7⟩ := r9; exact ⟨_, rfl, rfl, b1, e1, ⟨g1, g2, (g7 66 9 (by omega)).trans hT.flag.2.2.1, g4, g5, hT.2.2.2.2.2.1, g6⟩, Ly.flag.trans g7.ly, Nat.le_trans hT.2.2.2.1 g3, fun _ => ⟨by assumption, by assumption, g3⟩⟩)
        | (obtain ⟨b1, e1, g1, g2, g3, g4, g5, g6, g7⟩ := r10; exact ⟨_, rfl, rfl, b1, e1, ⟨g1, g2, (g7 66 9 (by omega)).trans hT.flag.2.2.1, g4, g5, hT.2.2.2.2.2.1, g6⟩, Ly.flag.trans g7.ly, Nat.le_trans hT.2.2.2.1 g3, fun _ => ⟨by assumption, by assumption, g3⟩⟩)
        | (obtain ⟨b1, e1, g1, g2, g3, g4, g5, g6, g7⟩ := r11; exact ⟨_, rfl, rfl, b1, e1, ⟨g1, g2, (g7 66 9 (by omega)).trans hT.flag.2.2.1, g4, g5, hT.2.2.2.2.2.1, g6⟩, Ly.flag.trans g7.ly, Nat.le_trans hT.2.2.2.1 g3, fun _ => ⟨by assumption, by assumption, g3⟩⟩)
        | (obtain ⟨b1, e1, g1, g2, g3, g4, g5, g6, g7⟩ := r2; exact ⟨_, rfl, rfl, b1, e1, ⟨g1, g2, (g7 66 9 (by omega)).trans hT.flag.2.2.1, g4, g5, hT.2.2.2.2.2.1, g6⟩, Ly.flag.trans g7.ly, Nat.le_trans hT.2.2.2.1 g3, fun q => absurd (((g7 66 14 (by omega)).trans mp0).symm.trans q) (by decide)⟩)
        | (obtain ⟨b1, e1, g1, g2, g3, g4, g5, g6, g7⟩ := r3; exact ⟨_, rfl, rfl, b1, e1, ⟨g1, g2, (g7 66 9 (by omega)).trans hT.flag.2.2.1, g4, g5, hT.2.2.2.2.2.1, g6⟩, Ly.flag.trans g7.ly, Nat.le_trans hT.2.2.2.1 g3, fun q => absurd (((g7 66 14 (by omega)).trans mp0).symm.trans q) (by decide)⟩)
        | (obtain ⟨b1, e1, g1, g2, g3, g4, g5, g6, g7⟩ := r4; exact ⟨_, rfl, rfl, b1, e1, ⟨g1, g2, (g7 66 9 (by omega)).trans hT.flag.2.2.1, g4, g5, hT.2.2.2.2.2.1, g6⟩, Ly.flag.trans g7.ly, Nat.le_trans hT.2.2.2.1 g3, fun q => absurd (((g7 66 14 (by omega)).trans mp0).symm.trans q) (by decide)⟩)
        | (obtain ⟨b1, e1, g1, g2, g3, g4, g5, g6, g7⟩ := r5; exact ⟨_, rfl, rfl, b1, e1, ⟨g1, g2, (g7 66 9 (by omega)).trans hT.flag.2.2.1, g4, g5, hT.2.2.2.2.2.1, g6⟩, Ly.flag.trans g7.ly, Nat.le_trans hT.2.2.2.1 g3, fun q => absurd (((g7 66 14 (by omega)).trans mp0).symm.trans q) (by decide)⟩)
        | (obtain ⟨b1, e1, g1, g2, g3, g4, g5, g6, g7⟩ := r6; exact ⟨_, rfl, rfl, b1, e1, ⟨g1, g2, (g7 66 9 (by omega)).trans hT.flag.2.2.1, g4, g5, hT.2.2.2.2.2.1, g6⟩, Ly.flag.trans g7.ly, Nat.le_trans hT.2.2.2.1 g3, fun q => absurd (((g7 66 14 (by omega)).trans mp0).symm.trans q) (by decide)⟩)
        | (obtain ⟨b1, e1, g1, g2, g3, g4, g5, g6, g7⟩ := r7; exact ⟨_, rfl, rfl, b1, e1, ⟨g1, g2, (g7 66 9 (by omega)).trans hT.flag.2.2.1, g4, g5, hT.2.2.2.2.2.1, g6⟩, Ly.flag.trans g7.ly, Nat.le_trans hT.2.2.2.1 g3, fun q => absurd (((g7 66 14 (by omega)).trans mp0).symm.trans q) (by decide)⟩)
        | (obtain ⟨b1, e1, g1, g2, g3, g4, g5, g6, g7⟩ := r8; exact ⟨_, rfl, rfl, b1, e1, ⟨g1, g2, (g7 66 9 (by omega)).trans hT.flag.2.2.1, g4, g5, hT.2.2.2.2.2.1, g6⟩, Ly.flag.trans g7.ly, Nat.le_trans hT.2.2.2.1 g3, fun q => absurd (((g7 66 14 (by omega)).trans mp0).symm.trans q) (by decide)⟩)
        | (obtain ⟨b1, e1, g1, g2, g3, g4, g5, g6, g7⟩ := r9; exact ⟨_, rfl, rfl, b1, e1, ⟨g1, g2, (g7 66 9 (by omega)).trans hT.flag.2.2.1, g4, g5, hT.2.2.2.2.2.1, g6⟩, Ly.flag.trans g7.ly, Nat.le_trans hT.2.2.2.1 g3, fun q => absurd (((g7 66 14 (by omega)).trans mp0).symm.trans q) (by decide)⟩)
        | (obtain ⟨b1, e1, g1, g2, g3, g4, g5, g6, g7⟩ := r10; exact ⟨_, rfl, rfl, b1, e1, ⟨g1, g2, (g7 66 9 (by omega)).trans hT.flag.2.2.1, g4, g5, hT.2.2.2.2.2.1, g6⟩, Ly.flag.trans g7.ly, Nat.le_trans hT.2.2.2.1 g3, fun q => absurd (((g7 66 14 (by omega)).trans mp0).symm.trans q) (by decide)⟩)
        | (obtain ⟨b1, e1, g1, g2, g3, g4, g5, g6, g7⟩ := r11; exact ⟨_, rfl, rfl, b1, e1, ⟨g1, g2, (g7 66 9 (by omega)).trans hT.flag.2.2.1, g4, g5, hT.2.2.2.2.2.1, g6⟩, Ly.flag.trans g7.ly, Nat.le_trans hT.2.2.2.1 g3, fun q => absurd (((g7 66 14 (by omega)).trans mp0).symm.trans q) (by decide)⟩)
    · refine x_aload_n hm rfl rfl ?_
      refine x_cVv hm rfl rfl (t221 hT.flag.2.2.1 hT.2.2.2.2.2.1 hT.flag.2.1 hT.2.2.2.2.1) (fun M3 r3 => ?_)
      refine x_ret hm rfl rfl ?_
      first
        | (obtain ⟨b1, e1, g1, g2, g3, g4, g5, g6, g7⟩ := r3; exact ⟨_, rfl, rfl, b1, e1, ⟨g1, g2, (g7 66 9 (by omega)).trans hT.flag.2.2.1, g4, g5, hT.2.2.2.2.2.1, g6⟩, Ly.flag.trans g7.ly, Nat.le_trans hT.2.2.2.1 g3, fun _ => ⟨by assumption, by assumption, g3⟩⟩)
        | (obtain ⟨b1, e1, g1, g2, g3, g4, g5, g6, g7⟩ := r3; exact ⟨_, rfl, rfl, b1, e1, ⟨g1, g2, (g7 66 9 (by omega)).trans hT.flag.2.2.1, g4, g5, hT.2.2.2.2.2.1, g6⟩, Ly.flag.trans g7.ly, Nat.le_trans hT.2.2.2.1 g3, fun q => absurd (((g7 66 14 (by omega)).trans mp0).symm.trans q) (by decide)⟩)
        | exact absurd (by decide : nI 0 = (0 : Int32)) (by assumption)
        | exact ⟨_, rfl, rfl, b, e, hT.flag, Ly.flag, Nat.le_refl _, fun q => absurd (mp0.symm.trans q) (by decide)⟩
        | (obtain ⟨b1, e1, g1, g2, g3, g4, g5, g6, g7⟩ := r2; exact ⟨_, rfl, rfl, b1, e1, ⟨g1, g2, (g7 66 9 (by omega)).trans hT.flag.2.2.1, g4, g5, hT.2.2.2.2.2.1, g6⟩, Ly.flag.trans g7.ly, Nat.le_trans hT.2.2.2.1 g3, fun _ => ⟨by assumption, by assumption, g3⟩⟩)
        | (obtain ⟨b1, e1, g1, g2, g3, g4, g5, g6, g7⟩ := r4; exact ⟨_, rfl, rfl, b1, e1, ⟨g1, g2, (g7 66 9 (by omega)).trans hT.flag.2.2.1, g4, g5, hT.2.2.2.2.2.1, g6⟩, Ly.flag.trans g7.ly, Nat.le_trans hT.2.2.2.1 g3, fun _ => ⟨by assumption, by assumption, g3⟩⟩)
        | (obtain ⟨b1, e1, g1, g2, g3, g4, g5, g6, g7⟩ := r5; exact ⟨_, rfl, rfl, b1, e1, ⟨g1, g2, (g7 66 9 (by omega)).trans hT.flag.2.2.1, g4, g5, hT.2.2.2.2.2.1, g6⟩, Ly.flag.trans g7.ly, Nat.le_trans hT.2.2.2.1 g3, fun _ => ⟨by assumption, by assumption, g3⟩⟩)
        | (obtain ⟨b1, e1, g1, g2, g3, g4, g5, g6, g7⟩ := r6; exact ⟨_, rfl, rfl, b1, e1, ⟨g1, g2, (g7 66 9 (by omega)).trans hT.flag.2.2.1, g4, g5, hT.2.2.2.2.2.1, g6⟩, Ly.flag.trans g7.ly, Nat.le_trans hT.2.2.2.1 g3, fun _ => ⟨by assumption, by assumption, g3⟩⟩)
        | (obtain ⟨b1, e1, g1, g2, g3, g4, g5, g6, g7⟩ := r7; exact ⟨_, rfl, rfl, b1, e1, ⟨g1, g2, (g7 66 9 (by omega)).trans hT.flag.2.2.1, g4, g5, hT.2.2.2.2.2.1, g6⟩, Ly.flag.trans g7.ly, Nat.le_trans hT.2.2.2.1 g3, fun _ => ⟨by assumption, by assumption, g3⟩⟩)
        | (obtain ⟨b1, e1, g1, g2, g3, g4, g5, g6, g7⟩ := r8; exact ⟨_, rfl, rfl, b1, e1, ⟨g1, g2, (g7 66 9 (by omega)).trans hT.flag.2.2.1, g4, g5, hT.2.2.2.2.2.1, g6⟩, Ly.flag.trans g7.ly, Nat.le_trans hT.2.2.2.1 g3, fun _ => ⟨by assumption, by assumption, g3⟩⟩)
        | (obtain ⟨b1, e1, g1, g2, g3, g4, g5, g6, g7⟩ := r9; exact ⟨_, rfl, rfl, b1, e1, ⟨g1, g2, (g7 66 9 (by omega)).trans hT.flag.2.2.1, g4, g5, hT.2.2.2.2.2.1, g6⟩, Ly.flag.trans g7.ly, Nat.le_trans hT.2.2.2.1 g3, fun _ => ⟨by assumption, by assumption, g3⟩⟩)
        | (obtain ⟨b1, e1, g1, g2, g3, g4, g5, g6, g7⟩ := r10; exact ⟨_, rfl, rfl, b1, e1, ⟨g1, g2, (g7 66 9 (by omega)).trans hT.flag.2.2.1, g4, g5, hT.2.2.2.2.2.1, g6⟩, Ly.flag.trans g7.ly, Nat.le_trans hT.2.2.2.1 g3, fun _ => ⟨by assumption, by assumption, g3⟩⟩)
        | (obtain ⟨b1, e1, g1, g2, g3, g4, g5, g6, g7⟩ := r11; exact ⟨_, rfl, rfl, b1, e1, ⟨g1, g2, (g7 66 9 (by omega)).trans hT.flag.2.2.1, g4, g5, hT.2.2.2.2.2.1, g6⟩, Ly.flag.trans g7.ly, Nat.le_trans hT.2.2.2.1 g3, fun _ => ⟨by assumption, by assumption, g3⟩⟩)
        | (obtain ⟨b1, e1, g1, g2, g3, g4, g5, g6, g7⟩ := r2; exact ⟨_, rfl, rfl, b1, e1, ⟨g1, g2, (g7 66 9 (by omega)).trans hT.flag.2.2.1, g4, g5, hT.2.2.2.2.2.1, g6⟩, Ly.flag.trans g7.ly, Nat.le_trans hT.2.2.2.1 g3, fun q => absurd (((g7 66 14 (by omega)).trans mp0).symm.trans q) (by decide)⟩)
        | (obtain ⟨b1, e1, g1, g2, g3, g4, g5, g6, g7⟩ := r4; exact ⟨_, rfl, rfl, b1, e1, ⟨g1, g2, (g7 66 9 (by omega)).trans hT.flag.2.2.1, g4, g5, hT.2.2.2.2.2.1, g6⟩, Ly.flag.trans g7.ly, Nat.le_trans hT.2.2.2.1 g3, fun q => absurd (((g7 66 14 (by omega)).trans mp0).symm.trans q) (by decide)⟩)
        | (obtain ⟨b1, e1, g1, g2, g3, g4, g5, g6, g7⟩ := r5; exact ⟨_, rfl, rfl, b1, e1, ⟨g1, g2, (g7 66 9 (by omega)).trans hT.flag.2.2.1, g4, g5, hT.2.2.2.2.2.1, g6⟩, Ly.flag.trans g7.ly, Nat.le_trans hT.2.2.2.1 g3, fun q => absurd (((g7 66 14 (by omega)).trans mp0).symm.trans q) (by decide)⟩)
        | (obtain ⟨b1, e1, g1, g2, g3, g4, g5, g6, g7⟩ := r6; exact ⟨_, rfl, rfl, b1, e1, ⟨g1, g2, (g7 66 9 (by omega)).trans hT.flag.2.2.1, g4, g5, hT.2.2.2.2.2.1, g6⟩, Ly.flag.trans g7.ly, Nat.le_trans hT.2.2.2.1 g3, fun q => absurd (((g7 66 14 (by omega)).trans mp0).symm.trans q) (by decide)⟩)
        | (obtain ⟨b1, e1, g1, g2, g3, g4, g5, g6, g7⟩ := r7; exact ⟨_, rfl, rfl, b1, e1, ⟨g1, g2, (g7 66 9 (by omega)).trans hT.flag.2.2.1, g4, g5, hT.2.2.2.2.2.1, g6⟩, Ly.flag.trans g7.ly, Nat.le_trans hT.2.2.2.1 g3, fun q => absurd (((g7 66 14 (by omega)).trans mp0).symm.trans q) (by decide)⟩)
        | (obtain ⟨b1, e1, g1, g2, g3, g4, g5, g6, g7⟩ := r8; exact ⟨_, rfl, rfl, b1, e1, ⟨g1, g2, (g7 66 9 (by omega)).trans hT.flag.2.2.1, g4, g5, hT.2.2.2.2.2.1, g6⟩, Ly.flag.trans g7.ly, Nat.le_trans hT.2.2.2.1 g3, fun q => absurd (((g7 66 14 (by omega)).trans mp0).symm.trans q) (by decide)⟩)
        | (obtain ⟨b1, e1, g1, g2, g3, g4, g5, g6, g7⟩ := r9; exact ⟨_, rfl, rfl, b1, e1, ⟨g1, g2, (g7 66 9 (by omega)).trans hT.flag.2.2.1, g4, g5, hT.2.2.2.2.2.1, g6⟩, Ly.flag.trans g7.ly, Nat.le_trans hT.2.2.2.1 g3, fun q => absurd (((g7 66 14 (by omega)).trans mp0).symm.trans q) (by decide)⟩)
        | (obtain ⟨b1, e1, g1, g2, g3, g4, g5, g6, g7⟩ := r10; exact ⟨_, rfl, rfl, b1, e1, ⟨g1, g2, (g7 66 9 (by omega)).trans hT.flag.2.2.1, g4, g5, hT.2.2.2.2.2.1, g6⟩, Ly.flag.trans g7.ly, Nat.le_trans hT.2.2.2.1 g3, fun q => absurd (((g7 66 14 (by omega)).trans mp0).symm.trans q) (by decide)⟩)
        | (obtain ⟨b1, e1, g1, g2, g3, g4, g5, g6, g7⟩ := r11; exact ⟨_, rfl, rfl, b1, e1, ⟨g1, g2, (g7 66 9 (by omega)).trans hT.flag.2.2.1, g4, g5, hT.2.2.2.2.2.1, g6⟩, Ly.flag.trans g7.ly, Nat.le_trans hT.2.2.2.1 g3, fun q => absurd (((g7 66 14 (by omega)).trans mp0).symm.trans q) (by decide)⟩)
  · refine x_iload_n hm rfl rfl ?_
    refine x_if_ne hm rfl (t := 16) rfl (fun h4 => ?_) (fun h4 => ?_)
    · refine x_iconst hm rfl (v := nI 0) (by decide) ?_
      refine x_putf hm rfl (pI rfl rfl (by decide) (by first | exact mFit_int | rfl | decide) rfl) ?_
      refine x_aload_n hm rfl rfl ?_
      refine x_getf hm rfl (gI rfl rfl) ?_
      rw [mp0]
      refine x_if_ne hm rfl (t := 31) rfl (fun h5 => ?_) (fun h5 => ?_)
      · refine x_ret hm rfl rfl ?_
        first
          | exact absurd (by decide : nI 0 = (0 : Int32)) (by assumption)
          | exact ⟨_, rfl, rfl, b, e, hT.flag, Ly.flag, Nat.le_refl _, fun q => absurd (mp0.symm.trans q) (by decide)⟩
          | (obtain ⟨b1, e1, g1, g2, g3, g4, g5, g6, g7⟩ := r2; exact ⟨_, rfl, rfl, b1, e1, ⟨g1, g2, (g7 66 9 (by omega)).trans hT.flag.2.2.1, g4, g5, hT.2.2.2.2.2.1, g6⟩, Ly.flag.trans g7.ly, Nat.le_trans hT.2.2.2.1 g3, fun _ => ⟨by assumption, by assumption, g3⟩⟩)
          | (obtain ⟨b1, e1, g1, g2, g3, g4, g5, g6, g7⟩ := r3; exact ⟨_, rfl, rfl, b1, e1, ⟨g1, g2, (g7 66 9 (by omega)).trans hT.flag.2.2.1, g4, g5, hT.2.2.2.2.2.1, g6⟩, Ly.flag.trans g7.ly, Nat.le_trans hT.2.2.2.1 g3, fun _ => ⟨by assumption, by assumption, g3⟩⟩)
          | (obtain ⟨b1, e1, g1, g2, g3, g4, g5, g6, g7⟩ := r4; exact ⟨_, rfl, rfl, b1, e1, ⟨g1, g2, (g7 66 9 (by omega)).trans hT.flag.2.2.1, g4, g5, hT.2.2.2.2.2.1, g6⟩, Ly.flag.trans g7.ly, Nat.le_trans hT.2.2.2.1 g3, fun _ => ⟨by assumption, by assumption, g3⟩⟩)
          | (obtain ⟨b1, e1, g1, g2, g3, g4, g5, g6, g7⟩ := r5; exact ⟨_, rfl, rfl, b1, e1, ⟨g1, g2, (g7 66 9 (by omega)).trans hT.flag.2.2.1, g4, g5, hT.2.2.2.2.2.1, g6⟩, Ly.flag.trans g7.ly, Nat.le_trans hT.2.2.2.1 g3, fun _ => ⟨by assumption, by assumption, g3⟩⟩)
          | (obtain ⟨b1, e1, g1, g2, g3, g4, g5, g6, g7⟩ := r6; exact ⟨_, rfl, rfl, b1, e1, ⟨g1, g2, (g7 66 9 (by omega)).trans hT.flag.2.2.1, g4, g5, hT.2.2.2.2.2.1, g6⟩, Ly.flag.trans g7.ly, Nat.le_trans hT.2.2.2.1 g3, fun _ => ⟨by assumption, by assumption, g3⟩⟩)
          | (obtain ⟨b1, e1, g1, g2, g3, g4, g5, g6, g7⟩ := r7; exact ⟨_, rfl, rfl, b1, e1, ⟨g1, g2, (g7 66 9 (by omega)).trans hT.flag.2.2.1, g4, g5, hT.2.2.2.2.2.1, g6⟩, Ly.flag.trans g7.ly, Nat.le_trans hT.2.2.2.1 g3, fun _ => ⟨by assumption, by assumption, g3⟩⟩)
          | (obtain ⟨b1, e1, g1, g2, g3, g4, g5, g6, g7⟩ := r8; exact ⟨_, rfl, rfl, b1, e1, ⟨g1, g2, (g7 66 9 (by omega)).trans hT.flag.2.2.1, g4, g5, hT.2.2.2.2.2.1, g6⟩, Ly.flag.trans g7.ly, Nat.le_trans hT.2.2.2.1 g3, fun _ => ⟨by assumption, by assumption, g3⟩⟩)
          | (obtain ⟨b1, e1, g1, g2, g3, g4, g5, g6, g7⟩ := r9; exact ⟨_, rfl, rfl, b1, e1, ⟨g1, g2, (g7 66 9 (by omega)).trans hT.flag.2.2.1, g4, g5, hT.2.2.2.2.2.1, g6⟩, Ly.flag.trans g7.ly, Nat.le_trans hT.2.2.2.1 g3, fun _ => ⟨by assumption, by assumption, g3⟩⟩)
          | (obtain ⟨b1, e1, g1, g2, g3, g4, g5, g6, g7⟩ := r10; exact ⟨_, rfl, rfl, b1, e1, ⟨g1, g2, (g7 66 9 (by omega)).trans hT.flag.2.2.1, g4, g5, hT.2.2.2.2.2.1, g6⟩, Ly.flag.trans g7.ly, Nat.le_trans hT.2.2.2.1 g3, fun _ => ⟨by assumption, by assumption, g3⟩⟩)
          | (obtain ⟨b1, e1, g1, g2, g3, g4, g5, g6, g7⟩ := r11; exact ⟨_, rfl, rfl, b1, e1, ⟨g1, g2, (g7 66 9 (by omega)).trans hT.flag.2.2.1, g4, g5, hT.2.2.2.2.2.1, g6⟩, Ly.flag.trans g7.ly, Nat.le_trans hT.2.2.2.1 g3, fun _ => ⟨by assumption, by assumption, g3⟩⟩)
          | (obtain ⟨b1, e1, g1, g2, g3, g4, g5, g6, g7⟩ := r2; exact ⟨_, rfl, rfl, b1, e1, ⟨g1, g2, (g7 66 9 (by omega)).trans hT.flag.2.2.1, g4, g5, hT.2.2.2.2.2.1, g6⟩, Ly.flag.trans g7.ly, Nat.le_trans hT.2.2.2.1 g3, fun q => absurd (((g7 66 14 (by omega)).trans mp0).symm.trans q) (by decide)⟩)
          | (obtain ⟨b1, e1, g1, g2, g3, g4, g5, g6, g7⟩ := r3; exact ⟨_, rfl, rfl, b1, e1, ⟨g1, g2, (g7 66 9 (by omega)).trans hT.flag.2.2.1, g4, g5, hT.2.2.2.2.2.1, g6⟩, Ly.flag.trans g7.ly, Nat.le_trans hT.2.2.2.1 g3, fun q => absurd (((g7 66 14 (by omega)).trans mp0).symm.trans q) (by decide)⟩)
          | (obtain ⟨b1, e1, g1, g2, g3, g4, g5, g6, g7⟩ := r4; exact ⟨_, rfl, rfl, b1, e1, ⟨g1, g2, (g7 66 9 (by omega)).trans hT.flag.2.2.1, g4, g5, hT.2.2.2.2.2.1, g6⟩, Ly.flag.trans g7.ly, Nat.le_trans hT.2.2.2.1 g3, fun q => absurd (((g7 66 14 (by omega)).trans mp0).symm.trans q) (by decide)⟩)
          | (obtain ⟨b1, e1, g1, g2, g3, g4, g5, g6, g7⟩ := r5; exact ⟨_, rfl, rfl, b1, e1, ⟨g1, g2, (g7 66 9 (by omega)).trans hT.flag.2.2.1, g4, g5, hT.2.2.2.2.2.1, g6⟩, Ly.flag.trans g7.ly, Nat.le_trans hT.2.2.2.1 g3, fun q => absurd (((g7 66 14 (by omega)).trans mp0).symm.trans q) (by decide)⟩)
          | (obtain ⟨b1, e1, g1, g2, g3, g4, g5, g6, g7⟩ := r6; exact ⟨_, rfl, rfl, b1, e1, ⟨g1, g2, (g7 66 9 (by omega)).trans hT.flag.2.2.1, g4, g5, hT.2.2.2.2.2.1, g6⟩, Ly.flag.trans g7.ly, Nat.le_trans hT.2.2.2.1 g3, fun q => absurd (((g7 66 14 (by omega)).trans mp0).symm.trans q) (by decide)⟩)
          | (obtain ⟨b1, e1, g1, g2, g3, g4, g5, g6, g7⟩ := r7; exact ⟨_, rfl, rfl, b1, e1, ⟨g1, g2, (g7 66 9 (by omega)).trans hT.flag.2.2.1, g4, g5, hT.2.2.2.2.2.1, g6⟩, Ly.flag.trans g7.ly, Nat.le_trans hT.2.2.2.1 g3, fun q => absurd (((g7 66 14 (by omega)).trans mp0).symm.trans q) (by decide)⟩)
          | (obtain ⟨b1, e1, g1, g2, g3, g4, g5, g6, g7⟩ := r8; exact ⟨_, rfl, rfl, b1, e1, ⟨g1, g2, (g7 66 9 (by omega)).trans hT.flag.2.2.1, g4, g5, hT.2.2.2.2.2.1, g6⟩, Ly.flag.trans g7.ly, Nat.le_trans hT.2.2.2.1 g3, fun q => absurd (((g7 66 14 (by omega)).trans mp0).symm.trans q) (by decide)⟩)
          | (obtain ⟨b1, e1, g1, g2, g3, g4, g5, g6, g7⟩ := r9; exact ⟨_, rfl, rfl, b1, e1, ⟨g1, g2, (g7 66 9 (by omega)).trans hT.flag.2.2.1, g4, g5, hT.2.2.2.2.2.1, g6⟩, Ly.flag.trans g7.ly, Nat.le_trans hT.2.2.2.1 g3, fun q => absurd (((g7 66 14 (by omega)).trans mp0).symm.trans q) (by decide)⟩)
          | (obtain ⟨b1, e1, g1, g2, g3, g4, g5, g6, g7⟩ := r10; exact ⟨_, rfl, rfl, b1, e1, ⟨g1, g2, (g7 66 9 (by omega)).trans hT.flag.2.2.1, g4, g5, hT.2.2.2.2.2.1, g6⟩, Ly.flag.trans g7.ly, Nat.le_trans hT.2.2.2.1 g3, fun q => absurd (((g7 66 14 (by omega)).trans mp0).symm.trans q) (by decide)⟩)
          | (obtain ⟨b1, e1, g1, g2, g3, g4, g5, g6, g7⟩ := r11; exact ⟨_, rfl, rfl, b1, e1, ⟨g1, g2, (g7 66 9 (by omega)).trans hT.flag.2.2.1, g4, g5, hT.2.2.2.2.2.1, g6⟩, Ly.flag.trans g7.ly, Nat.le_trans hT.2.2.2.1 g3, fun q => absurd (((g7 66 14 (by omega)).trans mp0).symm.trans q) (by decide)⟩)
      · refine x_aload_n hm rfl rfl ?_
        refine x_cVv hm rfl rfl (t221 hT.flag.2.2.1 hT.2.2.2.2.2.1 hT.flag.2.1 hT.2.2.2.2.1) (fun M6 r6 => ?_)
        refine x_ret hm rfl rfl ?_
        first
          | (obtain ⟨b1, e1, g1, g2, g3, g4, g5, g6, g7⟩ := r6; exact ⟨_, rfl, rfl, b1, e1, ⟨g1, g2, (g7 66 9 (by omega)).trans hT.flag.2.2.1, g4, g5, hT.2.2.2.2.2.1, g6⟩, Ly.flag.trans g7.ly, Nat.le_trans hT.2.2.2.1 g3, fun _ => ⟨by assumption, by assumption, g3⟩⟩)
          | (obtain ⟨b1, e1, g1, g2, g3, g4, g5, g6, g7⟩ := r6; exact ⟨_, rfl, rfl, b1, e1, ⟨g1, g2, (g7 66 9 (by omega)).trans hT.flag.2.2.1, g4, g5, hT.2.2.2.2.2.1, g6⟩, Ly.flag.trans g7.ly, Nat.le_trans hT.2.2.2.1 g3, fun q => absurd (((g7 66 14 (by omega)).trans mp0).symm.trans q) (by decide)⟩)
          | exact absurd (by decide : nI 0 = (0 : Int32)) (by assumption)
          | exact ⟨_, rfl, rfl, b, e, hT.flag, Ly.flag, Nat.le_refl _, fun q => absurd (mp0.symm.trans q) (by decide)⟩
          | (obtain ⟨b1, e1, g1, g2, g3, g4, g5, g6, g7⟩ := r2; exact ⟨_, rfl, rfl, b1, e1, ⟨g1, g2, (g7 66 9 (by omega)).trans hT.flag.2.2.1, g4, g5, hT.2.2.2.2.2.1, g6⟩, Ly.flag.trans g7.ly, Nat.le_trans hT.2.2.2.1 g3, fun _ => ⟨by assumption, by assumption, g3⟩⟩)
          | (obtain ⟨b1, e1, g1, g2, g3, g4, g5, g6, g7⟩ := r3; exact ⟨_, rfl, rfl, b1, e1, ⟨g1, g2, (g7 66 9 (by omega)).trans hT.flag.2.2.1, g4, g5, hT.2.2.2.2.2.1, g6⟩, Ly.flag.trans g7.ly, Nat.le_trans hT.2.2.2.1 g3, fun _ => ⟨by assumption, by assumption, g3⟩⟩)
          | (obtain ⟨b1, e1, g1, g2, g3, g4, g5, g6, g7⟩ := r4; exact ⟨_, rfl, rfl, b1, e1, ⟨g1, g2, (g7 66 9 (by omega)).trans hT.flag.2.2.1, g4, g5, hT.2.2.2.2.2.1, g6⟩, Ly.flag.trans g7.ly, Nat.le_trans hT.2.2.2.1 g3, fun _ => ⟨by assumption, by assumption, g3⟩⟩)
          | (obtain ⟨b1, e1, g1, g2, g3, g4, g5, g6, g7⟩ := r5; exact ⟨_, rfl, rfl, b1, e1, ⟨g1, g2, (g7 66 9 (by omega)).trans hT.flag.2.2.1, g4, g5, hT.2.2.2.2.2.1, g6⟩, Ly.flag.trans g7.ly, Nat.le_trans hT.2.2.2.1 g3, fun _ => ⟨by assumption, by assumption, g3⟩⟩)
          | (obtain ⟨b1, e1, g1, g2, g3, g4, g5, g6, g7⟩ := r7; exact ⟨_, rfl, rfl, b1, e1, ⟨g1, g2, (g7 66 9 (by omega)).trans hT.flag.2.2.1, g4, g5, hT.2.2.2.2.2.1, g6⟩, Ly.flag.trans g7.ly, Nat.le_trans hT.2.2.2.1 g3, fun _ => ⟨by assumption, by assumption, g3⟩⟩)
          | (obtain ⟨b1, e1, g1, g2, g3, g4, g5, g6, g7⟩ := r8; exact ⟨_, rfl, rfl, b1, e1, ⟨g1, g2, (g7 66 9 (by omega)).trans hT.flag.2.2.1, g4, g5, hT.2.2.2.2.2.1, g6⟩, Ly.flag.trans g7.ly, Nat.le_trans hT.2.2.2.1 g3, fun _ => ⟨by assumption, by assumption, g3⟩⟩)
          | (obtain ⟨b1, e1, g1, g2, g3, g4, g5, g6, g7⟩ := r9; exact ⟨_, rfl, rfl, b1, e1, ⟨g1, g2, (g7 66 9 (by omega)).trans hT.flag.2.2.1, g4, g5, hT.2.2.2.2.2.1, g6⟩, Ly.flag.trans g7.ly, Nat.le_trans hT.2.2.2.1 g3, fun _ => ⟨by assumption, by assumption, g3⟩⟩)
          | (obtain ⟨b1, e1, g1, g2, g3, g4, g5, g6, g7⟩ := r10; exact ⟨_, rfl, rfl, b1, e1, ⟨g1, g2, (g7 66 9 (by omega)).trans hT.flag.2.2.1, g4, g5, hT.2.2.2.2.2.1, g6⟩, Ly.flag.trans g7.ly, Nat.le_trans hT.2.2.2.1 g3, fun _ => ⟨by assumption, by assumption, g3⟩⟩)
          | (obtain ⟨b1, e1, g1, g2, g3, g4, g5, g6, g7⟩ := r11; exact ⟨_, rfl, rfl, b1, e1, ⟨g1, g2, (g7 66 9 (by omega)).trans hT.flag.2.2.1, g4, g5, hT.2.2.2.2.2.1, g6⟩, Ly.flag.trans g7.ly, Nat.le_trans hT.2.2.2.1 g3, fun _ => ⟨by assumption, by assumption, g3⟩⟩)
          | (obtain ⟨b1, e1, g1, g2, g3, g4, g5, g6, g7⟩ := r2; exact ⟨_, rfl, rfl, b1, e1, ⟨g1, g2, (g7 66 9 (by omega)).trans hT.flag.2.2.1, g4, g5, hT.2.2.2.2.2.1, g6⟩, Ly.flag.trans g7.ly, Nat.le_trans hT.2.2.2.1 g3, fun q => absurd (((g7 66 14 (by omega)).trans mp0).symm.trans q) (by decide)⟩)
          | (obtain ⟨b1, e1, g1, g2, g3, g4, g5, g6, g7⟩ := r3; exact ⟨_, rfl, rfl, b1, e1, ⟨g1, g2, (g7 66 9 (by omega)).trans hT.flag.2.2.1, g4, g5, hT.2.2.2.2.2.1, g6⟩, Ly.flag.trans g7.ly, Nat.le_trans hT.2.2.2.1 g3, fun q => absurd (((g7 66 14 (by omega)).trans mp0).symm.trans q) (by decide)⟩)
          | (obtain ⟨b1, e1, g1, g2, g3, g4, g5, g6, g7⟩ := r4; exact ⟨_, rfl, rfl, b1, e1, ⟨g1, g2, (g7 66 9 (by omega)).trans hT.flag.2.2.1, g4, g5, hT.2.2.2.2.2.1, g6⟩, Ly.flag.trans g7.ly, Nat.le_trans hT.2.2.2.1 g3, fun q => absurd (((g7 66 14 (by omega)).trans mp0).symm.trans q) (by decide)⟩)
          | (obtain ⟨b1, e1, g1, g2, g3, g4, g5, g6, g7⟩ := r5; exact ⟨_, rfl, rfl, b1, e1, ⟨g1, g2, (g7 66 9 (by omega)).trans hT.flag.2.2.1, g4, g5, hT.2.2.2.2.2.1, g6⟩, Ly.flag.trans g7.ly, Nat.le_trans hT.2.2.2.1 g3, fun q => absurd (((g7 66 14 (by omega)).trans mp0).symm.trans q) (by decide)⟩)
          | (obtain ⟨b1, e1, g1, g2, g3, g4, g5, g6, g7⟩ := r7; exact ⟨_, rfl, rfl, b1, e1, ⟨g1, g2, (g7 66 9 (by omega)).trans hT.flag.2.2.1, g4, g5, hT.2.2.2.2.2.1, g6⟩, Ly.flag.trans g7.ly, Nat.le_trans hT.2.2.2.1 g3, fun q => absurd (((g7 66 14 (by omega)).trans mp0).symm.trans q) (by decide)⟩)
          | (obtain ⟨b1, e1, g1, g2, g3, g4, g5, g6, g7⟩ := r8; exact ⟨_, rfl, rfl, b1, e1, ⟨g1, g2, (g7 66 9 (by omega)).trans hT.flag.2.2.1, g4, g5, hT.2.2.2.2.2.1, g6⟩, Ly.flag.trans g7.ly, Nat.le_trans hT.2.2.2.1 g3, fun q => absurd (((g7 66 14 (by omega)).trans mp0).symm.trans q) (by decide)⟩)
          | (obtain ⟨b1, e1, g1, g2, g3, g4, g5, g6, g7⟩ := r9; exact ⟨_, rfl, rfl, b1, e1, ⟨g1, g2, (g7 66 9 (by omega)).trans hT.flag.2.2.1, g4, g5, hT.2.2.2.2.2.1, g6⟩, Ly.flag.trans g7.ly, Nat.le_trans hT.2.2.2.1 g3, fun q => absurd (((g7 66 14 (by omega)).trans mp0).symm.trans q) (by decide)⟩)
          | (obtain ⟨b1, e1, g1, g2, g3, g4, g5, g6, g7⟩ := r10; exact ⟨_, rfl, rfl, b1, e1, ⟨g1, g2, (g7 66 9 (by omega)).trans hT.flag.2.2.1, g4, g5, hT.2.2.2.2.2.1, g6⟩, Ly.flag.trans g7.ly, Nat.le_trans hT.2.2.2.1 g3, fun q => absurd (((g7 66 14 (by omega)).trans mp0).symm.trans q) (by decide)⟩)
          | (obtain ⟨b1, e1, g1, g2, g3, g4, g5, g6, g7⟩ := r11; exact ⟨_, rfl, rfl, b1, e1, ⟨g1, g2, (g7 66 9 (by omega)).trans hT.flag.2.2.1, g4, g5, hT.2.2.2.2.2.1, g6⟩, Ly.flag.trans g7.ly, Nat.le_trans hT.2.2.2.1 g3, fun q => absurd (((g7 66 14 (by omega)).trans mp0).symm.trans q) (by decide)⟩)
    · refine x_iconst hm rfl (v := nI 1) (by decide) ?_
      refine x_goto hm rfl (t := 17) rfl ?_
      refine x_putf hm rfl (pI rfl rfl (by decide) (by first | exact mFit_int | rfl | decide) rfl) ?_
      refine x_aload_n hm rfl rfl ?_
      refine x_getf hm rfl (gI rfl rfl) ?_
      rw [mp0]
      refine x_if_ne hm rfl (t := 31) rfl (fun h7 => ?_) (fun h7 => ?_)
      · refine x_ret hm rfl rfl ?_
        first
          | exact absurd (by decide : nI 0 = (0 : Int32)) (by assumption)
          | exact ⟨_, rfl, rfl, b, e, hT.flag, Ly.flag, Nat.le_refl _, fun q => absurd (mp0.symm.trans q) (by decide)⟩
          | (obtain ⟨b1, e1, g1, g2, g3, g4, g5, g6, g7⟩ := r2; exact ⟨_, rfl, rfl, b1, e1, ⟨g1, g2, (g7 66 9 (by omega)).trans hT.flag.2.2.1, g4, g5, hT.2.2.2.2.2.1, g6⟩, Ly.flag.trans g7.ly, Nat.le_trans hT.2.2.2.1 g3, fun _ => ⟨by assumption, by assumption, g3⟩⟩)
          | (obtain ⟨b1, e1, g1, g2, g3, g4, g5, g6, g7⟩ := r3; exact ⟨_, rfl, rfl, b1, e1, ⟨g1, g2, (g7 66 9 (by omega)).trans hT.flag.2.2.1, g4, g5, hT.2.2.2.2.2.1, g6⟩, Ly.flag.trans g7.ly, Nat.le_trans hT.2.2.2.1 g3, fun _ => ⟨by assumption, by assumption, g3⟩⟩)
          | (obtain ⟨b1, e1, g1, g2, g3, g4, g5, g6, g7⟩ := r4; exact ⟨_, rfl, rfl, b1, e1, ⟨g1, g2, (g7 66 9 (by omega)).trans hT.flag.2.2.1, g4, g5, hT.2.2.2.2.2.1, g6⟩, Ly.flag.trans g7.ly, Nat.le_trans hT.2.2.2.1 g3, fun _ => ⟨by assumption, by assumption, g3⟩⟩)
          | (obtain ⟨b1, e1, g1, g2, g3, g4, g5, g6, g7⟩ := r5; exact ⟨_, rfl, rfl, b1, e1, ⟨g1, g2, (g7 66 9 (by omega)).trans hT.flag.2.2.1, g4, g5, hT.2.2.2.2.2.1, g6⟩, Ly.flag.trans g7.ly, Nat.le_trans hT.2.2.2.1 g3, fun _ => ⟨by assumption, by assumption, g3⟩⟩)
          | (obtain ⟨b1, e1, g1, g2, g3, g4, g5, g6, g7⟩ := r6; exact ⟨_, rfl, rfl, b1, e1, ⟨g1, g2, (g7 66 9 (by omega)).trans hT.flag.2.2.1, g4, g5, hT.2.2.2.2.2.1, g6⟩, Ly.flag.trans g7.ly, Nat.le_trans hT.2.2.2.1 g3, fun _ => ⟨by assumption, by assumption, g3⟩⟩)
          | (obtain ⟨b1, e1, g1, g2, g3, g4, g5, g6, g7⟩ := r7; exact ⟨_, rfl, rfl, b1, e1, ⟨g1, g2, (g7 66 9 (by omega)).trans hT.flag.2.2.1, g4, g5, hT.2.2.2.2.2.1, g6⟩, Ly.flag.trans g7.ly, Nat.le_trans hT.2.2.2.1 g3, fun _ => ⟨by assumption, by assumption, g3⟩⟩)
          | (obtain ⟨b1, e1, g1, g2, g3, g4, g5, g6, g7⟩ := r8; exact ⟨_, rfl, rfl, b1, e1, ⟨g1, g2, (g7 66 9 (by omega)).trans hT.flag.2.2.1, g4, g5, hT.2.2.2.2.2.1, g6⟩, Ly.flag.trans g7.ly, Nat.le_trans hT.2.2.2.1 g3, fun _ => ⟨by assumption, by assumption, g3⟩⟩)
          | (obtain ⟨b1, e1, g1, g2, g3, g4, g5, g6, g7⟩ := r9; exact ⟨_, rfl, rfl, b1, e1, ⟨g1, g2, (g7 66 9 (by omega)).trans hT.flag.2.2.1, g4, g5, hT.2.2.2.2.2.1, g6⟩, Ly.flag.trans g7.ly, Nat.le_trans hT.2.2.2.1 g3, fun _ => ⟨by assumption, by assumption, g3⟩⟩)
          | (obtain ⟨b1, e1, g1, g2, g3, g4, g5, g6, g7⟩ := r10; exact ⟨_, rfl, rfl, b1, e1, ⟨g1, g2, (g7 66 9 (by omega)).trans hT.flag.2.2.1, g4, g5, hT.2.2.2.2.2.1, g6⟩, Ly.flag.trans g7.ly, Nat.le_trans hT.2.2.2.1 g3, fun _ => ⟨by assumption, by assumption, g3⟩⟩)
          | (obtain ⟨b1, e1, g1, g2, g3, g4, g5, g6, g7⟩ := r11; exact ⟨_, rfl, rfl, b1, e1, ⟨g1, g2, (g7 66 9 (by omega)).trans hT.flag.2.2.1, g4, g5, hT.2.2.2.2.2.1, g6⟩, Ly.flag.trans g7.ly, Nat.le_trans hT.2.2.2.1 g3, fun _ => ⟨by assumption, by assumption, g3⟩⟩)
          | (obtain ⟨b1, e1, g1, g2, g3, g4, g5, g6, g7⟩ := r2; exact ⟨_, rfl, rfl, b1, e1, ⟨g1, g2, (g7 66 9 (by omega)).trans hT.flag.2.2.1, g4, g5, hT.2.2.2.2.2.1, g6⟩, Ly.flag.trans g7.ly, Nat.le_trans hT.2.2.2.1 g3, fun q => absurd (((g7 66 14 (by omega)).trans mp0).symm.trans q) (by decide)⟩)
          | (obtain ⟨b1, e1, g1, g2, g3, g4, g5, g6, g7⟩ := r3; exact ⟨_, rfl, rfl, b1, e1, ⟨g1, g2, (g7 66 9 (by omega)).trans hT.flag.2.2.1, g4, g5, hT.2.2.2.2.2.1, g6⟩, Ly.flag.trans g7.ly, Nat.le_trans hT.2.2.2.1 g3, fun q => absurd (((g7 66 14 (by omega)).trans mp0).symm.trans q) (by decide)⟩)
          | (obtain ⟨b1, e1, g1, g2, g3, g4, g5, g6, g7⟩ := r4; exact ⟨_, rfl, rfl, b1, e1, ⟨g1, g2, (g7 66 9 (by omega)).trans hT.flag.2.2.1, g4, g5, hT.2.2.2.2.2.1, g6⟩, Ly.flag.trans g7.ly, Nat.le_trans hT.2.2.2.1 g3, fun q => absurd (((g7 66 14 (by omega)).trans mp0).symm.trans q) (by decide)⟩)
          | (obtain ⟨b1, e1, g1, g2, g3, g4, g5, g6, g7⟩ := r5; exact ⟨_, rfl, rfl, b1, e1, ⟨g1, g2, (g7 66 9 (by omega)).trans hT.flag.2.2.1, g4, g5, hT.2.2.2.2.2.1, g6⟩, Ly.flag.trans g7.ly, Nat.le_trans hT.2.2.2.1 g3, fun q => absurd (((g7 66 14 (by omega)).trans mp0).symm.trans q) (by decide)⟩)
          | (obtain ⟨b1, e1, g1, g2, g3, g4, g5, g6, g7⟩ := r6; exact ⟨_, rfl, rfl, b1, e1, ⟨g1, g2, (g7 66 9 (by omega)).trans hT.flag.2.2.1, g4, g5, hT.2.2.2.2.2.1, g6⟩, Ly.flag.trans g7.ly, Nat.le_trans hT.2.2.2.1 g3, fun q => absurd (((g7 66 14 (by omega)).trans mp0).symm.trans q) (by decide)⟩)
          | (obtain ⟨b1, e1, g1, g2, g3, g4, g5, g6, g7⟩ := r7; exact ⟨_, rfl, rfl, b1, e1, ⟨g1, g2, (g7 66 9 (by omega)).trans hT.flag.2.2.1, g4, g5, hT.2.2.2.2.2.1, g6⟩, Ly.flag.trans g7.ly, Nat.le_trans hT.2.2.2.1 g3, fun q => absurd (((g7 66 14 (by omega)).trans mp0).symm.trans q) (by decide)⟩)
          | (obtain ⟨b1, e1, g1, g2, g3, g4, g5, g6, g7⟩ := r8; exact ⟨_, rfl, rfl, b1, e1, ⟨g1, g2, (g7 66 9 (by omega)).trans hT.flag.2.2.1, g4, g5, hT.2.2.2.2.2.1, g6⟩, Ly.flag.trans g7.ly, Nat.le_trans hT.2.2.2.1 g3, fun q => absurd (((g7 66 14 (by omega)).trans mp0).symm.trans q) (by decide)⟩)
          | (obtain ⟨b1, e1, g1, g2, g3, g4, g5, g6, g7⟩ := r9; exact ⟨_, rfl, rfl, b1, e1, ⟨g1, g2, (g7 66 9 (by omega)).trans hT.flag.2.2.1, g4, g5, hT.2.2.2.2.2.1, g6⟩, Ly.flag.trans g7.ly, Nat.le_trans hT.2.2.2.1 g3, fun q => absurd (((g7 66 14 (by omega)).trans mp0).symm.trans q) (by decide)⟩)
          | (obtain ⟨b1, e1, g1, g2, g3, g4, g5, g6, g7⟩ := r10; exact ⟨_, rfl, rfl, b1, e1, ⟨g1, g2, (g7 66 9 (by omega)).trans hT.flag.2.2.1, g4, g5, hT.2.2.2.2.2.1, g6⟩, Ly.flag.trans g7.ly, Nat.le_trans hT.2.2.2.1 g3, fun q => absurd (((g7 66 14 (by omega)).trans mp0).symm.trans q) (by decide)⟩)
          | (obtain ⟨b1, e1, g1, g2, g3, g4, g5, g6, g7⟩ := r11; exact ⟨_, rfl, rfl, b1, e1, ⟨g1, g2, (g7 66 9 (by omega)).trans hT.flag.2.2.1, g4, g5, hT.2.2.2.2.2.1, g6⟩, Ly.flag.trans g7.ly, Nat.le_trans hT.2.2.2.1 g3, fun q => absurd (((g7 66 14 (by omega)).trans mp0).symm.trans q) (by decide)⟩)
      · refine x_aload_n hm rfl rfl ?_
        refine x_cVv hm rfl rfl (t221 hT.flag.2.2.1 hT.2.2.2.2.2.1 hT.flag.2.1 hT.2.2.2.2.1) (fun M8 r8 => ?_)
        refine x_ret hm rfl rfl ?_
        first
          | (obtain ⟨b1, e1, g1, g2, g3, g4, g5, g6, g7⟩ := r8; exact ⟨_, rfl, rfl, b1, e1, ⟨g1, g2, (g7 66 9 (by omega)).trans hT.flag.2.2.1, g4, g5, hT.2.2.2.2.2.1, g6⟩, Ly.flag.trans g7.ly, Nat.le_trans hT.2.2.2.1 g3, fun _ => ⟨by assumption, by assumption, g3⟩⟩)
          | (obtain ⟨b1, e1, g1, g2, g3, g4, g5, g6, g7⟩ := r8; exact ⟨_, rfl, rfl, b1, e1, ⟨g1, g2, (g7 66 9 (by omega)).trans hT.flag.2.2.1, g4, g5, hT.2.2.2.2.2.1, g6⟩, Ly.flag.trans g7.ly, Nat.le_trans hT.2.2.2.1 g3, fun q => absurd (((g7 66 14 (by omega)).trans mp0).symm.trans q) (by decide)⟩)
          | exact absurd (by decide : nI 0 = (0 : Int32)) (by assumption)
          | exact ⟨_, rfl, rfl, b, e, hT.flag, Ly.flag, Nat.le_refl _, fun q => absurd (mp0.symm.trans q) (by decide)⟩
          | (obtain ⟨b1, e1, g1, g2, g3, g4, g5, g6, g7⟩ := r2; exact ⟨_, rfl, rfl, b1, e1, ⟨g1, g2, (g7 66 9 (by omega)).trans hT.flag.2.2.1, g4, g5, hT.2.2.2.2.2.1, g6⟩, Ly.flag.trans g7.ly, Nat.le_trans hT.2.2.2.1 g3, fun _ => ⟨by assumption, by assumption, g3⟩⟩)
          | (obtain ⟨b1, e1, g1, g2, g3, g4, g5, g6, g7⟩ := r3; exact ⟨_, rfl, rfl, b1, e1, ⟨g1, g2, (g7 66 9 (by omega)).trans hT.flag.2.2.1, g4, g5, hT.2.2.2.2.2.1, g6⟩, Ly.flag.trans g7.ly, Nat.le_trans hT.2.2.2.1 g3, fun _ => ⟨by assumption, by assumption, g3⟩⟩)
          | (obtain ⟨b1, e1, g1, g2, g3, g4, g5, g6, g7⟩ := r4; exact ⟨_, rfl, rfl, b1, e1, ⟨g1, g2, (g7 66 9 (by omega)).trans hT.flag.2.2.1, g4, g5, hT.2.2.2.2.2.1, g6⟩, Ly.flag.trans g7.ly, Nat.le_trans hT.2.2.2.1 g3, fun _ => ⟨by assumption, by assumption, g3⟩⟩)
          | (obtain ⟨b1, e1, g1, g2, g3, g4, g5, g6, g7⟩ := r5; exact ⟨_, rfl, rfl, b1, e1, ⟨g1, g2, (g7 66 9 (by omega)).trans hT.flag.2.2.1, g4, g5, hT.2.2.2.2.2.1, g6⟩, Ly.flag.trans g7.ly, Nat.le_trans hT.2.2.2.1 g3, fun _ => ⟨by assumption, by assumption, g3⟩⟩)
          | (obtain ⟨b1, e1, g1, g2, g3, g4, g5, g6, g7⟩ := r6; exact ⟨_, rfl, rfl, b1, e1, ⟨g1, g2, (g7 66 9 (by omega)).trans hT.flag.2.2.1, g4, g5, hT.2.2.2.2.2.1, g6⟩, Ly.flag.trans g7.ly, Nat.le_trans hT.2.2.2.1 g3, fun _ => ⟨by assumption, by assumption, g3⟩⟩)
          | (obtain ⟨b1, e1, g1, g2, g3, g4, g5, g6, g7⟩ := r7; exact ⟨_, rfl, rfl, b1, e1, ⟨g1, g2, (g7 66 9 (by omega)).trans hT.flag.2.2.1, g4, g5, hT.2.2.2.2.2.1, g6⟩, Ly.flag.trans g7.ly, Nat.le_trans hT.2.2.2.1 g3, fun _ => ⟨by assumption, by assumption, g3⟩⟩)
          | (obtain ⟨b1, e1, g1, g2, g3, g4, g5, g6, g7⟩ := r9; exact ⟨_, rfl, rfl, b1, e1, ⟨g1, g2, (g7 66 9 (by omega)).trans hT.flag.2.2.1, g4, g5, hT.2.2.2.2.2.1, g6⟩, Ly.flag.trans g7.ly, Nat.le_trans hT.2.2.2.1 g3, fun _ => ⟨by assumption, by assumption, g3⟩⟩)
          | (obtain ⟨b1, e1, g1, g2, g3, g4, g5, g6, g7⟩ := r10; exact ⟨_, rfl, rfl, b1, e1, ⟨g1, g2, (g7 66 9 (by omega)).trans hT.flag.2.2.1, g4, g5, hT.2.2.2.2.2.1, g6⟩, Ly.flag.trans g7.ly, Nat.le_trans hT.2.2.2.1 g3, fun _ => ⟨by assumption, by assumption, g3⟩⟩)
          | (obtain ⟨b1, e1, g1, g2, g3, g4, g5, g6, g7⟩ := r11; exact ⟨_, rfl, rfl, b1, e1, ⟨g1, g2, (g7 66 9 (by omega)).trans hT.flag.2.2.1, g4, g5, hT.2.2.2.2.2.1, g6⟩, Ly.flag.trans g7.ly, Nat.le_trans hT.2.2.2.1 g3, fun _ => ⟨by assumption, by assumption, g3⟩⟩)
          | (obtain ⟨b1, e1, g1, g2, g3, g4, g5, g6, g7⟩ := r2; exact ⟨_, rfl, rfl, b1, e1, ⟨g1, g2, (g7 66 9 (by omega)).trans hT.flag.2.2.1, g4, g5, hT.2.2.2.2.2.1, g6⟩, Ly.flag.trans g7.ly, Nat.le_trans hT.2.2.2.1 g3, fun q => absurd (((g7 66 14 (by omega)).trans mp0).symm.trans q) (by decide)⟩)
          | (obtain ⟨b1, e1, g1, g2, g3, g4, g5, g6, g7⟩ := r3; exact ⟨_, rfl, rfl, b1, e1, ⟨g1, g2, (g7 66 9 (by omega)).trans hT.flag.2.2.1, g4, g5, hT.2.2.2.2.2.1, g6⟩, Ly.flag.trans g7.ly, Nat.le_trans hT.2.2.2.1 g3, fun q => absurd (((g7 66 14 (by omega)).trans mp0).symm.trans q) (by decide)⟩)
          | (obtain ⟨b1, e1, g1, g2, g3, g4, g5, g6, g7⟩ := r4; exact ⟨_, rfl, rfl, b1, e1, ⟨g1, g2, (g7 66 9 (by omega)).trans hT.flag.2.2.1, g4, g5, hT.2.2.2.2.2.1, g6⟩, Ly.flag.trans g7.ly, Nat.le_trans hT.2.2.2.1 g3, fun q => absurd (((g7 66 14 (by omega)).trans mp0).symm.trans q) (by decide)⟩)
          | (obtain ⟨b1, e1, g1, g2, g3, g4, g5, g6, g7⟩ := r5; exact ⟨_, rfl, rfl, b1, e1, ⟨g1, g2, (g7 66 9 (by omega)).trans hT.flag.2.2.1, g4, g5, hT.2.2.2.2.2.1, g6⟩, Ly.flag.trans g7.ly, Nat.le_trans hT.2.2.2.1 g3, fun q => absurd (((g7 66 14 (by omega)).trans mp0).symm.trans q) (by decide)⟩)
          | (obtain ⟨b1, e1, g1, g2, g3, g4, g5, g6, g7⟩ := r6; exact ⟨_, rfl, rfl, b1, e1, ⟨g1, g2, (g7 66 9 (by omega)).trans hT.flag.2.2.1, g4, g5, hT.2.2.2.2.2.1, g6⟩, Ly.flag.trans g7.ly, Nat.le_trans hT.2.2.2.1 g3, fun q => absurd (((g7 66 14 (by omega)).trans mp0).symm.trans q) (by decide)⟩)
          | (obtain ⟨b1, e1, g1, g2, g3, g4, g5, g6, g7⟩ := r7; exact ⟨_, rfl, rfl, b1, e1, ⟨g1, g2, (g7 66 9 (by omega)).trans hT.flag.2.2.1, g4, g5, hT.2.2.2.2.2.1, g6⟩, Ly.flag.trans g7.ly, Nat.le_trans hT.2.2.2.1 g3, fun q => absurd (((g7 66 14 (by omega)).trans mp0).symm.trans q) (by decide)⟩)
          | (obtain ⟨b1, e1, g1, g2, g3, g4, g5, g6, g7⟩ := r9; exact ⟨_, rfl, rfl, b1, e1, ⟨g1, g2, (g7 66 9 (by omega)).trans hT.flag.2.2.1, g4, g5, hT.2.2.2.2.2.1, g6⟩, Ly.flag.trans g7.ly, Nat.le_trans hT.2.2.2.1 g3, fun q => absurd (((g7 66 14 (by omega)).trans mp0).symm.trans q) (by decide)⟩)
          | (obtain ⟨b1, e1, g1, g2, g3, g4, g5, g6, g7⟩ := r10; exact ⟨_, rfl, rfl, b1, e1, ⟨g1, g2, (g7 66 9 (by omega)).trans hT.flag.2.2.1, g4, g5, hT.2.2.2.2.2.1, g6⟩, Ly.flag.trans g7.ly, Nat.le_trans hT.2.2.2.1 g3, fun q => absurd (((g7 66 14 (by omega)).trans mp0).symm.trans q) (by decide)⟩)
          | (obtain ⟨b1, e1, g1, g2, g3, g4, g5, g6, g7⟩ := r11; exact ⟨_, rfl, rfl, b1, e1, ⟨g1, g2, (g7 66 9 (by omega)).trans hT.flag.2.2.1, g4, g5, hT.2.2.2.2.2.1, g6⟩, Ly.flag.trans g7.ly, Nat.le_trans hT.2.2.2.1 g3, fun q => absurd (((g7 66 14 (by omega)).trans mp0).symm.trans q) (by decide)⟩)
theorem t228 {b e c : Nat} {lo hi : Int32} (hT : Tx b e c M) : ∃ v M', mT X 228 [.ref 66, .int lo, .int hi] (con M) (some (.int v)) (con M') ∧ ∃ b' e', Tx b' e' c M' ∧ Ly M M' ∧ b ≤ b' ∧ (M' 66 14 = 0 → M 66 14 = 0 ∧ (lo ≤ v ∧ v ≤ hi) ∧ e ≤ b') := by
  refine ti_of (row := _) rfl (Nat.le_of_ble_eq_true rfl) ?_
  have hm : mMet 228 = some _ := rfl
  refine x_aload_n hm rfl rfl ?_
  refine x_getf hm rfl (gI rfl rfl) ?_
  refine x_istore_n hm rfl rfl ?_
  refine x_aload_n hm rfl rfl ?_
  refine x_aload_n hm rfl rfl ?_
  refine x_getf hm rfl (gI rfl rfl) ?_
  refine x_iconst hm rfl (v := nI 2) (by decide) ?_
  refine x_icmp_ne hm rfl (t := 27) rfl (fun h1 => ?_) (fun h1 => ?_)
  · refine x_iconst hm rfl (v := nI 0) (by decide) ?_
    refine x_cVv hm rfl rfl (t226 hT) (fun M2 r2 => ?_)
    refine x_iload_n hm rfl rfl ?_
    refine x_iret hm rfl rfl (by first | rfl | exact bI_nar | decide) ?_
    first
      | (obtain ⟨b1, e1, g1, g2, g3, g4⟩ := r2; exact ⟨_, _, rfl, rfl, b1, e1, g1, g2, g3, fun q => ⟨(g4 q).1, by first | exact bI_ne0 (by assumption) | exact absurd rfl (g4 q).2.1, (g4 q).2.2⟩⟩)
      | (obtain ⟨b1, e1, g1, g2, g3, g4⟩ := r1; exact ⟨_, _, rfl, rfl, b1, e1, g1, g2, g3, fun q => ⟨(g4 q).1, by first | exact bI_ne0 (by assumption) | exact absurd rfl (g4 q).2.1, (g4 q).2.2⟩⟩)
      | (obtain ⟨b1, e1, g1, g2, g3, g4⟩ := r3; exact ⟨_, _, rfl, rfl, b1, e1, g1, g2, g3, fun q => ⟨(g4 q).1, by first | exact bI_ne0 (by assumption) | exact absurd rfl (g4 q).2.1, (g4 q).2.2⟩⟩)
      | (obtain ⟨b1, e1, g1, g2, g3, g4⟩ := r4; exact ⟨_, _, rfl, rfl, b1, e1, g1, g2, g3, fun q => ⟨(g4 q).1, by first | exact bI_ne0 (by assumption) | exact absurd rfl (g4 q).2.1, (g4 q).2.2⟩⟩)
      | (obtain ⟨b1, e1, g1, g2, g3, g4⟩ := r5; exact ⟨_, _, rfl, rfl, b1, e1, g1, g2, g3, fun q => ⟨(g4 q).1, by first | exact bI_ne0 (by assumption) | exact absurd rfl (g4 q).2.1, (g4 q).2.2⟩⟩)
      | (obtain ⟨b1, e1, g1, g2, g3, g4⟩ := r6; exact ⟨_, _, rfl, rfl, b1, e1, g1, g2, g3, fun q => ⟨(g4 q).1, by first | exact bI_ne0 (by assumption) | exact absurd rfl (g4 q).2.1, (g4 q).2.2⟩⟩)
      | (obtain ⟨b1, e1, g1, g2, g3, g4⟩ := r7; exact ⟨_, _, rfl, rfl, b1, e1, g1, g2, g3, fun q => ⟨(g4 q).1, by first | exact bI_ne0 (by assumption) | exact absurd rfl (g4 q).2.1, (g4 q).2.2⟩⟩)
      | (obtain ⟨b1, e1, g1, g2, g3, g4⟩ := r8; exact ⟨_, _, rfl, rfl, b1, e1, g1, g2, g3, fun q => ⟨(g4 q).1, by first | exact bI_ne0 (by assumption) | exact absurd rfl (g4 q).2.1, (g4 q).2.2⟩⟩)
      | (obtain ⟨b1, e1, g1, g2, g3, g4⟩ := r9; exact ⟨_, _, rfl, rfl, b1, e1, g1, g2, g3, fun q => ⟨(g4 q).1, by first | exact bI_ne0 (by assumption) | exact absurd rfl (g4 q).2.1, (g4 q).2.2⟩⟩)
  · refine x_iload_n hm rfl rfl ?_
    refine x_iload_n hm rfl rfl ?_
    refine x_iload_n hm rfl rfl ?_
    refine x_callS hm rfl rfl (t133) ?_
    refine x_if_eq hm rfl (t := 27) rfl (fun h3 => ?_) (fun h3 => ?_)
    · refine x_iconst hm rfl (v := nI 0) (by decide) ?_
      refine x_cVv hm rfl rfl (t226 hT) (fun M4 r4 => ?_)
      refine x_iload_n hm rfl rfl ?_
      refine x_iret hm rfl rfl (by first | rfl | exact bI_nar | decide) ?_
      first
        | (obtain ⟨b1, e1, g1, g2, g3, g4⟩ := r4; exact ⟨_, _, rfl, rfl, b1, e1, g1, g2, g3, fun q => ⟨(g4 q).1, by first | exact bI_ne0 (by assumption) | exact absurd rfl (g4 q).2.1, (g4 q).2.2⟩⟩)
        | (obtain ⟨b1, e1, g1, g2, g3, g4⟩ := r1; exact ⟨_, _, rfl, rfl, b1, e1, g1, g2, g3, fun q => ⟨(g4 q).1, by first | exact bI_ne0 (by assumption) | exact absurd rfl (g4 q).2.1, (g4 q).2.2⟩⟩)
        | (obtain ⟨b1, e1, g1, g2, g3, g4⟩ := r2; exact ⟨_, _, rfl, rfl, b1, e1, g1, g2, g3, fun q => ⟨(g4 q).1, by first | exact bI_ne0 (by assumption) | exact absurd rfl (g4 q).2.1, (g4 q).2.2⟩⟩)
        | (obtain ⟨b1, e1, g1, g2, g3, g4⟩ := r3; exact ⟨_, _, rfl, rfl, b1, e1, g1, g2, g3, fun q => ⟨(g4 q).1, by first | exact bI_ne0 (by assumption) | exact absurd rfl (g4 q).2.1, (g4 q).2.2⟩⟩)
        | (obtain ⟨b1, e1, g1, g2, g3, g4⟩ := r5; exact ⟨_, _, rfl, rfl, b1, e1, g1, g2, g3, fun q => ⟨(g4 q).1, by first | exact bI_ne0 (by assumption) | exact absurd rfl (g4 q).2.1, (g4 q).2.2⟩⟩)
        | (obtain ⟨b1, e1, g1, g2, g3, g4⟩ := r6; exact ⟨_, _, rfl, rfl, b1, e1, g1, g2, g3, fun q => ⟨(g4 q).1, by first | exact bI_ne0 (by assumption) | exact absurd rfl (g4 q).2.1, (g4 q).2.2⟩⟩)
        | (obtain ⟨b1, e1, g1, g2, g3, g4⟩ := r7; exact ⟨_, _, rfl, rfl, b1, e1, g1, g2, g3, fun q => ⟨(g4 q).1, by first | exact bI_ne0 (by assumption) | exact absurd rfl (g4 q).2.1, (g4 q).2.2⟩⟩)
        | (obtain ⟨b1, e1, g1, g2, g3, g4⟩ := r8; exact ⟨_, _, rfl, rfl, b1, e1, g1, g2, g3, fun q => ⟨(g4 q).1, by first | exact bI_ne0 (by assumption) | exact absurd rfl (g4 q).2.1, (g4 q).2.2⟩⟩)
        | (obtain ⟨b1, e1, g1, g2, g3, g4⟩ := r9; exact ⟨_, _, rfl, rfl, b1, e1, g1, g2, g3, fun q => ⟨(g4 q).1, by first | exact bI_ne0 (by assumption) | exact absurd rfl (g4 q).2.1, (g4 q).2.2⟩⟩)
    · refine x_iconst hm rfl (v := nI 1) (by decide) ?_
      refine x_goto hm rfl (t := 28) rfl ?_
      refine x_cVv hm rfl rfl (t226 hT) (fun M5 r5 => ?_)
      refine x_iload_n hm rfl rfl ?_
      refine x_iret hm rfl rfl (by first | rfl | exact bI_nar | decide) ?_
      first
        | (obtain ⟨b1, e1, g1, g2, g3, g4⟩ := r5; exact ⟨_, _, rfl, rfl, b1, e1, g1, g2, g3, fun q => ⟨(g4 q).1, by first | exact bI_ne0 (by assumption) | exact absurd rfl (g4 q).2.1, (g4 q).2.2⟩⟩)
        | (obtain ⟨b1, e1, g1, g2, g3, g4⟩ := r1; exact ⟨_, _, rfl, rfl, b1, e1, g1, g2, g3, fun q => ⟨(g4 q).1, by first | exact bI_ne0 (by assumption) | exact absurd rfl (g4 q).2.1, (g4 q).2.2⟩⟩)
        | (obtain ⟨b1, e1, g1, g2, g3, g4⟩ := r2; exact ⟨_, _, rfl, rfl, b1, e1, g1, g2, g3, fun q => ⟨(g4 q).1, by first | exact bI_ne0 (by assumption) | exact absurd rfl (g4 q).2.1, (g4 q).2.2⟩⟩)
        | (obtain ⟨b1, e1, g1, g2, g3, g4⟩ := r3; exact ⟨_, _, rfl, rfl, b1, e1, g1, g2, g3, fun q => ⟨(g4 q).1, by first | exact bI_ne0 (by assumption) | exact absurd rfl (g4 q).2.1, (g4 q).2.2⟩⟩)
        | (obtain ⟨b1, e1, g1, g2, g3, g4⟩ := r4; exact ⟨_, _, rfl, rfl, b1, e1, g1, g2, g3, fun q => ⟨(g4 q).1, by first | exact bI_ne0 (by assumption) | exact absurd rfl (g4 q).2.1, (g4 q).2.2⟩⟩)
        | (obtain ⟨b1, e1, g1, g2, g3, g4⟩ := r6; exact ⟨_, _, rfl, rfl, b1, e1, g1, g2, g3, fun q => ⟨(g4 q).1, by first | exact bI_ne0 (by assumption) | exact absurd rfl (g4 q).2.1, (g4 q).2.2⟩⟩)
        | (obtain ⟨b1, e1, g1, g2, g3, g4⟩ := r7; exact ⟨_, _, rfl, rfl, b1, e1, g1, g2, g3, fun q => ⟨(g4 q).1, by first | exact bI_ne0 (by assumption) | exact absurd rfl (g4 q).2.1, (g4 q).2.2⟩⟩)
        | (obtain ⟨b1, e1, g1, g2, g3, g4⟩ := r8; exact ⟨_, _, rfl, rfl, b1, e1, g1, g2, g3, fun q => ⟨(g4 q).1, by first | exact bI_ne0 (by assumption) | exact absurd rfl (g4 q).2.1, (g4 q).2.2⟩⟩)
        | (obtain ⟨b1, e1, g1, g2, g3, g4⟩ := r9; exact ⟨_, _, rfl, rfl, b1, e1, g1, g2, g3, fun q => ⟨(g4 q).1, by first | exact bI_ne0 (by assumption) | exact absurd rfl (g4 q).2.1, (g4 q).2.2⟩⟩)
end RN
end
section
/-! ===== the reference: words ===== -/
section RO
variable {X : mSc} {Q : Option Value → mHp → Prop} {M : mM}
theorem tx_at {t : Nat} (ht : t < 15) : mChr (1000000 + t) = some (mTx.getD t []) := by
  unfold mChr
  rw [Nat.ble_eq_true_of_le (by omega), Nat.add_sub_cancel_left]
  have hl : mTx.length = 15 := by decide +kernel
  show mTx[t]? = _
  rw [List.getD_eq_getElem?_getD, List.getElem?_eq_getElem (by omega)]
  rfl
theorem len_call {ins : Instr} {len j a n pc t : Nat} {z : Int} {L : mLoc} {r : List Value} {D : mHp} (ht : t < 15) (hw : Nat.ble (mWt r) 8 = true) : mCall (ins, len, j, 22, a, n, z) true pc L (.ref (1000000 + t) :: r) D = some (.inl (pc + 3, L, .int (nI (mTx.getD t []).length) :: r, D)) := by
  unfold mCall
  dsimp only
  rw [tx_at ht]
  dsimp only
  rw [hw]
  rfl
theorem chr_call {ins : Instr} {len j a n pc t k : Nat} {z : Int} {L : mLoc} {r : List Value} {D : mHp} (ht : t < 15) (hw : Nat.ble (mWt r) 8 = true) (hk : k < (mTx.getD t []).length) : mCall (ins, len, j, 23, a, n, z) true pc L (.int (nI k) :: .ref (1000000 + t) :: r) D = some (.inl (pc + 3, L, .int (nI ((mTx.getD t []).getD k 0)) :: r, D)) := by
  unfold mCall
  dsimp only
  rw [tx_at ht]
  dsimp only
  rw [hw, jI_out hk (mTx_le t), jI_nat (by have := mTx_le t; omega)]
  rfl
theorem subI {a b : Nat} (h : a ≤ b) : nI b - nI a = nI (b - a) := sub_k h
theorem l225 {b e c t : Nat} (hT : Tx b e c M) (ht : t < 15) : ∀ (n k : Nat) (g : Int32), (mTx.getD t []).length - k < n → k ≤ (mTx.getD t []).length → (g = nI 0 ∨ (g = nI 1 ∧ M 66 12 = nI 1 ∧ e - b = (mTx.getD t []).length)) → mEv X (QE M (fun v => v = nI 0 ∨ (v = nI 1 ∧ M 66 12 = nI 1 ∧ b < e))) 225 32 [some (.ref 66), some (.ref (1000000 + t)), some (.int g), some (.int (nI k))] [] (con M) := by
  have hm : mMet 225 = some _ := rfl
  intro n
  induction n with
  | zero =>
    intro k g hkn hkb hg
    omega
  | succ n ih =>
    intro k g hkn hkb hg
    have hle := mTx_le t
    have h01 : g = nI 0 ∨ g = nI 1 := hg.imp id (fun q => q.1)
    refine x_iload_n hm rfl rfl ?_
    refine x_aload_n hm rfl rfl ?_
    refine x_libV hm rfl (len_call ht rfl) ?_
    dsimp only
    refine x_icmp_ge hm rfl (t := 75) rfl (fun h1 => ?_) (fun h1 => ?_)
    · refine x_iload_n hm rfl rfl ?_
      refine x_iret hm rfl rfl (nar01 h01) ?_
      exact ⟨_, rfl, rfl, hg.imp id (fun q => ⟨q.1, q.2.1, hT.2.2.2.2.2.2 (by rw [q.2.1]; decide)⟩)⟩ --stop
    · have hk : k < (mTx.getD t []).length := Nat.lt_of_not_le fun h => h1 (nI_le h (by omega))
      refine x_iload_n hm rfl rfl ?_
      refine x_if_eq hm rfl (t := 75) rfl (fun h2 => ?_) (fun h2 => ?_)
      · refine x_iload_n hm rfl rfl ?_
        refine x_iret hm rfl rfl (nar01 h01) ?_
        exact ⟨_, rfl, rfl, hg.imp id (fun q => ⟨q.1, q.2.1, hT.2.2.2.2.2.2 (by rw [q.2.1]; decide)⟩)⟩ --stop
      · obtain ⟨hg1, hs1, hlen⟩ := hg.resolve_left (fun q => h2 (by rw [q]; rfl))
        obtain ⟨x1, x2, x3, x4, x5, x6, x7⟩ := id hT
        refine x_aload_n hm rfl rfl ?_
        refine x_getf hm rfl (gR rfl rfl) ?_
        refine x_aload_n hm rfl rfl ?_
        refine x_getf hm rfl (gI rfl rfl) ?_
        rw [x1]
        refine x_iload_n hm rfl rfl ?_
        refine x_iadd hm rfl ?_
        rw [jI_add]
        refine x_iald hm rfl (lI rfl (by omega) (by decide)) ?_
        refine x_aload_n hm rfl rfl ?_
        refine x_iload_n hm rfl rfl ?_
        refine x_libV hm rfl (chr_call ht rfl hk) ?_
        dsimp only
        refine x_icmp_ne hm rfl (t := 67) rfl (fun h3 => ?_) (fun h3 => ?_)
        · refine x_iconst hm rfl (v := nI 0) (by decide) ?_
          refine x_istore_n hm rfl rfl ?_
          refine x_iinc hm rfl rfl (v := nI 1) (by decide) rfl ?_
          rw [jI_add]
          refine x_goto hm rfl (t := 32) rfl ?_
          exact ih _ _ (by omega) (by omega) (by first | exact Or.inl rfl | exact Or.inr ⟨rfl, hs1, hlen⟩)
        · refine x_iconst hm rfl (v := nI 1) (by decide) ?_
          refine x_goto hm rfl (t := 68) rfl ?_
          refine x_istore_n hm rfl rfl ?_
          refine x_iinc hm rfl rfl (v := nI 1) (by decide) rfl ?_
          rw [jI_add]
          refine x_goto hm rfl (t := 32) rfl ?_
          exact ih _ _ (by omega) (by omega) (by first | exact Or.inl rfl | exact Or.inr ⟨rfl, hs1, hlen⟩)
theorem t225 {b e c t : Nat} (hT : Tx b e c M) (ht : t < 15) : ∃ v, mT X 225 [.ref 66, .ref (1000000 + t)] (con M) (some (.int v)) (con M) ∧ (v = nI 0 ∨ (v = nI 1 ∧ M 66 12 = nI 1 ∧ b < e)) := by
  refine te_of (row := _) rfl (Nat.le_of_ble_eq_true rfl) ?_
  have hm : mMet 225 = some _ := rfl
  obtain ⟨x1, x2, x3, x4, x5, x6, x7⟩ := id hT
  have hle := mTx_le t
  refine x_aload_n hm rfl rfl ?_
  refine x_getf hm rfl (gI rfl rfl) ?_
  refine x_iconst hm rfl (v := nI 1) (by decide) ?_
  refine x_icmp_ne hm rfl (t := 28) rfl (fun h1 => ?_) (fun h1 => ?_)
  · refine x_iconst hm rfl (v := nI 0) (by decide) ?_
    refine x_istore_n hm rfl rfl ?_
    refine x_iconst hm rfl (v := nI 0) (by decide) ?_
    refine x_istore_n hm rfl rfl ?_
    first
      | exact l225 hT ht _ 0 _ (Nat.lt_succ_self _) (Nat.zero_le _) (Or.inl rfl)
      | exact l225 hT ht _ 0 _ (Nat.lt_succ_self _) (Nat.zero_le _) (Or.inr ⟨rfl, hs1, hlen⟩)
  · have hs1 := h1
    refine x_aload_n hm rfl rfl ?_
    refine x_getf hm rfl (gI rfl rfl) ?_
    rw [x2]
    refine x_aload_n hm rfl rfl ?_
    refine x_getf hm rfl (gI rfl rfl) ?_
    rw [x1]
    refine x_isub hm rfl ?_
    rw [subI x4]
    refine x_aload_n hm rfl rfl ?_
    refine x_libV hm rfl (len_call ht rfl) ?_
    dsimp only
    refine x_icmp_ne hm rfl (t := 28) rfl (fun h2 => ?_) (fun h2 => ?_)
    · refine x_iconst hm rfl (v := nI 0) (by decide) ?_
      refine x_istore_n hm rfl rfl ?_
      refine x_iconst hm rfl (v := nI 0) (by decide) ?_
      refine x_istore_n hm rfl rfl ?_
      first
        | exact l225 hT ht _ 0 _ (Nat.lt_succ_self _) (Nat.zero_le _) (Or.inl rfl)
        | exact l225 hT ht _ 0 _ (Nat.lt_succ_self _) (Nat.zero_le _) (Or.inr ⟨rfl, hs1, hlen⟩)
    · have hlen := jI_inj (by omega) (by omega) h2
      refine x_iconst hm rfl (v := nI 1) (by decide) ?_
      refine x_goto hm rfl (t := 29) rfl ?_
      refine x_istore_n hm rfl rfl ?_
      refine x_iconst hm rfl (v := nI 0) (by decide) ?_
      refine x_istore_n hm rfl rfl ?_
      first
        | exact l225 hT ht _ 0 _ (Nat.lt_succ_self _) (Nat.zero_le _) (Or.inl rfl)
        | exact l225 hT ht _ 0 _ (Nat.lt_succ_self _) (Nat.zero_le _) (Or.inr ⟨rfl, hs1, hlen⟩)
def kt (k : Nat) : Nat := if k = 0 then 7 else k
theorem kt_lt {k : Nat} (h : k < 7) : kt k < 15 := by
  unfold kt
  split <;> omega
theorem knk {k : Nat} (hk : k < 7) : ([1000007, 1000001, 1000002, 1000003, 1000004, 1000005, 1000006] : List Nat)[k]? = some (1000000 + kt k) := by
  rcases (by omega : k = 0 ∨ k = 1 ∨ k = 2 ∨ k = 3 ∨ k = 4 ∨ k = 5 ∨ k = 6) with rfl | rfl | rfl | rfl | rfl | rfl | rfl <;> rfl
theorem l224 {b e c : Nat} (hT : Tx b e c M) : ∀ (n k : Nat) (g : Int32), 7 - k < n → k ≤ 7 → (g = -1 ∨ ∃ k, k < 7 ∧ g = nI k ∧ M 66 12 = nI 1 ∧ b < e) → mEv X (QE M (fun v => (v = -1 ∨ ∃ k, k < 7 ∧ v = nI k ∧ M 66 12 = nI 1 ∧ b < e))) 224 4 [some (.ref 66), some (.int g), some (.int (nI k))] [] (con M) := by
  have hm : mMet 224 = some _ := rfl
  intro n
  induction n with
  | zero =>
    intro k g hkn hkb hg
    omega
  | succ n ih =>
    intro k g hkn hkb hg
    refine x_iload_n hm rfl rfl ?_
    refine x_aload_n hm rfl rfl ?_
    refine x_getf hm rfl (gR rfl rfl) ?_
    refine x_alen hm rfl (gLen _ rfl rfl) ?_
    refine x_icmp_ge hm rfl (t := 38) rfl (fun h1 => ?_) (fun h1 => ?_)
    · refine x_iload_n hm rfl rfl ?_
      refine x_iret hm rfl rfl (by first | rfl | exact bI_nar | decide) ?_
      exact ⟨_, rfl, rfl, hg⟩
    · have hk : k < 7 := Nat.lt_of_not_le fun h => h1 (nI_le h (by omega))
      refine x_aload_n hm rfl rfl ?_
      refine x_aload_n hm rfl rfl ?_
      refine x_getf hm rfl (gR rfl rfl) ?_
      refine x_iload_n hm rfl rfl ?_
      refine x_aald (v := .ref (1000000 + kt k)) hm rfl ?_ ?_
      · exact lQ 4 (Or.inr (Or.inr rfl)) rfl (knk hk) hk (by decide)
      refine x_cVe hm rfl rfl (t225 hT (kt_lt hk)) (fun v2 r2 => ?_)
      refine x_if_eq hm rfl (t := 30) rfl (fun h3 => ?_) (fun h3 => ?_)
      · refine x_iload_n hm rfl rfl ?_
        refine x_istore_n hm rfl rfl ?_
        refine x_iinc hm rfl rfl (v := nI 1) (by decide) rfl ?_
        rw [jI_add]
        refine x_goto hm rfl (t := 4) rfl ?_
        first
          | exact ih _ _ (by omega) (by omega) (Or.inr ⟨k, hk, rfl, (r2.resolve_left (fun q => by subst q; exact absurd (by decide : nI 0 = (0 : Int32)) (by assumption))).2⟩)
          | exact ih _ _ (by omega) (by omega) hg
          | exact ih _ _ (by omega) (by omega) (Or.inr ⟨k, hk, rfl, (r1.resolve_left (fun q => by subst q; exact absurd (by decide : nI 0 = (0 : Int32)) (by assumption))).2⟩)
          | exact ih _ _ (by omega) (by omega) (Or.inr ⟨k, hk, rfl, (r3.resolve_left (fun q => by subst q; exact absurd (by decide : nI 0 = (0 : Int32)) (by assumption))).2⟩)
          | exact ih _ _ (by omega) (by omega) (Or.inr ⟨k, hk, rfl, (r4.resolve_left (fun q => by subst q; exact absurd (by decide : nI 0 = (0 : Int32)) (by assumption))).2⟩)
          | exact ih _ _ (by omega) (by omega) (Or.inr ⟨k, hk, rfl, (r5.resolve_left (fun q => by subst q; exact absurd (by decide : nI 0 = (0 : Int32)) (by assumption))).2⟩)
      · refine x_iload_n hm rfl rfl ?_
        refine x_goto hm rfl (t := 31) rfl ?_
        refine x_istore_n hm rfl rfl ?_
        refine x_iinc hm rfl rfl (v := nI 1) (by decide) rfl ?_
        rw [jI_add]
        refine x_goto hm rfl (t := 4) rfl ?_
        first
          | exact ih _ _ (by omega) (by omega) (Or.inr ⟨k, hk, rfl, (r2.resolve_left (fun q => by subst q; exact absurd (by decide : nI 0 = (0 : Int32)) (by assumption))).2⟩)
          | exact ih _ _ (by omega) (by omega) hg
          | exact ih _ _ (by omega) (by omega) (Or.inr ⟨k, hk, rfl, (r1.resolve_left (fun q => by subst q; exact absurd (by decide : nI 0 = (0 : Int32)) (by assumption))).2⟩)
          | exact ih _ _ (by omega) (by omega) (Or.inr ⟨k, hk, rfl, (r3.resolve_left (fun q => by subst q; exact absurd (by decide : nI 0 = (0 : Int32)) (by assumption))).2⟩)
          | exact ih _ _ (by omega) (by omega) (Or.inr ⟨k, hk, rfl, (r4.resolve_left (fun q => by subst q; exact absurd (by decide : nI 0 = (0 : Int32)) (by assumption))).2⟩)
          | exact ih _ _ (by omega) (by omega) (Or.inr ⟨k, hk, rfl, (r5.resolve_left (fun q => by subst q; exact absurd (by decide : nI 0 = (0 : Int32)) (by assumption))).2⟩)
theorem t224 {b e c : Nat} (hT : Tx b e c M) : ∃ v, mT X 224 [.ref 66] (con M) (some (.int v)) (con M) ∧ (v = -1 ∨ ∃ k, k < 7 ∧ v = nI k ∧ M 66 12 = nI 1 ∧ b < e) := by
  refine te_of (row := _) rfl (Nat.le_of_ble_eq_true rfl) ?_
  have hm : mMet 224 = some _ := rfl
  refine x_iconst hm rfl (v := (-1 : Int32)) (by decide) ?_
  refine x_istore_n hm rfl rfl ?_
  refine x_iconst hm rfl (v := nI 0) (by decide) ?_
  refine x_istore_n hm rfl rfl ?_
  exact l224 hT _ 0 _ (Nat.lt_succ_self _) (Nat.zero_le _) (Or.inl rfl)
theorem t227 {b e c t : Nat} {w lo hi : Int32} (hT : Tx b e c M) (ht : t < 15) : ∃ v M', mT X 227 [.ref 66, .ref (1000000 + t), .int w, .int lo, .int hi] (con M) (some (.int v)) (con M') ∧ ∃ b' e', Tx b' e' c M' ∧ Ly M M' ∧ b ≤ b' ∧ (M' 66 14 = 0 → M 66 14 = 0 ∧ (v = w ∨ (lo ≤ v ∧ v ≤ hi))) := by
  refine ti_of (row := _) rfl (Nat.le_of_ble_eq_true rfl) ?_
  have hm : mMet 227 = some _ := rfl
  refine x_aload_n hm rfl rfl ?_
  refine x_getf hm rfl (gI rfl rfl) ?_
  refine x_if_ne hm rfl (t := 15) rfl (fun h1 => ?_) (fun h1 => ?_)
  · refine x_iload_n hm rfl rfl ?_
    refine x_iret hm rfl rfl (by first | rfl | exact bI_nar | decide) ?_
    first
      | exact ⟨_, _, rfl, rfl, b, e, hT, Ly.rf, Nat.le_refl _, fun q => ⟨q, Or.inl rfl⟩⟩
      | (obtain ⟨b2, e2, k1, k2, k3, k4⟩ := r1; exact ⟨_, _, rfl, rfl, b2, e2, k1, g2.trans k2, Nat.le_trans g3 k3, fun q => ⟨(g4 (k4 q).1).1, Or.inr (k4 q).2.1⟩⟩)
      | (obtain ⟨b2, e2, k1, k2, k3, k4⟩ := r2; exact ⟨_, _, rfl, rfl, b2, e2, k1, g2.trans k2, Nat.le_trans g3 k3, fun q => ⟨(g4 (k4 q).1).1, Or.inr (k4 q).2.1⟩⟩)
      | (obtain ⟨b2, e2, k1, k2, k3, k4⟩ := r3; exact ⟨_, _, rfl, rfl, b2, e2, k1, g2.trans k2, Nat.le_trans g3 k3, fun q => ⟨(g4 (k4 q).1).1, Or.inr (k4 q).2.1⟩⟩)
      | (obtain ⟨b2, e2, k1, k2, k3, k4⟩ := r4; exact ⟨_, _, rfl, rfl, b2, e2, k1, g2.trans k2, Nat.le_trans g3 k3, fun q => ⟨(g4 (k4 q).1).1, Or.inr (k4 q).2.1⟩⟩)
      | (obtain ⟨b2, e2, k1, k2, k3, k4⟩ := r5; exact ⟨_, _, rfl, rfl, b2, e2, k1, g2.trans k2, Nat.le_trans g3 k3, fun q => ⟨(g4 (k4 q).1).1, Or.inr (k4 q).2.1⟩⟩)
      | (obtain ⟨b2, e2, k1, k2, k3, k4⟩ := r6; exact ⟨_, _, rfl, rfl, b2, e2, k1, g2.trans k2, Nat.le_trans g3 k3, fun q => ⟨(g4 (k4 q).1).1, Or.inr (k4 q).2.1⟩⟩)
      | (obtain ⟨b2, e2, k1, k2, k3, k4⟩ := r7; exact ⟨_, _, rfl, rfl, b2, e2, k1, g2.trans k2, Nat.le_trans g3 k3, fun q => ⟨(g4 (k4 q).1).1, Or.inr (k4 q).2.1⟩⟩)
      | (obtain ⟨b2, e2, k1, k2, k3, k4⟩ := r8; exact ⟨_, _, rfl, rfl, b2, e2, k1, g2.trans k2, Nat.le_trans g3 k3, fun q => ⟨(g4 (k4 q).1).1, Or.inr (k4 q).2.1⟩⟩)
      | (obtain ⟨b2, e2, k1, k2, k3, k4⟩ := r9; exact ⟨_, _, rfl, rfl, b2, e2, k1, g2.trans k2, Nat.le_trans g3 k3, fun q => ⟨(g4 (k4 q).1).1, Or.inr (k4 q).2.1⟩⟩)
  · refine x_aload_n hm rfl rfl ?_
    refine x_aload_n hm rfl rfl ?_
    refine x_cVe hm rfl rfl (t225 hT ht) (fun v2 r2 => ?_)
    refine x_if_ne hm rfl (t := 17) rfl (fun h3 => ?_) (fun h3 => ?_)
    · refine x_aload_n hm rfl rfl ?_
      refine x_iconst hm rfl (v := nI 1) (by decide) ?_
      refine x_cVv hm rfl rfl (t226 hT) (fun M4 r4 => ?_)
      refine x_aload_n hm rfl rfl ?_
      obtain ⟨b1, e1, hT2, g2, g3, g4⟩ := r4
      refine x_iload_n hm rfl rfl ?_
      refine x_iload hm rfl rfl ?_
      refine x_cVi hm rfl rfl (t228 hT2) (fun v5 M5 r5 => ?_)
      refine x_iret hm rfl rfl (by first | rfl | exact bI_nar | decide) ?_
      first
        | (obtain ⟨b2, e2, k1, k2, k3, k4⟩ := r5; exact ⟨_, _, rfl, rfl, b2, e2, k1, g2.trans k2, Nat.le_trans g3 k3, fun q => ⟨(g4 (k4 q).1).1, Or.inr (k4 q).2.1⟩⟩)
        | exact ⟨_, _, rfl, rfl, b, e, hT, Ly.rf, Nat.le_refl _, fun q => ⟨q, Or.inl rfl⟩⟩
        | (obtain ⟨b2, e2, k1, k2, k3, k4⟩ := r2; exact ⟨_, _, rfl, rfl, b2, e2, k1, g2.trans k2, Nat.le_trans g3 k3, fun q => ⟨(g4 (k4 q).1).1, Or.inr (k4 q).2.1⟩⟩)
        | (obtain ⟨b2, e2, k1, k2, k3, k4⟩ := r4; exact ⟨_, _, rfl, rfl, b2, e2, k1, g2.trans k2, Nat.le_trans g3 k3, fun q => ⟨(g4 (k4 q).1).1, Or.inr (k4 q).2.1⟩⟩)
        | (obtain ⟨b2, e2, k1, k2, k3, k4⟩ := r1; exact ⟨_, _, rfl, rfl, b2, e2, k1, g2.trans k2, Nat.le_trans g3 k3, fun q => ⟨(g4 (k4 q).1).1, Or.inr (k4 q).2.1⟩⟩)
        | (obtain ⟨b2, e2, k1, k2, k3, k4⟩ := r3; exact ⟨_, _, rfl, rfl, b2, e2, k1, g2.trans k2, Nat.le_trans g3 k3, fun q => ⟨(g4 (k4 q).1).1, Or.inr (k4 q).2.1⟩⟩)
        | (obtain ⟨b2, e2, k1, k2, k3, k4⟩ := r6; exact ⟨_, _, rfl, rfl, b2, e2, k1, g2.trans k2, Nat.le_trans g3 k3, fun q => ⟨(g4 (k4 q).1).1, Or.inr (k4 q).2.1⟩⟩)
        | (obtain ⟨b2, e2, k1, k2, k3, k4⟩ := r7; exact ⟨_, _, rfl, rfl, b2, e2, k1, g2.trans k2, Nat.le_trans g3 k3, fun q => ⟨(g4 (k4 q).1).1, Or.inr (k4 q).2.1⟩⟩)
        | (obtain ⟨b2, e2, k1, k2, k3, k4⟩ := r8; exact ⟨_, _, rfl, rfl, b2, e2, k1, g2.trans k2, Nat.le_trans g3 k3, fun q => ⟨(g4 (k4 q).1).1, Or.inr (k4 q).2.1⟩⟩)
        | (obtain ⟨b2, e2, k1, k2, k3, k4⟩ := r9; exact ⟨_, _, rfl, rfl, b2, e2, k1, g2.trans k2, Nat.le_trans g3 k3, fun q => ⟨(g4 (k4 q).1).1, Or.inr (k4 q).2.1⟩⟩)
    · refine x_iload_n hm rfl rfl ?_
      refine x_iret hm rfl rfl (by first | rfl | exact bI_nar | decide) ?_
      first
        | (obtain ⟨b2, e2, k1, k2, k3, k4⟩ := r2; exact ⟨_, _, rfl, rfl, b2, e2, k1, g2.trans k2, Nat.le_trans g3 k3, fun q => ⟨(g4 (k4 q).1).1, Or.inr (k4 q).2.1⟩⟩)
        | exact ⟨_, _, rfl, rfl, b, e, hT, Ly.rf, Nat.le_refl _, fun q => ⟨q, Or.inl rfl⟩⟩
        | (obtain ⟨b2, e2, k1, k2, k3, k4⟩ := r1; exact ⟨_, _, rfl, rfl, b2, e2, k1, g2.trans k2, Nat.le_trans g3 k3, fun q => ⟨(g4 (k4 q).1).1, Or.inr (k4 q).2.1⟩⟩)
        | (obtain ⟨b2, e2, k1, k2, k3, k4⟩ := r3; exact ⟨_, _, rfl, rfl, b2, e2, k1, g2.trans k2, Nat.le_trans g3 k3, fun q => ⟨(g4 (k4 q).1).1, Or.inr (k4 q).2.1⟩⟩)
        | (obtain ⟨b2, e2, k1, k2, k3, k4⟩ := r4; exact ⟨_, _, rfl, rfl, b2, e2, k1, g2.trans k2, Nat.le_trans g3 k3, fun q => ⟨(g4 (k4 q).1).1, Or.inr (k4 q).2.1⟩⟩)
        | (obtain ⟨b2, e2, k1, k2, k3, k4⟩ := r5; exact ⟨_, _, rfl, rfl, b2, e2, k1, g2.trans k2, Nat.le_trans g3 k3, fun q => ⟨(g4 (k4 q).1).1, Or.inr (k4 q).2.1⟩⟩)
        | (obtain ⟨b2, e2, k1, k2, k3, k4⟩ := r6; exact ⟨_, _, rfl, rfl, b2, e2, k1, g2.trans k2, Nat.le_trans g3 k3, fun q => ⟨(g4 (k4 q).1).1, Or.inr (k4 q).2.1⟩⟩)
        | (obtain ⟨b2, e2, k1, k2, k3, k4⟩ := r7; exact ⟨_, _, rfl, rfl, b2, e2, k1, g2.trans k2, Nat.le_trans g3 k3, fun q => ⟨(g4 (k4 q).1).1, Or.inr (k4 q).2.1⟩⟩)
        | (obtain ⟨b2, e2, k1, k2, k3, k4⟩ := r8; exact ⟨_, _, rfl, rfl, b2, e2, k1, g2.trans k2, Nat.le_trans g3 k3, fun q => ⟨(g4 (k4 q).1).1, Or.inr (k4 q).2.1⟩⟩)
        | (obtain ⟨b2, e2, k1, k2, k3, k4⟩ := r9; exact ⟨_, _, rfl, rfl, b2, e2, k1, g2.trans k2, Nat.le_trans g3 k3, fun q => ⟨(g4 (k4 q).1).1, Or.inr (k4 q).2.1⟩⟩)
end RO
end
section
/-! ===== the reference: items ===== -/
section RP
variable {X : mSc} {Q : Option Value → mHp → Prop} {M : mM}
def it7 (M : mM) (m : Nat) (w a b c d e f : Int32) : mM := mput (mput (mput (mput (mput (mput (mput (mput M 75 (7 * m) w) 75 (7 * m + 1) a) 75 (7 * m + 2) b) 75 (7 * m + 3) c) 75 (7 * m + 4) d) 75 (7 * m + 5) e) 75 (7 * m + 6) f) 66 17 (nI (m + 1))
theorem it7_1 {m : Nat} {w a b c d e f : Int32} : mput (mput (mput (mput (mput (mput (mput M 75 (7 * m) w) 75 (7 * m + 1) a) 75 (7 * m + 2) b) 75 (7 * m + 3) c) 75 (7 * m + 4) d) 75 (7 * m + 5) e) 75 (7 * m + 6) f 66 17 = M 66 17 := by
  rw [mput_ne (by decide), mput_ne (by decide), mput_ne (by decide), mput_ne (by decide), mput_ne (by decide), mput_ne (by decide), mput_ne (by decide)]
theorem t229 {m : Nat} {w a b c d e f : Int32} (hm17 : M 66 17 = nI m) (hm1 : m < 120) : mT X 229 [.ref 66, .int w, .int a, .int b, .int c, .int d, .int e, .int f] (con M) none (con (it7 M m w a b c d e f)) := by
  refine mT.of (row := _) rfl (Nat.le_of_ble_eq_true rfl) ?_
  have hm : mMet 229 = some _ := rfl
  refine x_bipush hm rfl (v := nI 7) (by decide) ?_
  refine x_aload_n hm rfl rfl ?_
  refine x_getf hm rfl (gI rfl rfl) ?_
  rw [hm17]
  refine x_imul hm rfl ?_
  rw [jI_mul]
  refine x_istore hm rfl rfl ?_
  refine x_aload_n hm rfl rfl ?_
  refine x_getf hm rfl (gR rfl rfl) ?_
  refine x_iload hm rfl rfl ?_
  refine x_iload_n hm rfl rfl ?_
  refine x_iast hm rfl (sI rfl (by omega) (by decide)) ?_
  refine x_aload_n hm rfl rfl ?_
  refine x_getf hm rfl (gR rfl rfl) ?_
  refine x_iload hm rfl rfl ?_
  refine x_iconst hm rfl (v := nI 1) (by decide) ?_
  refine x_iadd hm rfl ?_
  rw [jI_add]
  refine x_iload_n hm rfl rfl ?_
  refine x_iast hm rfl (sI rfl (by omega) (by decide)) ?_
  refine x_aload_n hm rfl rfl ?_
  refine x_getf hm rfl (gR rfl rfl) ?_
  refine x_iload hm rfl rfl ?_
  refine x_iconst hm rfl (v := nI 2) (by decide) ?_
  refine x_iadd hm rfl ?_
  rw [jI_add]
  refine x_iload_n hm rfl rfl ?_
  refine x_iast hm rfl (sI rfl (by omega) (by decide)) ?_
  refine x_aload_n hm rfl rfl ?_
  refine x_getf hm rfl (gR rfl rfl) ?_
  refine x_iload hm rfl rfl ?_
  refine x_iconst hm rfl (v := nI 3) (by decide) ?_
  refine x_iadd hm rfl ?_
  rw [jI_add]
  refine x_iload hm rfl rfl ?_
  refine x_iast hm rfl (sI rfl (by omega) (by decide)) ?_
  refine x_aload_n hm rfl rfl ?_
  refine x_getf hm rfl (gR rfl rfl) ?_
  refine x_iload hm rfl rfl ?_
  refine x_iconst hm rfl (v := nI 4) (by decide) ?_
  refine x_iadd hm rfl ?_
  rw [jI_add]
  refine x_iload hm rfl rfl ?_
  refine x_iast hm rfl (sI rfl (by omega) (by decide)) ?_
  refine x_aload_n hm rfl rfl ?_
  refine x_getf hm rfl (gR rfl rfl) ?_
  refine x_iload hm rfl rfl ?_
  refine x_iconst hm rfl (v := nI 5) (by decide) ?_
  refine x_iadd hm rfl ?_
  rw [jI_add]
  refine x_iload hm rfl rfl ?_
  refine x_iast hm rfl (sI rfl (by omega) (by decide)) ?_
  refine x_aload_n hm rfl rfl ?_
  refine x_getf hm rfl (gR rfl rfl) ?_
  refine x_iload hm rfl rfl ?_
  refine x_bipush hm rfl (v := nI 6) (by decide) ?_
  refine x_iadd hm rfl ?_
  rw [jI_add]
  refine x_iload hm rfl rfl ?_
  refine x_iast hm rfl (sI rfl (by omega) (by decide)) ?_
  refine x_aload_n hm rfl rfl ?_
  refine x_dup hm rfl rfl ?_
  refine x_getf hm rfl (gI rfl rfl) ?_
  rw [it7_1, hm17]
  refine x_iconst hm rfl (v := nI 1) (by decide) ?_
  refine x_iadd hm rfl ?_
  rw [jI_add]
  refine x_putf hm rfl (pI rfl rfl (by decide) (by first | exact mFit_int | rfl | decide) rfl) ?_
  refine x_ret hm rfl rfl ?_
  exact ⟨rfl, rfl⟩
end RP
end
section
/-! ===== the reference: copy ===== -/
section RQ
variable {X : mSc} {Q : Option Value → mHp → Prop} {M : mM}
theorem lg_add {i n : Nat} (hi : i < 2147483648) (hn : n < 2147483648) : ((nI i).toInt64 + (nI n).toInt64).toInt = (i : Int) + n := by
  rw [Int64.toInt_add, Int32.toInt_toInt64, Int32.toInt_toInt64, jI_int hi, jI_int hn, Int.bmod_def]
  omega
theorem cpl {i n z : Nat} (hi : i < 2147483648) (hn : n < 2147483648) (hz : z ≤ 40) (h : lg_cmp ((nI i).toInt64 + (nI n).toInt64) (nI z).toInt64 ≤ 0) : i + n ≤ z := by
  have h1 := Int64.le_iff_toInt_le.mp ((lg_cmp_le _ _).mp h)
  rw [lg_add hi hn, Int32.toInt_toInt64, jI_int (by omega)] at h1
  omega
theorem cpg {i n z : Nat} (hi : i < 2147483648) (hn : n < 2147483648) (hz : z ≤ 40) (h : ¬ 0 < lg_cmp ((nI i).toInt64 + (nI n).toInt64) (nI z).toInt64) : i + n ≤ z := cpl hi hn hz (Int32.not_lt.mp h)
theorem l237b {s t i j n : Nat} (hs : s ≤ 3) (ht : t ≤ 3) (hi : i + n ≤ 40) (hj : j + n ≤ 40) : ∀ (q k : Nat) (M1 : mM), n - k < q → k ≤ n → Sf M M1 → mEv X (QI (fun _ M' => Sf M M')) 237 165 [some (.ref 66), some (.int (nI s)), some (.int (nI i)), some (.int (nI t)), some (.int (nI j)), some (.int (nI n)), some (.int (nI k))] [] (con M1) := by
  have hm : mMet 237 = some _ := rfl
  intro q
  induction q with
  | zero =>
    intro k M1 hkn hkb hS
    omega
  | succ q ih =>
    intro k M1 hkn hkb hS
    refine x_iload hm rfl rfl ?_
    refine x_iload hm rfl rfl ?_
    refine x_icmp_ge hm rfl (t := 200) rfl (fun h1 => ?_) (fun h1 => ?_)
    · refine x_iload hm rfl rfl ?_
      refine x_iret hm rfl rfl (by first | rfl | exact bI_nar | decide) ?_
      exact ⟨_, _, rfl, rfl, hS⟩
    · have hk : k < n := Nat.lt_of_not_le fun h => h1 (nI_le h (by omega))
      refine x_aload_n hm rfl rfl ?_
      refine x_getf hm rfl (gR rfl rfl) ?_
      refine x_bipush hm rfl (v := nI 40) (by decide) ?_
      refine x_iload_n hm rfl rfl ?_
      refine x_imul hm rfl ?_
      rw [jI_mul]
      refine x_iload hm rfl rfl ?_
      refine x_iadd hm rfl ?_
      rw [jI_add]
      refine x_iload hm rfl rfl ?_
      refine x_iadd hm rfl ?_
      rw [jI_add]
      refine x_aload_n hm rfl rfl ?_
      refine x_getf hm rfl (gR rfl rfl) ?_
      refine x_iload hm rfl rfl ?_
      refine x_iald hm rfl (lI rfl (by omega) (by decide)) ?_
      refine x_iast hm rfl (sI rfl (by omega) (by decide)) ?_
      refine x_iinc hm rfl rfl (v := nI 1) (by decide) rfl ?_
      rw [jI_add]
      refine x_goto hm rfl (t := 165) rfl ?_
      exact ih _ _ (by omega) (by omega) (hS.trans Sf.w78)
theorem l237a {s t i j n : Nat} (hs : s ≤ 3) (ht : t ≤ 3) (hi : i + n ≤ 40) (hj : j + n ≤ 40) : ∀ (q k : Nat) (M1 : mM), n - k < q → k ≤ n → Sf M M1 → mEv X (QI (fun _ M' => Sf M M')) 237 128 [some (.ref 66), some (.int (nI s)), some (.int (nI i)), some (.int (nI t)), some (.int (nI j)), some (.int (nI n)), some (.int (nI k))] [] (con M1) := by
  have hm : mMet 237 = some _ := rfl
  intro q
  induction q with
  | zero =>
    intro k M1 hkn hkb hS
    omega
  | succ q ih =>
    intro k M1 hkn hkb hS
    refine x_iload hm rfl rfl ?_
    refine x_iload hm rfl rfl ?_
    refine x_icmp_ge hm rfl (t := 162) rfl (fun h1 => ?_) (fun h1 => ?_)
    · refine x_iconst hm rfl (v := nI 0) (by decide) ?_
      refine x_istore hm rfl rfl ?_
      exact l237b hs ht hi hj _ 0 _ (Nat.lt_succ_self _) (Nat.zero_le _) hS
    · have hk : k < n := Nat.lt_of_not_le fun h => h1 (nI_le h (by omega))
      refine x_aload_n hm rfl rfl ?_
      refine x_getf hm rfl (gR rfl rfl) ?_
      refine x_iload hm rfl rfl ?_
      refine x_aload_n hm rfl rfl ?_
      refine x_getf hm rfl (gR rfl rfl) ?_
      refine x_bipush hm rfl (v := nI 40) (by decide) ?_
      refine x_iload_n hm rfl rfl ?_
      refine x_imul hm rfl ?_
      rw [jI_mul]
      refine x_iload_n hm rfl rfl ?_
      refine x_iadd hm rfl ?_
      rw [jI_add]
      refine x_iload hm rfl rfl ?_
      refine x_iadd hm rfl ?_
      rw [jI_add]
      refine x_iald hm rfl (lI rfl (by omega) (by decide)) ?_
      refine x_iast hm rfl (sI rfl (by omega) (by decide)) ?_
      refine x_iinc hm rfl rfl (v := nI 1) (by decide) rfl ?_
      rw [jI_add]
      refine x_goto hm rfl (t := 128) rfl ?_
      exact ih _ _ (by omega) (by omega) (hS.trans Sf.w79)
theorem t237 {a1 a2 a3 a4 a5 : Int32} (hI : Inv M) : ∃ v M', mT X 237 [.ref 66, .int a1, .int a2, .int a3, .int a4, .int a5] (con M) (some (.int v)) (con M') ∧ Inv M' := by
  refine ti_of (row := _) rfl (Nat.le_of_ble_eq_true rfl) ?_
  have hm : mMet 237 = some _ := rfl
  refine x_iload_n hm rfl rfl ?_
  refine x_callS hm rfl rfl (t210) ?_
  refine x_if_eq hm rfl (t := 14) rfl (fun h1 => ?_) (fun h1 => ?_)
  · refine x_aload_n hm rfl rfl ?_
    refine x_ldcI hm rfl (v := (-1000001 : Int32)) (by decide +kernel) ?_
    refine x_cVi hm rfl rfl (t135 (by decide +kernel)) (fun v2 M2 r2 => ?_)
    refine x_iret hm rfl rfl (by first | rfl | exact bI_nar | decide) ?_
    first
      | exact ⟨_, _, rfl, rfl, r2.2.inv hI⟩
      | exact ⟨_, _, rfl, rfl, hI⟩
      | exact ⟨_, _, rfl, rfl, r1.2.inv hI⟩
      | exact ⟨_, _, rfl, rfl, r3.2.inv hI⟩
      | exact ⟨_, _, rfl, rfl, r4.2.inv hI⟩
      | exact ⟨_, _, rfl, rfl, r5.2.inv hI⟩
      | exact ⟨_, _, rfl, rfl, r6.2.inv hI⟩
      | exact ⟨_, _, rfl, rfl, r7.2.inv hI⟩
      | exact ⟨_, _, rfl, rfl, r8.2.inv hI⟩
      | exact ⟨_, _, rfl, rfl, r9.2.inv hI⟩
      | exact ⟨_, _, rfl, rfl, r10.2.inv hI⟩
      | exact ⟨_, _, rfl, rfl, r11.2.inv hI⟩
      | exact ⟨_, _, rfl, rfl, r12.2.inv hI⟩
      | exact ⟨_, _, rfl, rfl, r13.2.inv hI⟩
      | exact ⟨_, _, rfl, rfl, r14.2.inv hI⟩
      | exact ⟨_, _, rfl, rfl, r15.2.inv hI⟩
      | exact ⟨_, _, rfl, rfl, r16.2.inv hI⟩
      | exact ⟨_, _, rfl, rfl, r17.2.inv hI⟩
      | exact ⟨_, _, rfl, rfl, r18.2.inv hI⟩
      | exact ⟨_, _, rfl, rfl, r19.2.inv hI⟩
      | exact ⟨_, _, rfl, rfl, r20.2.inv hI⟩
      | exact ⟨_, _, rfl, rfl, r21.2.inv hI⟩
      | exact ⟨_, _, rfl, rfl, r22.2.inv hI⟩
      | exact ⟨_, _, rfl, rfl, r23.2.inv hI⟩
      | exact ⟨_, _, rfl, rfl, r24.2.inv hI⟩
      | exact ⟨_, _, rfl, rfl, r25.2.inv hI⟩
      | exact ⟨_, _, rfl, rfl, r26.2.inv hI⟩
      | exact ⟨_, _, rfl, rfl, r27.2.inv hI⟩
      | exact ⟨_, _, rfl, rfl, r28.2.inv hI⟩
      | exact ⟨_, _, rfl, rfl, r29.2.inv hI⟩
      | exact ⟨_, _, rfl, rfl, r30.2.inv hI⟩
      | exact ⟨_, _, rfl, rfl, r31.2.inv hI⟩
      | exact ⟨_, _, rfl, rfl, r32.2.inv hI⟩
      | exact ⟨_, _, rfl, rfl, r33.2.inv hI⟩
      | exact ⟨_, _, rfl, rfl, r34.2.inv hI⟩
      | exact ⟨_, _, rfl, rfl, r35.2.inv hI⟩
      | exact ⟨_, _, rfl, rfl, r36.2.inv hI⟩
      | exact ⟨_, _, rfl, rfl, r37.2.inv hI⟩
      | exact ⟨_, _, rfl, rfl, r38.2.inv hI⟩
      | exact ⟨_, _, rfl, rfl, r39.2.inv hI⟩
      | exact ⟨_, _, rfl, rfl, r40.2.inv hI⟩
      | exact ⟨_, _, rfl, rfl, r41.2.inv hI⟩
      | exact ⟨_, _, rfl, rfl, r42.2.inv hI⟩
      | exact ⟨_, _, rfl, rfl, r43.2.inv hI⟩
      | exact ⟨_, _, rfl, rfl, r44.2.inv hI⟩
      | exact ⟨_, _, rfl, rfl, r45.2.inv hI⟩
      | exact ⟨_, _, rfl, rfl, r46.2.inv hI⟩
      | exact ⟨_, _, rfl, rfl, r47.2.inv hI⟩
      | exact ⟨_, _, rfl, rfl, r48.2.inv hI⟩
      | exact ⟨_, _, rfl, rfl, r49.2.inv hI⟩
      | exact ⟨_, _, rfl, rfl, r50.2.inv hI⟩
      | exact ⟨_, _, rfl, rfl, r51.2.inv hI⟩
      | exact ⟨_, _, rfl, rfl, r52.2.inv hI⟩
      | exact ⟨_, _, rfl, rfl, r53.2.inv hI⟩
      | exact ⟨_, _, rfl, rfl, r54.2.inv hI⟩
      | exact ⟨_, _, rfl, rfl, r55.2.inv hI⟩
      | exact ⟨_, _, rfl, rfl, r56.2.inv hI⟩
      | exact ⟨_, _, rfl, rfl, r57.2.inv hI⟩
      | exact ⟨_, _, rfl, rfl, r58.2.inv hI⟩
      | exact ⟨_, _, rfl, rfl, r59.2.inv hI⟩
  · obtain ⟨s, hs, rfl⟩ := le_k (by omega) (bI_ne0 h1)
    refine x_iload_n hm rfl rfl ?_
    refine x_callS hm rfl rfl (t210) ?_
    refine x_if_ne hm rfl (t := 21) rfl (fun h3 => ?_) (fun h3 => ?_)
    · obtain ⟨t, ht, rfl⟩ := le_k (by omega) (bI_ne0 h3)
      obtain ⟨z, hz, hsz⟩ := hI.1.size s
      obtain ⟨y, hy, hty⟩ := hI.1.size t
      refine x_aload_n hm rfl rfl ?_
      refine x_getf hm rfl (gR rfl rfl) ?_
      refine x_iload_n hm rfl rfl ?_
      refine x_iald hm rfl (lI rfl (by omega) (by decide)) ?_
      refine x_if_eq hm rfl (t := 39) rfl (fun h4 => ?_) (fun h4 => ?_)
      · refine x_aload_n hm rfl rfl ?_
        refine x_ldcI hm rfl (v := (-1000006 : Int32)) (by decide +kernel) ?_
        refine x_cVi hm rfl rfl (t135 (by decide +kernel)) (fun v5 M5 r5 => ?_)
        refine x_iret hm rfl rfl (by first | rfl | exact bI_nar | decide) ?_
        first
          | exact ⟨_, _, rfl, rfl, r5.2.inv hI⟩
          | exact ⟨_, _, rfl, rfl, hI⟩
          | exact ⟨_, _, rfl, rfl, r1.2.inv hI⟩
          | exact ⟨_, _, rfl, rfl, r2.2.inv hI⟩
          | exact ⟨_, _, rfl, rfl, r3.2.inv hI⟩
          | exact ⟨_, _, rfl, rfl, r4.2.inv hI⟩
          | exact ⟨_, _, rfl, rfl, r6.2.inv hI⟩
          | exact ⟨_, _, rfl, rfl, r7.2.inv hI⟩
          | exact ⟨_, _, rfl, rfl, r8.2.inv hI⟩
          | exact ⟨_, _, rfl, rfl, r9.2.inv hI⟩
          | exact ⟨_, _, rfl, rfl, r10.2.inv hI⟩
          | exact ⟨_, _, rfl, rfl, r11.2.inv hI⟩
          | exact ⟨_, _, rfl, rfl, r12.2.inv hI⟩
          | exact ⟨_, _, rfl, rfl, r13.2.inv hI⟩
          | exact ⟨_, _, rfl, rfl, r14.2.inv hI⟩
          | exact ⟨_, _, rfl, rfl, r15.2.inv hI⟩
          | exact ⟨_, _, rfl, rfl, r16.2.inv hI⟩
          | exact ⟨_, _, rfl, rfl, r17.2.inv hI⟩
          | exact ⟨_, _, rfl, rfl, r18.2.inv hI⟩
          | exact ⟨_, _, rfl, rfl, r19.2.inv hI⟩
          | exact ⟨_, _, rfl, rfl, r20.2.inv hI⟩
          | exact ⟨_, _, rfl, rfl, r21.2.inv hI⟩
          | exact ⟨_, _, rfl, rfl, r22.2.inv hI⟩
          | exact ⟨_, _, rfl, rfl, r23.2.inv hI⟩
          | exact ⟨_, _, rfl, rfl, r24.2.inv hI⟩
          | exact ⟨_, _, rfl, rfl, r25.2.inv hI⟩
          | exact ⟨_, _, rfl, rfl, r26.2.inv hI⟩
          | exact ⟨_, _, rfl, rfl, r27.2.inv hI⟩
          | exact ⟨_, _, rfl, rfl, r28.2.inv hI⟩
          | exact ⟨_, _, rfl, rfl, r29.2.inv hI⟩
          | exact ⟨_, _, rfl, rfl, r30.2.inv hI⟩
          | exact ⟨_, _, rfl, rfl, r31.2.inv hI⟩
          | exact ⟨_, _, rfl, rfl, r32.2.inv hI⟩
          | exact ⟨_, _, rfl, rfl, r33.2.inv hI⟩
          | exact ⟨_, _, rfl, rfl, r34.2.inv hI⟩
          | exact ⟨_, _, rfl, rfl, r35.2.inv hI⟩
          | exact ⟨_, _, rfl, rfl, r36.2.inv hI⟩
          | exact ⟨_, _, rfl, rfl, r37.2.inv hI⟩
          | exact ⟨_, _, rfl, rfl, r38.2.inv hI⟩
          | exact ⟨_, _, rfl, rfl, r39.2.inv hI⟩
          | exact ⟨_, _, rfl, rfl, r40.2.inv hI⟩
          | exact ⟨_, _, rfl, rfl, r41.2.inv hI⟩
          | exact ⟨_, _, rfl, rfl, r42.2.inv hI⟩
          | exact ⟨_, _, rfl, rfl, r43.2.inv hI⟩
          | exact ⟨_, _, rfl, rfl, r44.2.inv hI⟩
          | exact ⟨_, _, rfl, rfl, r45.2.inv hI⟩
          | exact ⟨_, _, rfl, rfl, r46.2.inv hI⟩
          | exact ⟨_, _, rfl, rfl, r47.2.inv hI⟩
          | exact ⟨_, _, rfl, rfl, r48.2.inv hI⟩
          | exact ⟨_, _, rfl, rfl, r49.2.inv hI⟩
          | exact ⟨_, _, rfl, rfl, r50.2.inv hI⟩
          | exact ⟨_, _, rfl, rfl, r51.2.inv hI⟩
          | exact ⟨_, _, rfl, rfl, r52.2.inv hI⟩
          | exact ⟨_, _, rfl, rfl, r53.2.inv hI⟩
          | exact ⟨_, _, rfl, rfl, r54.2.inv hI⟩
          | exact ⟨_, _, rfl, rfl, r55.2.inv hI⟩
          | exact ⟨_, _, rfl, rfl, r56.2.inv hI⟩
          | exact ⟨_, _, rfl, rfl, r57.2.inv hI⟩
          | exact ⟨_, _, rfl, rfl, r58.2.inv hI⟩
          | exact ⟨_, _, rfl, rfl, r59.2.inv hI⟩
      · refine x_aload_n hm rfl rfl ?_
        refine x_getf hm rfl (gR rfl rfl) ?_
        refine x_iload_n hm rfl rfl ?_
        refine x_iald hm rfl (lI rfl (by omega) (by decide)) ?_
        refine x_if_ne hm rfl (t := 46) rfl (fun h6 => ?_) (fun h6 => ?_)
        · refine x_aload_n hm rfl rfl ?_
          refine x_getf hm rfl (gR rfl rfl) ?_
          refine x_iload_n hm rfl rfl ?_
          refine x_iald hm rfl (lI rfl (by omega) (by decide)) ?_
          refine x_aload_n hm rfl rfl ?_
          refine x_getf hm rfl (gR rfl rfl) ?_
          refine x_iload_n hm rfl rfl ?_
          refine x_iald hm rfl (lI rfl (by omega) (by decide)) ?_
          refine x_icmp_eq hm rfl (t := 69) rfl (fun h7 => ?_) (fun h7 => ?_)
          · refine x_iload_n hm rfl rfl ?_
            refine x_if_lt hm rfl (t := 118) rfl (fun h8 => ?_) (fun h8 => ?_)
            · refine x_aload_n hm rfl rfl ?_
              refine x_ldcI hm rfl (v := (-1000001 : Int32)) (by decide +kernel) ?_
              refine x_cVi hm rfl rfl (t135 (by decide +kernel)) (fun v9 M9 r9 => ?_)
              refine x_iret hm rfl rfl (by first | rfl | exact bI_nar | decide) ?_
              first
                | exact ⟨_, _, rfl, rfl, r9.2.inv hI⟩
                | exact ⟨_, _, rfl, rfl, hI⟩
                | exact ⟨_, _, rfl, rfl, r1.2.inv hI⟩
                | exact ⟨_, _, rfl, rfl, r2.2.inv hI⟩
                | exact ⟨_, _, rfl, rfl, r3.2.inv hI⟩
                | exact ⟨_, _, rfl, rfl, r4.2.inv hI⟩
                | exact ⟨_, _, rfl, rfl, r5.2.inv hI⟩
                | exact ⟨_, _, rfl, rfl, r6.2.inv hI⟩
                | exact ⟨_, _, rfl, rfl, r7.2.inv hI⟩
                | exact ⟨_, _, rfl, rfl, r8.2.inv hI⟩
                | exact ⟨_, _, rfl, rfl, r10.2.inv hI⟩
                | exact ⟨_, _, rfl, rfl, r11.2.inv hI⟩
                | exact ⟨_, _, rfl, rfl, r12.2.inv hI⟩
                | exact ⟨_, _, rfl, rfl, r13.2.inv hI⟩
                | exact ⟨_, _, rfl, rfl, r14.2.inv hI⟩
                | exact ⟨_, _, rfl, rfl, r15.2.inv hI⟩
                | exact ⟨_, _, rfl, rfl, r16.2.inv hI⟩
                | exact ⟨_, _, rfl, rfl, r17.2.inv hI⟩
                | exact ⟨_, _, rfl, rfl, r18.2.inv hI⟩
                | exact ⟨_, _, rfl, rfl, r19.2.inv hI⟩
                | exact ⟨_, _, rfl, rfl, r20.2.inv hI⟩
                | exact ⟨_, _, rfl, rfl, r21.2.inv hI⟩
                | exact ⟨_, _, rfl, rfl, r22.2.inv hI⟩
                | exact ⟨_, _, rfl, rfl, r23.2.inv hI⟩
                | exact ⟨_, _, rfl, rfl, r24.2.inv hI⟩
                | exact ⟨_, _, rfl, rfl, r25.2.inv hI⟩
                | exact ⟨_, _, rfl, rfl, r26.2.inv hI⟩
                | exact ⟨_, _, rfl, rfl, r27.2.inv hI⟩
                | exact ⟨_, _, rfl, rfl, r28.2.inv hI⟩
                | exact ⟨_, _, rfl, rfl, r29.2.inv hI⟩
                | exact ⟨_, _, rfl, rfl, r30.2.inv hI⟩
                | exact ⟨_, _, rfl, rfl, r31.2.inv hI⟩
                | exact ⟨_, _, rfl, rfl, r32.2.inv hI⟩
                | exact ⟨_, _, rfl, rfl, r33.2.inv hI⟩
                | exact ⟨_, _, rfl, rfl, r34.2.inv hI⟩
                | exact ⟨_, _, rfl, rfl, r35.2.inv hI⟩
                | exact ⟨_, _, rfl, rfl, r36.2.inv hI⟩
                | exact ⟨_, _, rfl, rfl, r37.2.inv hI⟩
                | exact ⟨_, _, rfl, rfl, r38.2.inv hI⟩
                | exact ⟨_, _, rfl, rfl, r39.2.inv hI⟩
                | exact ⟨_, _, rfl, rfl, r40.2.inv hI⟩
                | exact ⟨_, _, rfl, rfl, r41.2.inv hI⟩
                | exact ⟨_, _, rfl, rfl, r42.2.inv hI⟩
                | exact ⟨_, _, rfl, rfl, r43.2.inv hI⟩
                | exact ⟨_, _, rfl, rfl, r44.2.inv hI⟩
                | exact ⟨_, _, rfl, rfl, r45.2.inv hI⟩
                | exact ⟨_, _, rfl, rfl, r46.2.inv hI⟩
                | exact ⟨_, _, rfl, rfl, r47.2.inv hI⟩
                | exact ⟨_, _, rfl, rfl, r48.2.inv hI⟩
                | exact ⟨_, _, rfl, rfl, r49.2.inv hI⟩
                | exact ⟨_, _, rfl, rfl, r50.2.inv hI⟩
                | exact ⟨_, _, rfl, rfl, r51.2.inv hI⟩
                | exact ⟨_, _, rfl, rfl, r52.2.inv hI⟩
                | exact ⟨_, _, rfl, rfl, r53.2.inv hI⟩
                | exact ⟨_, _, rfl, rfl, r54.2.inv hI⟩
                | exact ⟨_, _, rfl, rfl, r55.2.inv hI⟩
                | exact ⟨_, _, rfl, rfl, r56.2.inv hI⟩
                | exact ⟨_, _, rfl, rfl, r57.2.inv hI⟩
                | exact ⟨_, _, rfl, rfl, r58.2.inv hI⟩
                | exact ⟨_, _, rfl, rfl, r59.2.inv hI⟩
            · obtain ⟨i, hi, rfl⟩ := jI_of h8
              refine x_iload hm rfl rfl ?_
              refine x_if_lt hm rfl (t := 118) rfl (fun h10 => ?_) (fun h10 => ?_)
              · refine x_aload_n hm rfl rfl ?_
                refine x_ldcI hm rfl (v := (-1000001 : Int32)) (by decide +kernel) ?_
                refine x_cVi hm rfl rfl (t135 (by decide +kernel)) (fun v11 M11 r11 => ?_)
                refine x_iret hm rfl rfl (by first | rfl | exact bI_nar | decide) ?_
                first
                  | exact ⟨_, _, rfl, rfl, r11.2.inv hI⟩
                  | exact ⟨_, _, rfl, rfl, hI⟩
                  | exact ⟨_, _, rfl, rfl, r1.2.inv hI⟩
                  | exact ⟨_, _, rfl, rfl, r2.2.inv hI⟩
                  | exact ⟨_, _, rfl, rfl, r3.2.inv hI⟩
                  | exact ⟨_, _, rfl, rfl, r4.2.inv hI⟩
                  | exact ⟨_, _, rfl, rfl, r5.2.inv hI⟩
                  | exact ⟨_, _, rfl, rfl, r6.2.inv hI⟩
                  | exact ⟨_, _, rfl, rfl, r7.2.inv hI⟩
                  | exact ⟨_, _, rfl, rfl, r8.2.inv hI⟩
                  | exact ⟨_, _, rfl, rfl, r9.2.inv hI⟩
                  | exact ⟨_, _, rfl, rfl, r10.2.inv hI⟩
                  | exact ⟨_, _, rfl, rfl, r12.2.inv hI⟩
                  | exact ⟨_, _, rfl, rfl, r13.2.inv hI⟩
                  | exact ⟨_, _, rfl, rfl, r14.2.inv hI⟩
                  | exact ⟨_, _, rfl, rfl, r15.2.inv hI⟩
                  | exact ⟨_, _, rfl, rfl, r16.2.inv hI⟩
                  | exact ⟨_, _, rfl, rfl, r17.2.inv hI⟩
                  | exact ⟨_, _, rfl, rfl, r18.2.inv hI⟩
                  | exact ⟨_, _, rfl, rfl, r19.2.inv hI⟩
                  | exact ⟨_, _, rfl, rfl, r20.2.inv hI⟩
                  | exact ⟨_, _, rfl, rfl, r21.2.inv hI⟩
                  | exact ⟨_, _, rfl, rfl, r22.2.inv hI⟩
                  | exact ⟨_, _, rfl, rfl, r23.2.inv hI⟩
                  | exact ⟨_, _, rfl, rfl, r24.2.inv hI⟩
                  | exact ⟨_, _, rfl, rfl, r25.2.inv hI⟩
                  | exact ⟨_, _, rfl, rfl, r26.2.inv hI⟩
                  | exact ⟨_, _, rfl, rfl, r27.2.inv hI⟩
                  | exact ⟨_, _, rfl, rfl, r28.2.inv hI⟩
                  | exact ⟨_, _, rfl, rfl, r29.2.inv hI⟩
                  | exact ⟨_, _, rfl, rfl, r30.2.inv hI⟩
                  | exact ⟨_, _, rfl, rfl, r31.2.inv hI⟩
                  | exact ⟨_, _, rfl, rfl, r32.2.inv hI⟩
                  | exact ⟨_, _, rfl, rfl, r33.2.inv hI⟩
                  | exact ⟨_, _, rfl, rfl, r34.2.inv hI⟩
                  | exact ⟨_, _, rfl, rfl, r35.2.inv hI⟩
                  | exact ⟨_, _, rfl, rfl, r36.2.inv hI⟩
                  | exact ⟨_, _, rfl, rfl, r37.2.inv hI⟩
                  | exact ⟨_, _, rfl, rfl, r38.2.inv hI⟩
                  | exact ⟨_, _, rfl, rfl, r39.2.inv hI⟩
                  | exact ⟨_, _, rfl, rfl, r40.2.inv hI⟩
                  | exact ⟨_, _, rfl, rfl, r41.2.inv hI⟩
                  | exact ⟨_, _, rfl, rfl, r42.2.inv hI⟩
                  | exact ⟨_, _, rfl, rfl, r43.2.inv hI⟩
                  | exact ⟨_, _, rfl, rfl, r44.2.inv hI⟩
                  | exact ⟨_, _, rfl, rfl, r45.2.inv hI⟩
                  | exact ⟨_, _, rfl, rfl, r46.2.inv hI⟩
                  | exact ⟨_, _, rfl, rfl, r47.2.inv hI⟩
                  | exact ⟨_, _, rfl, rfl, r48.2.inv hI⟩
                  | exact ⟨_, _, rfl, rfl, r49.2.inv hI⟩
                  | exact ⟨_, _, rfl, rfl, r50.2.inv hI⟩
                  | exact ⟨_, _, rfl, rfl, r51.2.inv hI⟩
                  | exact ⟨_, _, rfl, rfl, r52.2.inv hI⟩
                  | exact ⟨_, _, rfl, rfl, r53.2.inv hI⟩
                  | exact ⟨_, _, rfl, rfl, r54.2.inv hI⟩
                  | exact ⟨_, _, rfl, rfl, r55.2.inv hI⟩
                  | exact ⟨_, _, rfl, rfl, r56.2.inv hI⟩
                  | exact ⟨_, _, rfl, rfl, r57.2.inv hI⟩
                  | exact ⟨_, _, rfl, rfl, r58.2.inv hI⟩
                  | exact ⟨_, _, rfl, rfl, r59.2.inv hI⟩
              · obtain ⟨j, hj, rfl⟩ := jI_of h10
                refine x_iload hm rfl rfl ?_
                refine x_if_lt hm rfl (t := 118) rfl (fun h12 => ?_) (fun h12 => ?_)
                · refine x_aload_n hm rfl rfl ?_
                  refine x_ldcI hm rfl (v := (-1000001 : Int32)) (by decide +kernel) ?_
                  refine x_cVi hm rfl rfl (t135 (by decide +kernel)) (fun v13 M13 r13 => ?_)
                  refine x_iret hm rfl rfl (by first | rfl | exact bI_nar | decide) ?_
                  first
                    | exact ⟨_, _, rfl, rfl, r13.2.inv hI⟩
                    | exact ⟨_, _, rfl, rfl, hI⟩
                    | exact ⟨_, _, rfl, rfl, r1.2.inv hI⟩
                    | exact ⟨_, _, rfl, rfl, r2.2.inv hI⟩
                    | exact ⟨_, _, rfl, rfl, r3.2.inv hI⟩
                    | exact ⟨_, _, rfl, rfl, r4.2.inv hI⟩
                    | exact ⟨_, _, rfl, rfl, r5.2.inv hI⟩
                    | exact ⟨_, _, rfl, rfl, r6.2.inv hI⟩
                    | exact ⟨_, _, rfl, rfl, r7.2.inv hI⟩
                    | exact ⟨_, _, rfl, rfl, r8.2.inv hI⟩
                    | exact ⟨_, _, rfl, rfl, r9.2.inv hI⟩
                    | exact ⟨_, _, rfl, rfl, r10.2.inv hI⟩
                    | exact ⟨_, _, rfl, rfl, r11.2.inv hI⟩
                    | exact ⟨_, _, rfl, rfl, r12.2.inv hI⟩
                    | exact ⟨_, _, rfl, rfl, r14.2.inv hI⟩
                    | exact ⟨_, _, rfl, rfl, r15.2.inv hI⟩
                    | exact ⟨_, _, rfl, rfl, r16.2.inv hI⟩
                    | exact ⟨_, _, rfl, rfl, r17.2.inv hI⟩
                    | exact ⟨_, _, rfl, rfl, r18.2.inv hI⟩
                    | exact ⟨_, _, rfl, rfl, r19.2.inv hI⟩
                    | exact ⟨_, _, rfl, rfl, r20.2.inv hI⟩
                    | exact ⟨_, _, rfl, rfl, r21.2.inv hI⟩
                    | exact ⟨_, _, rfl, rfl, r22.2.inv hI⟩
                    | exact ⟨_, _, rfl, rfl, r23.2.inv hI⟩
                    | exact ⟨_, _, rfl, rfl, r24.2.inv hI⟩
                    | exact ⟨_, _, rfl, rfl, r25.2.inv hI⟩
                    | exact ⟨_, _, rfl, rfl, r26.2.inv hI⟩
                    | exact ⟨_, _, rfl, rfl, r27.2.inv hI⟩
                    | exact ⟨_, _, rfl, rfl, r28.2.inv hI⟩
                    | exact ⟨_, _, rfl, rfl, r29.2.inv hI⟩
                    | exact ⟨_, _, rfl, rfl, r30.2.inv hI⟩
                    | exact ⟨_, _, rfl, rfl, r31.2.inv hI⟩
                    | exact ⟨_, _, rfl, rfl, r32.2.inv hI⟩
                    | exact ⟨_, _, rfl, rfl, r33.2.inv hI⟩
                    | exact ⟨_, _, rfl, rfl, r34.2.inv hI⟩
                    | exact ⟨_, _, rfl, rfl, r35.2.inv hI⟩
                    | exact ⟨_, _, rfl, rfl, r36.2.inv hI⟩
                    | exact ⟨_, _, rfl, rfl, r37.2.inv hI⟩
                    | exact ⟨_, _, rfl, rfl, r38.2.inv hI⟩
                    | exact ⟨_, _, rfl, rfl, r39.2.inv hI⟩
                    | exact ⟨_, _, rfl, rfl, r40.2.inv hI⟩
                    | exact ⟨_, _, rfl, rfl, r41.2.inv hI⟩
                    | exact ⟨_, _, rfl, rfl, r42.2.inv hI⟩
                    | exact ⟨_, _, rfl, rfl, r43.2.inv hI⟩
                    | exact ⟨_, _, rfl, rfl, r44.2.inv hI⟩
                    | exact ⟨_, _, rfl, rfl, r45.2.inv hI⟩
                    | exact ⟨_, _, rfl, rfl, r46.2.inv hI⟩
                    | exact ⟨_, _, rfl, rfl, r47.2.inv hI⟩
                    | exact ⟨_, _, rfl, rfl, r48.2.inv hI⟩
                    | exact ⟨_, _, rfl, rfl, r49.2.inv hI⟩
                    | exact ⟨_, _, rfl, rfl, r50.2.inv hI⟩
                    | exact ⟨_, _, rfl, rfl, r51.2.inv hI⟩
                    | exact ⟨_, _, rfl, rfl, r52.2.inv hI⟩
                    | exact ⟨_, _, rfl, rfl, r53.2.inv hI⟩
                    | exact ⟨_, _, rfl, rfl, r54.2.inv hI⟩
                    | exact ⟨_, _, rfl, rfl, r55.2.inv hI⟩
                    | exact ⟨_, _, rfl, rfl, r56.2.inv hI⟩
                    | exact ⟨_, _, rfl, rfl, r57.2.inv hI⟩
                    | exact ⟨_, _, rfl, rfl, r58.2.inv hI⟩
                    | exact ⟨_, _, rfl, rfl, r59.2.inv hI⟩
                · obtain ⟨n, hn, rfl⟩ := jI_of h12
                  refine x_iload_n hm rfl rfl ?_
                  refine x_i2l hm rfl ?_
                  refine x_iload hm rfl rfl ?_
                  refine x_i2l hm rfl ?_
                  refine x_ladd hm rfl ?_
                  refine x_aload_n hm rfl rfl ?_
                  refine x_getf hm rfl (gR rfl rfl) ?_
                  refine x_iload_n hm rfl rfl ?_
                  refine x_iald hm rfl (lI rfl (by omega) (by decide)) ?_
                  rw [hsz]
                  refine x_i2l hm rfl ?_
                  refine x_lcmp hm rfl ?_
                  refine x_if_gt hm rfl (t := 118) rfl (fun h14 => ?_) (fun h14 => ?_)
                  · refine x_aload_n hm rfl rfl ?_
                    refine x_ldcI hm rfl (v := (-1000001 : Int32)) (by decide +kernel) ?_
                    refine x_cVi hm rfl rfl (t135 (by decide +kernel)) (fun v15 M15 r15 => ?_)
                    refine x_iret hm rfl rfl (by first | rfl | exact bI_nar | decide) ?_
                    first
                      | exact ⟨_, _, rfl, rfl, r15.2.inv hI⟩
                      | exact ⟨_, _, rfl, rfl, hI⟩
                      | exact ⟨_, _, rfl, rfl, r1.2.inv hI⟩
                      | exact ⟨_, _, rfl, rfl, r2.2.inv hI⟩
                      | exact ⟨_, _, rfl, rfl, r3.2.inv hI⟩
                      | exact ⟨_, _, rfl, rfl, r4.2.inv hI⟩
                      | exact ⟨_, _, rfl, rfl, r5.2.inv hI⟩
                      | exact ⟨_, _, rfl, rfl, r6.2.inv hI⟩
                      | exact ⟨_, _, rfl, rfl, r7.2.inv hI⟩
                      | exact ⟨_, _, rfl, rfl, r8.2.inv hI⟩
                      | exact ⟨_, _, rfl, rfl, r9.2.inv hI⟩
                      | exact ⟨_, _, rfl, rfl, r10.2.inv hI⟩
                      | exact ⟨_, _, rfl, rfl, r11.2.inv hI⟩
                      | exact ⟨_, _, rfl, rfl, r12.2.inv hI⟩
                      | exact ⟨_, _, rfl, rfl, r13.2.inv hI⟩
                      | exact ⟨_, _, rfl, rfl, r14.2.inv hI⟩
                      | exact ⟨_, _, rfl, rfl, r16.2.inv hI⟩
                      | exact ⟨_, _, rfl, rfl, r17.2.inv hI⟩
                      | exact ⟨_, _, rfl, rfl, r18.2.inv hI⟩
                      | exact ⟨_, _, rfl, rfl, r19.2.inv hI⟩
                      | exact ⟨_, _, rfl, rfl, r20.2.inv hI⟩
                      | exact ⟨_, _, rfl, rfl, r21.2.inv hI⟩
                      | exact ⟨_, _, rfl, rfl, r22.2.inv hI⟩
                      | exact ⟨_, _, rfl, rfl, r23.2.inv hI⟩
                      | exact ⟨_, _, rfl, rfl, r24.2.inv hI⟩
                      | exact ⟨_, _, rfl, rfl, r25.2.inv hI⟩
                      | exact ⟨_, _, rfl, rfl, r26.2.inv hI⟩
                      | exact ⟨_, _, rfl, rfl, r27.2.inv hI⟩
                      | exact ⟨_, _, rfl, rfl, r28.2.inv hI⟩
                      | exact ⟨_, _, rfl, rfl, r29.2.inv hI⟩
                      | exact ⟨_, _, rfl, rfl, r30.2.inv hI⟩
                      | exact ⟨_, _, rfl, rfl, r31.2.inv hI⟩
                      | exact ⟨_, _, rfl, rfl, r32.2.inv hI⟩
                      | exact ⟨_, _, rfl, rfl, r33.2.inv hI⟩
                      | exact ⟨_, _, rfl, rfl, r34.2.inv hI⟩
                      | exact ⟨_, _, rfl, rfl, r35.2.inv hI⟩
                      | exact ⟨_, _, rfl, rfl, r36.2.inv hI⟩
                      | exact ⟨_, _, rfl, rfl, r37.2.inv hI⟩
                      | exact ⟨_, _, rfl, rfl, r38.2.inv hI⟩
                      | exact ⟨_, _, rfl, rfl, r39.2.inv hI⟩
                      | exact ⟨_, _, rfl, rfl, r40.2.inv hI⟩
                      | exact ⟨_, _, rfl, rfl, r41.2.inv hI⟩
                      | exact ⟨_, _, rfl, rfl, r42.2.inv hI⟩
                      | exact ⟨_, _, rfl, rfl, r43.2.inv hI⟩
                      | exact ⟨_, _, rfl, rfl, r44.2.inv hI⟩
                      | exact ⟨_, _, rfl, rfl, r45.2.inv hI⟩
                      | exact ⟨_, _, rfl, rfl, r46.2.inv hI⟩
                      | exact ⟨_, _, rfl, rfl, r47.2.inv hI⟩
                      | exact ⟨_, _, rfl, rfl, r48.2.inv hI⟩
                      | exact ⟨_, _, rfl, rfl, r49.2.inv hI⟩
                      | exact ⟨_, _, rfl, rfl, r50.2.inv hI⟩
                      | exact ⟨_, _, rfl, rfl, r51.2.inv hI⟩
                      | exact ⟨_, _, rfl, rfl, r52.2.inv hI⟩
                      | exact ⟨_, _, rfl, rfl, r53.2.inv hI⟩
                      | exact ⟨_, _, rfl, rfl, r54.2.inv hI⟩
                      | exact ⟨_, _, rfl, rfl, r55.2.inv hI⟩
                      | exact ⟨_, _, rfl, rfl, r56.2.inv hI⟩
                      | exact ⟨_, _, rfl, rfl, r57.2.inv hI⟩
                      | exact ⟨_, _, rfl, rfl, r58.2.inv hI⟩
                      | exact ⟨_, _, rfl, rfl, r59.2.inv hI⟩
                  · have g1 := cpg hi hn hz h14
                    refine x_iload hm rfl rfl ?_
                    refine x_i2l hm rfl ?_
                    refine x_iload hm rfl rfl ?_
                    refine x_i2l hm rfl ?_
                    refine x_ladd hm rfl ?_
                    refine x_aload_n hm rfl rfl ?_
                    refine x_getf hm rfl (gR rfl rfl) ?_
                    refine x_iload_n hm rfl rfl ?_
                    refine x_iald hm rfl (lI rfl (by omega) (by decide)) ?_
                    rw [hty]
                    refine x_i2l hm rfl ?_
                    refine x_lcmp hm rfl ?_
                    refine x_if_le hm rfl (t := 125) rfl (fun h16 => ?_) (fun h16 => ?_)
                    · have g2 := cpl hj hn hy h16
                      refine x_iconst hm rfl (v := nI 0) (by decide) ?_
                      refine x_istore hm rfl rfl ?_
                      exact ev_inv hI (l237a hs ht (by omega) (by omega) _ 0 _ (Nat.lt_succ_self _) (Nat.zero_le _) Sf.rf)
                    · refine x_aload_n hm rfl rfl ?_
                      refine x_ldcI hm rfl (v := (-1000001 : Int32)) (by decide +kernel) ?_
                      refine x_cVi hm rfl rfl (t135 (by decide +kernel)) (fun v17 M17 r17 => ?_)
                      refine x_iret hm rfl rfl (by first | rfl | exact bI_nar | decide) ?_
                      first
                        | exact ⟨_, _, rfl, rfl, r17.2.inv hI⟩
                        | exact ⟨_, _, rfl, rfl, hI⟩
                        | exact ⟨_, _, rfl, rfl, r1.2.inv hI⟩
                        | exact ⟨_, _, rfl, rfl, r2.2.inv hI⟩
                        | exact ⟨_, _, rfl, rfl, r3.2.inv hI⟩
                        | exact ⟨_, _, rfl, rfl, r4.2.inv hI⟩
                        | exact ⟨_, _, rfl, rfl, r5.2.inv hI⟩
                        | exact ⟨_, _, rfl, rfl, r6.2.inv hI⟩
                        | exact ⟨_, _, rfl, rfl, r7.2.inv hI⟩
                        | exact ⟨_, _, rfl, rfl, r8.2.inv hI⟩
                        | exact ⟨_, _, rfl, rfl, r9.2.inv hI⟩
                        | exact ⟨_, _, rfl, rfl, r10.2.inv hI⟩
                        | exact ⟨_, _, rfl, rfl, r11.2.inv hI⟩
                        | exact ⟨_, _, rfl, rfl, r12.2.inv hI⟩
                        | exact ⟨_, _, rfl, rfl, r13.2.inv hI⟩
                        | exact ⟨_, _, rfl, rfl, r14.2.inv hI⟩
                        | exact ⟨_, _, rfl, rfl, r15.2.inv hI⟩
                        | exact ⟨_, _, rfl, rfl, r16.2.inv hI⟩
                        | exact ⟨_, _, rfl, rfl, r18.2.inv hI⟩
                        | exact ⟨_, _, rfl, rfl, r19.2.inv hI⟩
                        | exact ⟨_, _, rfl, rfl, r20.2.inv hI⟩
                        | exact ⟨_, _, rfl, rfl, r21.2.inv hI⟩
                        | exact ⟨_, _, rfl, rfl, r22.2.inv hI⟩
                        | exact ⟨_, _, rfl, rfl, r23.2.inv hI⟩
                        | exact ⟨_, _, rfl, rfl, r24.2.inv hI⟩
                        | exact ⟨_, _, rfl, rfl, r25.2.inv hI⟩
                        | exact ⟨_, _, rfl, rfl, r26.2.inv hI⟩
                        | exact ⟨_, _, rfl, rfl, r27.2.inv hI⟩
                        | exact ⟨_, _, rfl, rfl, r28.2.inv hI⟩
                        | exact ⟨_, _, rfl, rfl, r29.2.inv hI⟩
                        | exact ⟨_, _, rfl, rfl, r30.2.inv hI⟩
                        | exact ⟨_, _, rfl, rfl, r31.2.inv hI⟩
                        | exact ⟨_, _, rfl, rfl, r32.2.inv hI⟩
                        | exact ⟨_, _, rfl, rfl, r33.2.inv hI⟩
                        | exact ⟨_, _, rfl, rfl, r34.2.inv hI⟩
                        | exact ⟨_, _, rfl, rfl, r35.2.inv hI⟩
                        | exact ⟨_, _, rfl, rfl, r36.2.inv hI⟩
                        | exact ⟨_, _, rfl, rfl, r37.2.inv hI⟩
                        | exact ⟨_, _, rfl, rfl, r38.2.inv hI⟩
                        | exact ⟨_, _, rfl, rfl, r39.2.inv hI⟩
                        | exact ⟨_, _, rfl, rfl, r40.2.inv hI⟩
                        | exact ⟨_, _, rfl, rfl, r41.2.inv hI⟩
                        | exact ⟨_, _, rfl, rfl, r42.2.inv hI⟩
                        | exact ⟨_, _, rfl, rfl, r43.2.inv hI⟩
                        | exact ⟨_, _, rfl, rfl, r44.2.inv hI⟩
                        | exact ⟨_, _, rfl, rfl, r45.2.inv hI⟩
                        | exact ⟨_, _, rfl, rfl, r46.2.inv hI⟩
                        | exact ⟨_, _, rfl, rfl, r47.2.inv hI⟩
                        | exact ⟨_, _, rfl, rfl, r48.2.inv hI⟩
                        | exact ⟨_, _, rfl, rfl, r49.2.inv hI⟩
                        | exact ⟨_, _, rfl, rfl, r50.2.inv hI⟩
                        | exact ⟨_, _, rfl, rfl, r51.2.inv hI⟩
                        | exact ⟨_, _, rfl, rfl, r52.2.inv hI⟩
                        | exact ⟨_, _, rfl, rfl, r53.2.inv hI⟩
                        | exact ⟨_, _, rfl, rfl, r54.2.inv hI⟩
                        | exact ⟨_, _, rfl, rfl, r55.2.inv hI⟩
                        | exact ⟨_, _, rfl, rfl, r56.2.inv hI⟩
                        | exact ⟨_, _, rfl, rfl, r57.2.inv hI⟩
                        | exact ⟨_, _, rfl, rfl, r58.2.inv hI⟩
                        | exact ⟨_, _, rfl, rfl, r59.2.inv hI⟩
          · refine x_aload_n hm rfl rfl ?_
            refine x_ldc_wI hm rfl (v := (-1000003 : Int32)) (by decide) ?_
            refine x_cVi hm rfl rfl (t135 (by decide +kernel)) (fun v18 M18 r18 => ?_)
            refine x_iret hm rfl rfl (by first | rfl | exact bI_nar | decide) ?_
            first
              | exact ⟨_, _, rfl, rfl, r18.2.inv hI⟩
              | exact ⟨_, _, rfl, rfl, hI⟩
              | exact ⟨_, _, rfl, rfl, r1.2.inv hI⟩
              | exact ⟨_, _, rfl, rfl, r2.2.inv hI⟩
              | exact ⟨_, _, rfl, rfl, r3.2.inv hI⟩
              | exact ⟨_, _, rfl, rfl, r4.2.inv hI⟩
              | exact ⟨_, _, rfl, rfl, r5.2.inv hI⟩
              | exact ⟨_, _, rfl, rfl, r6.2.inv hI⟩
              | exact ⟨_, _, rfl, rfl, r7.2.inv hI⟩
              | exact ⟨_, _, rfl, rfl, r8.2.inv hI⟩
              | exact ⟨_, _, rfl, rfl, r9.2.inv hI⟩
              | exact ⟨_, _, rfl, rfl, r10.2.inv hI⟩
              | exact ⟨_, _, rfl, rfl, r11.2.inv hI⟩
              | exact ⟨_, _, rfl, rfl, r12.2.inv hI⟩
              | exact ⟨_, _, rfl, rfl, r13.2.inv hI⟩
              | exact ⟨_, _, rfl, rfl, r14.2.inv hI⟩
              | exact ⟨_, _, rfl, rfl, r15.2.inv hI⟩
              | exact ⟨_, _, rfl, rfl, r16.2.inv hI⟩
              | exact ⟨_, _, rfl, rfl, r17.2.inv hI⟩
              | exact ⟨_, _, rfl, rfl, r19.2.inv hI⟩
              | exact ⟨_, _, rfl, rfl, r20.2.inv hI⟩
              | exact ⟨_, _, rfl, rfl, r21.2.inv hI⟩
              | exact ⟨_, _, rfl, rfl, r22.2.inv hI⟩
              | exact ⟨_, _, rfl, rfl, r23.2.inv hI⟩
              | exact ⟨_, _, rfl, rfl, r24.2.inv hI⟩
              | exact ⟨_, _, rfl, rfl, r25.2.inv hI⟩
              | exact ⟨_, _, rfl, rfl, r26.2.inv hI⟩
              | exact ⟨_, _, rfl, rfl, r27.2.inv hI⟩
              | exact ⟨_, _, rfl, rfl, r28.2.inv hI⟩
              | exact ⟨_, _, rfl, rfl, r29.2.inv hI⟩
              | exact ⟨_, _, rfl, rfl, r30.2.inv hI⟩
              | exact ⟨_, _, rfl, rfl, r31.2.inv hI⟩
              | exact ⟨_, _, rfl, rfl, r32.2.inv hI⟩
              | exact ⟨_, _, rfl, rfl, r33.2.inv hI⟩
              | exact ⟨_, _, rfl, rfl, r34.2.inv hI⟩
              | exact ⟨_, _, rfl, rfl, r35.2.inv hI⟩
              | exact ⟨_, _, rfl, rfl, r36.2.inv hI⟩
              | exact ⟨_, _, rfl, rfl, r37.2.inv hI⟩
              | exact ⟨_, _, rfl, rfl, r38.2.inv hI⟩
              | exact ⟨_, _, rfl, rfl, r39.2.inv hI⟩
              | exact ⟨_, _, rfl, rfl, r40.2.inv hI⟩
              | exact ⟨_, _, rfl, rfl, r41.2.inv hI⟩
              | exact ⟨_, _, rfl, rfl, r42.2.inv hI⟩
              | exact ⟨_, _, rfl, rfl, r43.2.inv hI⟩
              | exact ⟨_, _, rfl, rfl, r44.2.inv hI⟩
              | exact ⟨_, _, rfl, rfl, r45.2.inv hI⟩
              | exact ⟨_, _, rfl, rfl, r46.2.inv hI⟩
              | exact ⟨_, _, rfl, rfl, r47.2.inv hI⟩
              | exact ⟨_, _, rfl, rfl, r48.2.inv hI⟩
              | exact ⟨_, _, rfl, rfl, r49.2.inv hI⟩
              | exact ⟨_, _, rfl, rfl, r50.2.inv hI⟩
              | exact ⟨_, _, rfl, rfl, r51.2.inv hI⟩
              | exact ⟨_, _, rfl, rfl, r52.2.inv hI⟩
              | exact ⟨_, _, rfl, rfl, r53.2.inv hI⟩
              | exact ⟨_, _, rfl, rfl, r54.2.inv hI⟩
              | exact ⟨_, _, rfl, rfl, r55.2.inv hI⟩
              | exact ⟨_, _, rfl, rfl, r56.2.inv hI⟩
              | exact ⟨_, _, rfl, rfl, r57.2.inv hI⟩
              | exact ⟨_, _, rfl, rfl, r58.2.inv hI⟩
              | exact ⟨_, _, rfl, rfl, r59.2.inv hI⟩
        · refine x_aload_n hm rfl rfl ?_
          refine x_ldcI hm rfl (v := (-1000006 : Int32)) (by decide +kernel) ?_
          refine x_cVi hm rfl rfl (t135 (by decide +kernel)) (fun v19 M19 r19 => ?_)
          refine x_iret hm rfl rfl (by first | rfl | exact bI_nar | decide) ?_
          first
            | exact ⟨_, _, rfl, rfl, r19.2.inv hI⟩
            | exact ⟨_, _, rfl, rfl, hI⟩
            | exact ⟨_, _, rfl, rfl, r1.2.inv hI⟩
            | exact ⟨_, _, rfl, rfl, r2.2.inv hI⟩
            | exact ⟨_, _, rfl, rfl, r3.2.inv hI⟩
            | exact ⟨_, _, rfl, rfl, r4.2.inv hI⟩
            | exact ⟨_, _, rfl, rfl, r5.2.inv hI⟩
            | exact ⟨_, _, rfl, rfl, r6.2.inv hI⟩
            | exact ⟨_, _, rfl, rfl, r7.2.inv hI⟩
            | exact ⟨_, _, rfl, rfl, r8.2.inv hI⟩
            | exact ⟨_, _, rfl, rfl, r9.2.inv hI⟩
            | exact ⟨_, _, rfl, rfl, r10.2.inv hI⟩
            | exact ⟨_, _, rfl, rfl, r11.2.inv hI⟩
            | exact ⟨_, _, rfl, rfl, r12.2.inv hI⟩
            | exact ⟨_, _, rfl, rfl, r13.2.inv hI⟩
            | exact ⟨_, _, rfl, rfl, r14.2.inv hI⟩
            | exact ⟨_, _, rfl, rfl, r15.2.inv hI⟩
            | exact ⟨_, _, rfl, rfl, r16.2.inv hI⟩
            | exact ⟨_, _, rfl, rfl, r17.2.inv hI⟩
            | exact ⟨_, _, rfl, rfl, r18.2.inv hI⟩
            | exact ⟨_, _, rfl, rfl, r20.2.inv hI⟩
            | exact ⟨_, _, rfl, rfl, r21.2.inv hI⟩
            | exact ⟨_, _, rfl, rfl, r22.2.inv hI⟩
            | exact ⟨_, _, rfl, rfl, r23.2.inv hI⟩
            | exact ⟨_, _, rfl, rfl, r24.2.inv hI⟩
            | exact ⟨_, _, rfl, rfl, r25.2.inv hI⟩
            | exact ⟨_, _, rfl, rfl, r26.2.inv hI⟩
            | exact ⟨_, _, rfl, rfl, r27.2.inv hI⟩
            | exact ⟨_, _, rfl, rfl, r28.2.inv hI⟩
            | exact ⟨_, _, rfl, rfl, r29.2.inv hI⟩
            | exact ⟨_, _, rfl, rfl, r30.2.inv hI⟩
            | exact ⟨_, _, rfl, rfl, r31.2.inv hI⟩
            | exact ⟨_, _, rfl, rfl, r32.2.inv hI⟩
            | exact ⟨_, _, rfl, rfl, r33.2.inv hI⟩
            | exact ⟨_, _, rfl, rfl, r34.2.inv hI⟩
            | exact ⟨_, _, rfl, rfl, r35.2.inv hI⟩
            | exact ⟨_, _, rfl, rfl, r36.2.inv hI⟩
            | exact ⟨_, _, rfl, rfl, r37.2.inv hI⟩
            | exact ⟨_, _, rfl, rfl, r38.2.inv hI⟩
            | exact ⟨_, _, rfl, rfl, r39.2.inv hI⟩
            | exact ⟨_, _, rfl, rfl, r40.2.inv hI⟩
            | exact ⟨_, _, rfl, rfl, r41.2.inv hI⟩
            | exact ⟨_, _, rfl, rfl, r42.2.inv hI⟩
            | exact ⟨_, _, rfl, rfl, r43.2.inv hI⟩
            | exact ⟨_, _, rfl, rfl, r44.2.inv hI⟩
            | exact ⟨_, _, rfl, rfl, r45.2.inv hI⟩
            | exact ⟨_, _, rfl, rfl, r46.2.inv hI⟩
            | exact ⟨_, _, rfl, rfl, r47.2.inv hI⟩
            | exact ⟨_, _, rfl, rfl, r48.2.inv hI⟩
            | exact ⟨_, _, rfl, rfl, r49.2.inv hI⟩
            | exact ⟨_, _, rfl, rfl, r50.2.inv hI⟩
            | exact ⟨_, _, rfl, rfl, r51.2.inv hI⟩
            | exact ⟨_, _, rfl, rfl, r52.2.inv hI⟩
            | exact ⟨_, _, rfl, rfl, r53.2.inv hI⟩
            | exact ⟨_, _, rfl, rfl, r54.2.inv hI⟩
            | exact ⟨_, _, rfl, rfl, r55.2.inv hI⟩
            | exact ⟨_, _, rfl, rfl, r56.2.inv hI⟩
            | exact ⟨_, _, rfl, rfl, r57.2.inv hI⟩
            | exact ⟨_, _, rfl, rfl, r58.2.inv hI⟩
            | exact ⟨_, _, rfl, rfl, r59.2.inv hI⟩
    · refine x_aload_n hm rfl rfl ?_
      refine x_ldcI hm rfl (v := (-1000001 : Int32)) (by decide +kernel) ?_
      refine x_cVi hm rfl rfl (t135 (by decide +kernel)) (fun v20 M20 r20 => ?_)
      refine x_iret hm rfl rfl (by first | rfl | exact bI_nar | decide) ?_
      first
        | exact ⟨_, _, rfl, rfl, r20.2.inv hI⟩
        | exact ⟨_, _, rfl, rfl, hI⟩
        | exact ⟨_, _, rfl, rfl, r1.2.inv hI⟩
        | exact ⟨_, _, rfl, rfl, r2.2.inv hI⟩
        | exact ⟨_, _, rfl, rfl, r3.2.inv hI⟩
        | exact ⟨_, _, rfl, rfl, r4.2.inv hI⟩
        | exact ⟨_, _, rfl, rfl, r5.2.inv hI⟩
        | exact ⟨_, _, rfl, rfl, r6.2.inv hI⟩
        | exact ⟨_, _, rfl, rfl, r7.2.inv hI⟩
        | exact ⟨_, _, rfl, rfl, r8.2.inv hI⟩
        | exact ⟨_, _, rfl, rfl, r9.2.inv hI⟩
        | exact ⟨_, _, rfl, rfl, r10.2.inv hI⟩
        | exact ⟨_, _, rfl, rfl, r11.2.inv hI⟩
        | exact ⟨_, _, rfl, rfl, r12.2.inv hI⟩
        | exact ⟨_, _, rfl, rfl, r13.2.inv hI⟩
        | exact ⟨_, _, rfl, rfl, r14.2.inv hI⟩
        | exact ⟨_, _, rfl, rfl, r15.2.inv hI⟩
        | exact ⟨_, _, rfl, rfl, r16.2.inv hI⟩
        | exact ⟨_, _, rfl, rfl, r17.2.inv hI⟩
        | exact ⟨_, _, rfl, rfl, r18.2.inv hI⟩
        | exact ⟨_, _, rfl, rfl, r19.2.inv hI⟩
        | exact ⟨_, _, rfl, rfl, r21.2.inv hI⟩
        | exact ⟨_, _, rfl, rfl, r22.2.inv hI⟩
        | exact ⟨_, _, rfl, rfl, r23.2.inv hI⟩
        | exact ⟨_, _, rfl, rfl, r24.2.inv hI⟩
        | exact ⟨_, _, rfl, rfl, r25.2.inv hI⟩
        | exact ⟨_, _, rfl, rfl, r26.2.inv hI⟩
        | exact ⟨_, _, rfl, rfl, r27.2.inv hI⟩
        | exact ⟨_, _, rfl, rfl, r28.2.inv hI⟩
        | exact ⟨_, _, rfl, rfl, r29.2.inv hI⟩
        | exact ⟨_, _, rfl, rfl, r30.2.inv hI⟩
        | exact ⟨_, _, rfl, rfl, r31.2.inv hI⟩
        | exact ⟨_, _, rfl, rfl, r32.2.inv hI⟩
        | exact ⟨_, _, rfl, rfl, r33.2.inv hI⟩
        | exact ⟨_, _, rfl, rfl, r34.2.inv hI⟩
        | exact ⟨_, _, rfl, rfl, r35.2.inv hI⟩
        | exact ⟨_, _, rfl, rfl, r36.2.inv hI⟩
        | exact ⟨_, _, rfl, rfl, r37.2.inv hI⟩
        | exact ⟨_, _, rfl, rfl, r38.2.inv hI⟩
        | exact ⟨_, _, rfl, rfl, r39.2.inv hI⟩
        | exact ⟨_, _, rfl, rfl, r40.2.inv hI⟩
        | exact ⟨_, _, rfl, rfl, r41.2.inv hI⟩
        | exact ⟨_, _, rfl, rfl, r42.2.inv hI⟩
        | exact ⟨_, _, rfl, rfl, r43.2.inv hI⟩
        | exact ⟨_, _, rfl, rfl, r44.2.inv hI⟩
        | exact ⟨_, _, rfl, rfl, r45.2.inv hI⟩
        | exact ⟨_, _, rfl, rfl, r46.2.inv hI⟩
        | exact ⟨_, _, rfl, rfl, r47.2.inv hI⟩
        | exact ⟨_, _, rfl, rfl, r48.2.inv hI⟩
        | exact ⟨_, _, rfl, rfl, r49.2.inv hI⟩
        | exact ⟨_, _, rfl, rfl, r50.2.inv hI⟩
        | exact ⟨_, _, rfl, rfl, r51.2.inv hI⟩
        | exact ⟨_, _, rfl, rfl, r52.2.inv hI⟩
        | exact ⟨_, _, rfl, rfl, r53.2.inv hI⟩
        | exact ⟨_, _, rfl, rfl, r54.2.inv hI⟩
        | exact ⟨_, _, rfl, rfl, r55.2.inv hI⟩
        | exact ⟨_, _, rfl, rfl, r56.2.inv hI⟩
        | exact ⟨_, _, rfl, rfl, r57.2.inv hI⟩
        | exact ⟨_, _, rfl, rfl, r58.2.inv hI⟩
        | exact ⟨_, _, rfl, rfl, r59.2.inv hI⟩
end RQ
end
section
/-! ===== the reference: its texts ===== -/
section RS
variable {X : mSc} {Q : Option Value → mHp → Prop} {M : mM}
/-- reading an item: cells that may have changed since -/
def Lw (m : Nat) (M0 M : mM) : Prop := ∀ a x, (a ≠ 66 ∨ x < 10) → (a ≠ 75 ∨ x < 7 * m ∨ 7 * m + 7 ≤ x) → M a x = M0 a x
theorem Lw.rf {m : Nat} : Lw m M M := fun _ _ _ _ => rfl
theorem Lw.trans {m : Nat} {M1 M2 : mM} (h : Lw m M M1) (g : Lw m M1 M2) : Lw m M M2 := fun a x h1 h2 => (g a x h1 h2).trans (h a x h1 h2)
theorem Ly.lw {m : Nat} {M1 : mM} (h : Ly M M1) : Lw m M M1 := fun a x h1 _ => h a x (by omega)
theorem Lw.put {m x : Nat} {v : Int32} (hx : 10 ≤ x) : Lw m M (mput M 66 x v) := fun a y h1 _ => by
  unfold mput
  rw [if_neg]
  rintro ⟨e1, e2⟩
  omega
theorem Lw.wf {m : Nat} {M1 : mM} (h : Lw m M M1) (hW : Wf M) : Wf M1 := by
  intro a x
  by_cases h1 : a ≠ 66 ∨ x < 10
  · by_cases h2 : a ≠ 75 ∨ x < 7 * m ∨ 7 * m + 7 ≤ x
    · rw [h a x h1 h2]
      exact hW a x
    · have e : a = 75 := by omega
      subst e
      rw [kd75]
      trivial
  · have e : a = 66 := by omega
    subst e
    rw [kd66 (by omega)]
    trivial
def Ri (P : Prop) (b0 c m tn pn : Nat) (M0 M : mM) : Prop := (∃ b e, Tx b e c M ∧ b0 ≤ b ∧ (M 66 14 = 0 → b0 + 1 ≤ b ∧ P)) ∧ M 66 17 = nI m ∧ M 66 18 = nI tn ∧ M 66 19 = nI pn ∧ Lw m M0 M
theorem Ri.keep {P P' : Prop} {b0 c m tn pn b e : Nat} {M0 M1 : mM} (h : Ri P b0 c m tn pn M0 M) (hL : Ly M M1) (hT : Tx b e c M1) (hb : b0 ≤ b) (hp : M1 66 14 = 0 → b0 + 1 ≤ b ∧ P') : Ri P' b0 c m tn pn M0 M1 := by
  obtain ⟨-, h17, h18, h19, hl⟩ := h
  exact ⟨⟨b, e, hT, hb, hp⟩, (hL 66 17 (by omega)).trans h17, (hL 66 18 (by omega)).trans h18, (hL 66 19 (by omega)).trans h19, hl.trans hL.lw⟩
theorem Ri.tx {P : Prop} {b0 c m tn pn : Nat} {M0 : mM} (h : Ri P b0 c m tn pn M0 M) : ∃ b e, Tx b e c M ∧ b0 ≤ b ∧ (M 66 14 = 0 → b0 + 1 ≤ b ∧ P) := h.1
theorem u228 {P : Prop} {b0 c m tn pn : Nat} {M0 : mM} {lo hi : Int32} (h : Ri P b0 c m tn pn M0 M) : ∃ v M', mT X 228 [.ref 66, .int lo, .int hi] (con M) (some (.int v)) (con M') ∧ Ri (P ∧ (lo ≤ v ∧ v ≤ hi)) b0 c m tn pn M0 M' := by
  obtain ⟨b, e, hT, hb, hp⟩ := h.1
  obtain ⟨v, M1, h1, b1, e1, g1, g2, g3, g4⟩ := t228 (X := X) (lo := lo) (hi := hi) hT
  exact ⟨v, M1, h1, h.keep g2 g1 (Nat.le_trans hb g3) (fun q => ⟨Nat.le_trans (hp (g4 q).1).1 g3, (hp (g4 q).1).2, (g4 q).2.1⟩)⟩
theorem u227 {P : Prop} {b0 c m tn pn t : Nat} {M0 : mM} {w lo hi : Int32} (ht : t < 15) (h : Ri P b0 c m tn pn M0 M) : ∃ v M', mT X 227 [.ref 66, .ref (1000000 + t), .int w, .int lo, .int hi] (con M) (some (.int v)) (con M') ∧ Ri (P ∧ (v = w ∨ (lo ≤ v ∧ v ≤ hi))) b0 c m tn pn M0 M' := by
  obtain ⟨b, e, hT, hb, hp⟩ := h.1
  obtain ⟨v, M1, h1, b1, e1, g1, g2, g3, g4⟩ := t227 (X := X) (w := w) (lo := lo) (hi := hi) hT ht
  exact ⟨v, M1, h1, h.keep g2 g1 (Nat.le_trans hb g3) (fun q => ⟨Nat.le_trans (hp (g4 q).1).1 g3, (hp (g4 q).1).2, (g4 q).2⟩)⟩
/-- the first must of an item, at a word -/
theorem u226 {b e c m tn pn : Nat} {x : Int32} (hT : Tx b e c M) (h17 : M 66 17 = nI m) (h18 : M 66 18 = nI tn) (h19 : M 66 19 = nI pn) (hw : ¬ x = 0 → b < e) : ∃ M', mT X 226 [.ref 66, .int x] (con M) none (con M') ∧ Ri (¬ x = 0) b c m tn pn M M' := by
  obtain ⟨M1, h1, b1, e1, g1, g2, g3, g4⟩ := t226 (X := X) (x := x) hT
  exact ⟨M1, h1, ⟨b1, e1, g1, g3, fun q => ⟨by have := hw (g4 q).2.1; have := (g4 q).2.2; omega, (g4 q).2.1⟩⟩, (g2 66 17 (by omega)).trans h17, (g2 66 18 (by omega)).trans h18, (g2 66 19 (by omega)).trans h19, g2.lw⟩
theorem Ri.p19 {P : Prop} {b0 c m tn pn : Nat} {M0 : mM} (h : Ri P b0 c m tn pn M0 M) : Ri P b0 c m tn (pn + 1) M0 (mput M 66 19 (nI (pn + 1))) := by
  obtain ⟨⟨b, e, ⟨h1, h2, h3, h4, h5, h6, h7⟩, hb, hp⟩, h17, h18, h19, hl⟩ := h
  exact ⟨⟨b, e, ⟨(mpf (by decide)).trans h1, (mpf (by decide)).trans h2, (mpf (by decide)).trans h3, h4, h5, h6, fun q => h7 (by rwa [mpf (by decide)] at q)⟩, hb, fun q => hp (by rwa [mpf (by decide)] at q)⟩, (mpf (by decide)).trans h17, (mpf (by decide)).trans h18, mp0, hl.trans (Lw.put (by decide))⟩
theorem Ri.p18 {P : Prop} {b0 c m tn pn : Nat} {M0 : mM} (h : Ri P b0 c m tn pn M0 M) : Ri P b0 c m (tn + 1) pn M0 (mput M 66 18 (nI (tn + 1))) := by
  obtain ⟨⟨b, e, ⟨h1, h2, h3, h4, h5, h6, h7⟩, hb, hp⟩, h17, h18, h19, hl⟩ := h
  exact ⟨⟨b, e, ⟨(mpf (by decide)).trans h1, (mpf (by decide)).trans h2, (mpf (by decide)).trans h3, h4, h5, h6, fun q => h7 (by rwa [mpf (by decide)] at q)⟩, hb, fun q => hp (by rwa [mpf (by decide)] at q)⟩, (mpf (by decide)).trans h17, mp0, (mpf (by decide)).trans h19, hl.trans (Lw.put (by decide))⟩
/-- an item as it is told -/
def Itm (M : mM) (m tn tn' pn pn' : Nat) : Prop := (∃ k, k < 7 ∧ M 75 (7 * m) = nI k ∧ tn' = tn ∧ pn' = pn + 1 ∧ pn < 8) ∨ (M 75 (7 * m) = nI 10 ∧ tn' = tn + 1 ∧ pn' = pn ∧ tn < 8 ∧ okx 3 (M 75 (7 * m + 1)) ∧ okx 2 (M 75 (7 * m + 5)) ∧ (M 75 (7 * m + 6) = -1 ∨ ∃ u, u < tn ∧ M 75 (7 * m + 6) = nI u))
theorem mpn {a b i j : Nat} {v : Int32} (h : ¬ (i = a ∧ j = b)) : mput M a b v i j = M i j := if_neg h
theorem it7_at {m : Nat} {w a b c d e f : Int32} : it7 M m w a b c d e f 75 (7 * m) = w ∧ it7 M m w a b c d e f 75 (7 * m + 1) = a ∧ it7 M m w a b c d e f 75 (7 * m + 5) = e ∧ it7 M m w a b c d e f 75 (7 * m + 6) = f := by
  unfold it7 mput
  refine ⟨?_, ?_, ?_, ?_⟩ <;> simp
theorem it7_o {m : Nat} {w a b c d e f : Int32} : Lw m M (it7 M m w a b c d e f) := by
  intro i x h1 h2
  unfold it7
  rw [mpn (by omega), mpn (by omega), mpn (by omega), mpn (by omega), mpn (by omega), mpn (by omega), mpn (by omega), mpn (by omega)]
theorem it7_66 {m x : Nat} {w a b c d e f : Int32} (hx : x ≠ 17) : it7 M m w a b c d e f 66 x = M 66 x := by
  unfold it7
  rw [mpn (by omega), mpn (by omega), mpn (by omega), mpn (by omega), mpn (by omega), mpn (by omega), mpn (by omega), mpn (by omega)]
/-- what an item's reading leaves -/
def Rz (b0 c m tn pn : Nat) (M0 M : mM) : Prop := ∃ tn' pn' b e, Tx b e c M ∧ b0 ≤ b ∧ M 66 17 = nI (m + 1) ∧ M 66 18 = nI tn' ∧ M 66 19 = nI pn' ∧ Lw m M0 M ∧ (M 66 14 = 0 → b0 + 1 ≤ b ∧ Itm M m tn tn' pn pn')
theorem Ri.fin {P : Prop} {b0 c m tn pn tn' pn' : Nat} {w a b c1 d e f : Int32} {M0 : mM} (h : Ri P b0 c m tn' pn' M0 M) (hp : P → Itm (it7 M m w a b c1 d e f) m tn tn' pn pn') : Rz b0 c m tn pn M0 (it7 M m w a b c1 d e f) := by
  obtain ⟨⟨b1, e1, ⟨h1, h2, h3, h4, h5, h6, h7⟩, hb, hpp⟩, h17, h18, h19, hl⟩ := h
  refine ⟨tn', pn', b1, e1, ⟨(it7_66 (by decide)).trans h1, (it7_66 (by decide)).trans h2, (it7_66 (by decide)).trans h3, h4, h5, h6, fun q => h7 (by rwa [it7_66 (by decide)] at q)⟩, hb, ?_, (it7_66 (by decide)).trans h18, (it7_66 (by decide)).trans h19, hl.trans it7_o, fun q => ?_⟩
  · unfold it7
    exact mp0
  · rw [it7_66 (by decide)] at q
    exact ⟨(hpp q).1, hp (hpp q).2⟩
theorem sel_k {v : Int32} {k : Nat} (h : nI 0 ≤ v ∧ v ≤ nI k - nI 1) (hk : k ≤ 8) : ∃ u, u < k ∧ v = nI u := in_k rfl (by omega) h
theorem rng3 {v : Int32} (h : nI 0 ≤ v ∧ v ≤ nI 3) : okx 3 v := okx_le3 h
theorem ow_k {v : Int32} {k : Nat} (hk : k ≤ 8) (h : v = -1 ∨ (nI 0 ≤ v ∧ v ≤ nI k - nI 1)) : v = -1 ∨ ∃ u, u < k ∧ v = nI u := h.imp id (fun q => sel_k q hk)
theorem ow_ok {v : Int32} {k : Nat} (hk : k ≤ 8) (h : v = -1 ∨ ∃ u, u < k ∧ v = nI u) : okx 2 v := by
  rcases h with rfl | ⟨u, hu, rfl⟩
  · exact okM1
  · exact okI2 (by omega)
/- tails of a person's reading, joined -/
theorem l223d {b0 c m tn pn kk : Nat} {M0 : mM} {v2 v3 v4 v5 v6 v7 : Int32} {P : Prop} (hkk : kk < 7) (hm2 : 2 * m ≤ b0) (hc1 : b0 ≤ 120) (hP : P → pn < 8) (hR : Ri P b0 c m tn (pn + 1) M0 M) : mEv X (QV (fun M' => Rz b0 c m tn pn M0 M')) 223 128 [some (.ref 66), some (.int (nI kk)), some (.int v2), some (.int v3), some (.int v4), some (.int v5), some (.int v6), some (.int v7)] [] (con M) := by
  have hm : mMet 223 = some _ := rfl
  refine x_aload_n hm rfl rfl ?_
  have e17 := hR.2.1
  refine x_iload_n hm rfl rfl ?_
  refine x_iload_n hm rfl rfl ?_
  refine x_iload_n hm rfl rfl ?_
  refine x_iload hm rfl rfl ?_
  refine x_if_ge hm rfl (t := 141) rfl (fun h1 => ?_) (fun h1 => ?_)
  · refine x_iload hm rfl rfl ?_
    refine x_iload hm rfl rfl ?_
    refine x_iload hm rfl rfl ?_
    refine x_iload hm rfl rfl ?_
    refine x_callV hm rfl rfl (t229 (by assumption) (by omega)) ?_
    refine x_goto hm rfl (t := 290) rfl ?_
    refine x_ret hm rfl rfl ?_
    exact ⟨_, rfl, rfl, hR.fin (fun hp => Or.inl ⟨kk, hkk, it7_at.1, rfl, rfl, hP hp⟩)⟩
  · refine x_iconst hm rfl (v := nI 1) (by decide) ?_
    refine x_goto hm rfl (t := 143) rfl ?_
    refine x_iload hm rfl rfl ?_
    refine x_iload hm rfl rfl ?_
    refine x_iload hm rfl rfl ?_
    refine x_callV hm rfl rfl (t229 (by assumption) (by omega)) ?_
    refine x_goto hm rfl (t := 290) rfl ?_
    refine x_ret hm rfl rfl ?_
    exact ⟨_, rfl, rfl, hR.fin (fun hp => Or.inl ⟨kk, hkk, it7_at.1, rfl, rfl, hP hp⟩)⟩
theorem l223c {b0 c m tn pn kk : Nat} {M0 : mM} {v2 v3 v4 v5 v6 : Int32} {P : Prop} (hkk : kk < 7) (hm2 : 2 * m ≤ b0) (hc1 : b0 ≤ 120) (hP : P → pn < 8) (hR : Ri P b0 c m tn (pn + 1) M0 M) : mEv X (QV (fun M' => Rz b0 c m tn pn M0 M')) 223 110 [some (.ref 66), some (.int (nI kk)), some (.int v2), some (.int v3), some (.int v4), some (.int v5), some (.int v6), none] [] (con M) := by
  have hm : mMet 223 = some _ := rfl
  refine x_iload hm rfl rfl ?_
  refine x_if_ge hm rfl (t := 119) rfl (fun h1 => ?_) (fun h1 => ?_)
  · refine x_aload_n hm rfl rfl ?_
    refine x_iconst hm rfl (v := nI 0) (by decide) ?_
    refine x_bipush hm rfl (v := nI 9) (by decide) ?_
    refine x_cVi hm rfl rfl (u228 (by assumption)) (fun v2 M2 r2 => ?_)
    refine x_istore hm rfl rfl ?_
    first
      | exact l223d hkk hm2 hc1 (fun q => hP q.1) r2
      | exact l223d hkk hm2 hc1 hP hR
      | exact l223d hkk hm2 hc1 (fun q => hP q.1) r1
      | exact l223d hkk hm2 hc1 (fun q => hP q.1) r3
      | exact l223d hkk hm2 hc1 (fun q => hP q.1) r4
      | exact l223d hkk hm2 hc1 (fun q => hP q.1) r5
  · refine x_iconst hm rfl (v := nI 1) (by decide) ?_
    refine x_goto hm rfl (t := 126) rfl ?_
    refine x_istore hm rfl rfl ?_
    first
      | exact l223d hkk hm2 hc1 hP hR
      | exact l223d hkk hm2 hc1 (fun q => hP q.1) r1
      | exact l223d hkk hm2 hc1 (fun q => hP q.1) r2
      | exact l223d hkk hm2 hc1 (fun q => hP q.1) r3
      | exact l223d hkk hm2 hc1 (fun q => hP q.1) r4
      | exact l223d hkk hm2 hc1 (fun q => hP q.1) r5
theorem l223b {b0 c m tn pn kk : Nat} {M0 : mM} {v2 v3 v4 v5 : Int32} {P : Prop} (hkk : kk < 7) (hm2 : 2 * m ≤ b0) (hc1 : b0 ≤ 120) (hP : P → pn < 8) (hR : Ri P b0 c m tn (pn + 1) M0 M) : mEv X (QV (fun M' => Rz b0 c m tn pn M0 M')) 223 92 [some (.ref 66), some (.int (nI kk)), some (.int v2), some (.int v3), some (.int v4), some (.int v5), none, none] [] (con M) := by
  have hm : mMet 223 = some _ := rfl
  refine x_iload hm rfl rfl ?_
  refine x_if_ge hm rfl (t := 101) rfl (fun h1 => ?_) (fun h1 => ?_)
  · refine x_aload_n hm rfl rfl ?_
    refine x_iconst hm rfl (v := nI 0) (by decide) ?_
    refine x_bipush hm rfl (v := nI 9) (by decide) ?_
    refine x_cVi hm rfl rfl (u228 (by assumption)) (fun v2 M2 r2 => ?_)
    refine x_istore hm rfl rfl ?_
    first
      | exact l223c hkk hm2 hc1 (fun q => hP q.1) r2
      | exact l223c hkk hm2 hc1 hP hR
      | exact l223c hkk hm2 hc1 (fun q => hP q.1) r1
      | exact l223c hkk hm2 hc1 (fun q => hP q.1) r3
      | exact l223c hkk hm2 hc1 (fun q => hP q.1) r4
      | exact l223c hkk hm2 hc1 (fun q => hP q.1) r5
  · refine x_iconst hm rfl (v := nI 1) (by decide) ?_
    refine x_goto hm rfl (t := 108) rfl ?_
    refine x_istore hm rfl rfl ?_
    first
      | exact l223c hkk hm2 hc1 hP hR
      | exact l223c hkk hm2 hc1 (fun q => hP q.1) r1
      | exact l223c hkk hm2 hc1 (fun q => hP q.1) r2
      | exact l223c hkk hm2 hc1 (fun q => hP q.1) r3
      | exact l223c hkk hm2 hc1 (fun q => hP q.1) r4
      | exact l223c hkk hm2 hc1 (fun q => hP q.1) r5
theorem l223a {b0 c m tn pn kk : Nat} {M0 : mM} {v2 v3 v4 : Int32} {P : Prop} (hkk : kk < 7) (hm2 : 2 * m ≤ b0) (hc1 : b0 ≤ 120) (hP : P → pn < 8) (hR : Ri P b0 c m tn (pn + 1) M0 M) : mEv X (QV (fun M' => Rz b0 c m tn pn M0 M')) 223 74 [some (.ref 66), some (.int (nI kk)), some (.int v2), some (.int v3), some (.int v4), none, none, none] [] (con M) := by
  have hm : mMet 223 = some _ := rfl
  refine x_iload hm rfl rfl ?_
  refine x_if_ge hm rfl (t := 83) rfl (fun h1 => ?_) (fun h1 => ?_)
  · refine x_aload_n hm rfl rfl ?_
    refine x_iconst hm rfl (v := nI 0) (by decide) ?_
    refine x_bipush hm rfl (v := nI 9) (by decide) ?_
    refine x_cVi hm rfl rfl (u228 (by assumption)) (fun v2 M2 r2 => ?_)
    refine x_istore hm rfl rfl ?_
    first
      | exact l223b hkk hm2 hc1 (fun q => hP q.1) r2
      | exact l223b hkk hm2 hc1 hP hR
      | exact l223b hkk hm2 hc1 (fun q => hP q.1) r1
      | exact l223b hkk hm2 hc1 (fun q => hP q.1) r3
      | exact l223b hkk hm2 hc1 (fun q => hP q.1) r4
      | exact l223b hkk hm2 hc1 (fun q => hP q.1) r5
  · refine x_iconst hm rfl (v := nI 1) (by decide) ?_
    refine x_goto hm rfl (t := 90) rfl ?_
    refine x_istore hm rfl rfl ?_
    first
      | exact l223b hkk hm2 hc1 hP hR
      | exact l223b hkk hm2 hc1 (fun q => hP q.1) r1
      | exact l223b hkk hm2 hc1 (fun q => hP q.1) r2
      | exact l223b hkk hm2 hc1 (fun q => hP q.1) r3
      | exact l223b hkk hm2 hc1 (fun q => hP q.1) r4
      | exact l223b hkk hm2 hc1 (fun q => hP q.1) r5
theorem t223 {b0 e c m tn pn : Nat} (hT : Tx b0 e c M) (h17 : M 66 17 = nI m) (h18 : M 66 18 = nI tn) (h19 : M 66 19 = nI pn) (hm2 : 2 * m ≤ b0) (htn : tn ≤ 8) (hpn : pn ≤ 8) : ∃ M', mT X 223 [.ref 66] (con M) none (con M') ∧ Rz b0 c m tn pn M M' := by
  refine tv_of (row := _) rfl (Nat.le_of_ble_eq_true rfl) ?_
  have hm : mMet 223 = some _ := rfl
  have hc1 : b0 ≤ 120 := Nat.le_trans hT.2.2.2.1 (Nat.le_trans hT.2.2.2.2.1 hT.2.2.2.2.2.1)
  refine x_aload_n hm rfl rfl ?_
  refine x_cVe hm rfl rfl (t224 hT) (fun v1 r1 => ?_)
  refine x_istore_n hm rfl rfl ?_
  refine x_iload_n hm rfl rfl ?_
  refine x_if_lt hm rfl (t := 155) rfl (fun h2 => ?_) (fun h2 => ?_)
  · refine x_aload_n hm rfl rfl ?_
    refine x_aload_n hm rfl rfl ?_
    refine x_ldc_wS hm rfl ?_
    refine x_cVe hm rfl rfl (t225 hT (by decide)) (fun v3 r3 => ?_)
    refine x_if_eq hm rfl (t := 179) rfl (fun h4 => ?_) (fun h4 => ?_)
    · refine x_iconst hm rfl (v := nI 0) (by decide) ?_
      refine x_cVv hm rfl rfl (by first | exact u226 hT h17 h18 h19 (fun _ => hw2) | exact u226 hT h17 h18 h19 (fun q => absurd rfl q)) (fun M5 r5 => ?_)
      first
        | have hR := r59
        | have hR := r58
        | have hR := r57
        | have hR := r56
        | have hR := r55
        | have hR := r54
        | have hR := r53
        | have hR := r52
        | have hR := r51
        | have hR := r50
        | have hR := r49
        | have hR := r48
        | have hR := r47
        | have hR := r46
        | have hR := r45
        | have hR := r44
        | have hR := r43
        | have hR := r42
        | have hR := r41
        | have hR := r40
        | have hR := r39
        | have hR := r38
        | have hR := r37
        | have hR := r36
        | have hR := r35
        | have hR := r34
        | have hR := r33
        | have hR := r32
        | have hR := r31
        | have hR := r30
        | have hR := r29
        | have hR := r28
        | have hR := r27
        | have hR := r26
        | have hR := r25
        | have hR := r24
        | have hR := r23
        | have hR := r22
        | have hR := r21
        | have hR := r20
        | have hR := r19
        | have hR := r18
        | have hR := r17
        | have hR := r16
        | have hR := r15
        | have hR := r14
        | have hR := r13
        | have hR := r12
        | have hR := r11
        | have hR := r10
        | have hR := r9
        | have hR := r8
        | have hR := r7
        | have hR := r6
        | have hR := r5
        | have hR := r4
        | have hR := r3
      first
        | have hP : ¬ (nI 1 : Int32) = 0 → tn < 8 := fun _ => hlt8
        | have hP : ¬ (nI 0 : Int32) = 0 → tn < 8 := fun q => absurd rfl q
      
      refine x_aload_n hm rfl rfl ?_
      refine x_iconst hm rfl (v := nI 0) (by decide) ?_
      refine x_iconst hm rfl (v := nI 3) (by decide) ?_
      refine x_cVi hm rfl rfl (u228 (by assumption)) (fun v6 M6 r6 => ?_)
      refine x_istore_n hm rfl rfl ?_
      refine x_aload_n hm rfl rfl ?_
      refine x_ldc_wS hm rfl ?_
      refine x_iconst hm rfl (v := nI 0) (by decide) ?_
      refine x_iconst hm rfl (v := nI 0) (by decide) ?_
      refine x_bipush hm rfl (v := nI 15) (by decide) ?_
      refine x_cVi hm rfl rfl (u227 (by decide) (by assumption)) (fun v7 M7 r7 => ?_)
      refine x_istore_n hm rfl rfl ?_
      refine x_aload_n hm rfl rfl ?_
      refine x_ldc_wS hm rfl ?_
      refine x_bipush hm rfl (v := nI 100) (by decide) ?_
      refine x_iconst hm rfl (v := nI 0) (by decide) ?_
      refine x_sipush hm rfl (v := nI 999) (by decide) ?_
      refine x_cVi hm rfl rfl (u227 (by decide) (by assumption)) (fun v8 M8 r8 => ?_)
      refine x_istore hm rfl rfl ?_
      refine x_aload_n hm rfl rfl ?_
      refine x_ldc_wS hm rfl ?_
      refine x_iconst hm rfl (v := nI 0) (by decide) ?_
      refine x_iconst hm rfl (v := nI 0) (by decide) ?_
      refine x_bipush hm rfl (v := nI 9) (by decide) ?_
      refine x_cVi hm rfl rfl (u227 (by decide) (by assumption)) (fun v9 M9 r9 => ?_)
      refine x_istore hm rfl rfl ?_
      refine x_aload_n hm rfl rfl ?_
      refine x_ldc_wS hm rfl ?_
      refine x_iconst hm rfl (v := (-1 : Int32)) (by decide) ?_
      refine x_iconst hm rfl (v := nI 0) (by decide) ?_
      refine x_aload_n hm rfl rfl ?_
      refine x_getf hm rfl (gI rfl rfl) ?_
      first
        | rw [r9.2.2.2.1]
        | rw [r8.2.2.2.1]
        | rw [r7.2.2.2.1]
        | rw [r6.2.2.2.1]
        | rw [r5.2.2.2.1]
        | rw [r3.2.2.2.1]
        | rw [r59.2.2.2.1]
        | rw [r58.2.2.2.1]
        | rw [r57.2.2.2.1]
        | rw [r56.2.2.2.1]
        | rw [r55.2.2.2.1]
        | rw [r54.2.2.2.1]
        | rw [r53.2.2.2.1]
        | rw [r52.2.2.2.1]
        | rw [r51.2.2.2.1]
        | rw [r50.2.2.2.1]
        | rw [r49.2.2.2.1]
        | rw [r48.2.2.2.1]
        | rw [r47.2.2.2.1]
        | rw [r46.2.2.2.1]
        | rw [r45.2.2.2.1]
        | rw [r44.2.2.2.1]
        | rw [r43.2.2.2.1]
        | rw [r42.2.2.2.1]
        | rw [r41.2.2.2.1]
        | rw [r40.2.2.2.1]
        | rw [r39.2.2.2.1]
        | rw [r38.2.2.2.1]
        | rw [r37.2.2.2.1]
        | rw [r36.2.2.2.1]
        | rw [r35.2.2.2.1]
        | rw [r34.2.2.2.1]
        | rw [r33.2.2.2.1]
        | rw [r32.2.2.2.1]
        | rw [r31.2.2.2.1]
        | rw [r30.2.2.2.1]
        | rw [r29.2.2.2.1]
        | rw [r28.2.2.2.1]
        | rw [r27.2.2.2.1]
        | rw [r26.2.2.2.1]
        | rw [r25.2.2.2.1]
        | rw [r24.2.2.2.1]
        | rw [r23.2.2.2.1]
        | rw [r22.2.2.2.1]
        | rw [r21.2.2.2.1]
        | rw [r20.2.2.2.1]
        | rw [r19.2.2.2.1]
        | rw [r18.2.2.2.1]
        | rw [r17.2.2.2.1]
        | rw [r16.2.2.2.1]
        | rw [r15.2.2.2.1]
        | rw [r14.2.2.2.1]
        | rw [r13.2.2.2.1]
        | rw [r12.2.2.2.1]
        | rw [r11.2.2.2.1]
        | rw [r10.2.2.2.1]
        | rw [r4.2.2.2.1]
        | rw [r2.2.2.2.1]
      refine x_iconst hm rfl (v := nI 1) (by decide) ?_
      refine x_isub hm rfl ?_
      refine x_cVi hm rfl rfl (u227 (by decide) (by assumption)) (fun v10 M10 r10 => ?_)
      refine x_istore hm rfl rfl ?_
      refine x_aload_n hm rfl rfl ?_
      refine x_ldc_wS hm rfl ?_
      refine x_iconst hm rfl (v := (-1 : Int32)) (by decide) ?_
      refine x_iconst hm rfl (v := nI 0) (by decide) ?_
      refine x_aload_n hm rfl rfl ?_
      refine x_getf hm rfl (gI rfl rfl) ?_
      first
        | rw [r10.2.2.1]
        | rw [r9.2.2.1]
        | rw [r8.2.2.1]
        | rw [r7.2.2.1]
        | rw [r6.2.2.1]
        | rw [r5.2.2.1]
        | rw [r3.2.2.1]
        | rw [r59.2.2.1]
        | rw [r58.2.2.1]
        | rw [r57.2.2.1]
        | rw [r56.2.2.1]
        | rw [r55.2.2.1]
        | rw [r54.2.2.1]
        | rw [r53.2.2.1]
        | rw [r52.2.2.1]
        | rw [r51.2.2.1]
        | rw [r50.2.2.1]
        | rw [r49.2.2.1]
        | rw [r48.2.2.1]
        | rw [r47.2.2.1]
        | rw [r46.2.2.1]
        | rw [r45.2.2.1]
        | rw [r44.2.2.1]
        | rw [r43.2.2.1]
        | rw [r42.2.2.1]
        | rw [r41.2.2.1]
        | rw [r40.2.2.1]
        | rw [r39.2.2.1]
        | rw [r38.2.2.1]
        | rw [r37.2.2.1]
        | rw [r36.2.2.1]
        | rw [r35.2.2.1]
        | rw [r34.2.2.1]
        | rw [r33.2.2.1]
        | rw [r32.2.2.1]
        | rw [r31.2.2.1]
        | rw [r30.2.2.1]
        | rw [r29.2.2.1]
        | rw [r28.2.2.1]
        | rw [r27.2.2.1]
        | rw [r26.2.2.1]
        | rw [r25.2.2.1]
        | rw [r24.2.2.1]
        | rw [r23.2.2.1]
        | rw [r22.2.2.1]
        | rw [r21.2.2.1]
        | rw [r20.2.2.1]
        | rw [r19.2.2.1]
        | rw [r18.2.2.1]
        | rw [r17.2.2.1]
        | rw [r16.2.2.1]
        | rw [r15.2.2.1]
        | rw [r14.2.2.1]
        | rw [r13.2.2.1]
        | rw [r12.2.2.1]
        | rw [r11.2.2.1]
        | rw [r4.2.2.1]
        | rw [r2.2.2.1]
      refine x_iconst hm rfl (v := nI 1) (by decide) ?_
      refine x_isub hm rfl ?_
      refine x_cVi hm rfl rfl (u227 (by decide) (by assumption)) (fun v11 M11 r11 => ?_)
      refine x_istore hm rfl rfl ?_
      refine x_aload_n hm rfl rfl ?_
      refine x_dup hm rfl rfl ?_
      refine x_getf hm rfl (gI rfl rfl) ?_
      first
        | rw [r11.2.2.1]
        | rw [r10.2.2.1]
        | rw [r9.2.2.1]
        | rw [r8.2.2.1]
        | rw [r7.2.2.1]
        | rw [r6.2.2.1]
        | rw [r5.2.2.1]
        | rw [r3.2.2.1]
        | rw [r59.2.2.1]
        | rw [r58.2.2.1]
        | rw [r57.2.2.1]
        | rw [r56.2.2.1]
        | rw [r55.2.2.1]
        | rw [r54.2.2.1]
        | rw [r53.2.2.1]
        | rw [r52.2.2.1]
        | rw [r51.2.2.1]
        | rw [r50.2.2.1]
        | rw [r49.2.2.1]
        | rw [r48.2.2.1]
        | rw [r47.2.2.1]
        | rw [r46.2.2.1]
        | rw [r45.2.2.1]
        | rw [r44.2.2.1]
        | rw [r43.2.2.1]
        | rw [r42.2.2.1]
        | rw [r41.2.2.1]
        | rw [r40.2.2.1]
        | rw [r39.2.2.1]
        | rw [r38.2.2.1]
        | rw [r37.2.2.1]
        | rw [r36.2.2.1]
        | rw [r35.2.2.1]
        | rw [r34.2.2.1]
        | rw [r33.2.2.1]
        | rw [r32.2.2.1]
        | rw [r31.2.2.1]
        | rw [r30.2.2.1]
        | rw [r29.2.2.1]
        | rw [r28.2.2.1]
        | rw [r27.2.2.1]
        | rw [r26.2.2.1]
        | rw [r25.2.2.1]
        | rw [r24.2.2.1]
        | rw [r23.2.2.1]
        | rw [r22.2.2.1]
        | rw [r21.2.2.1]
        | rw [r20.2.2.1]
        | rw [r19.2.2.1]
        | rw [r18.2.2.1]
        | rw [r17.2.2.1]
        | rw [r16.2.2.1]
        | rw [r15.2.2.1]
        | rw [r14.2.2.1]
        | rw [r13.2.2.1]
        | rw [r12.2.2.1]
        | rw [r4.2.2.1]
        | rw [r2.2.2.1]
      refine x_iconst hm rfl (v := nI 1) (by decide) ?_
      refine x_iadd hm rfl ?_
      rw [jI_add]
      refine x_putf hm rfl (pI rfl rfl (by decide) (by first | exact mFit_int | rfl | decide) rfl) ?_
      first
        | have hR2 := r59.p18
        | have hR2 := r58.p18
        | have hR2 := r57.p18
        | have hR2 := r56.p18
        | have hR2 := r55.p18
        | have hR2 := r54.p18
        | have hR2 := r53.p18
        | have hR2 := r52.p18
        | have hR2 := r51.p18
        | have hR2 := r50.p18
        | have hR2 := r49.p18
        | have hR2 := r48.p18
        | have hR2 := r47.p18
        | have hR2 := r46.p18
        | have hR2 := r45.p18
        | have hR2 := r44.p18
        | have hR2 := r43.p18
        | have hR2 := r42.p18
        | have hR2 := r41.p18
        | have hR2 := r40.p18
        | have hR2 := r39.p18
        | have hR2 := r38.p18
        | have hR2 := r37.p18
        | have hR2 := r36.p18
        | have hR2 := r35.p18
        | have hR2 := r34.p18
        | have hR2 := r33.p18
        | have hR2 := r32.p18
        | have hR2 := r31.p18
        | have hR2 := r30.p18
        | have hR2 := r29.p18
        | have hR2 := r28.p18
        | have hR2 := r27.p18
        | have hR2 := r26.p18
        | have hR2 := r25.p18
        | have hR2 := r24.p18
        | have hR2 := r23.p18
        | have hR2 := r22.p18
        | have hR2 := r21.p18
        | have hR2 := r20.p18
        | have hR2 := r19.p18
        | have hR2 := r18.p18
        | have hR2 := r17.p18
        | have hR2 := r16.p18
        | have hR2 := r15.p18
        | have hR2 := r14.p18
        | have hR2 := r13.p18
        | have hR2 := r12.p18
        | have hR2 := r11.p18
        | have hR2 := r10.p18
        | have hR2 := r9.p18
        | have hR2 := r8.p18
        | have hR2 := r7.p18
        | have hR2 := r6.p18
        | have hR2 := r5.p18
        | have hR2 := r4.p18
        | have hR2 := r3.p18
        | have hR2 := r2.p18
      have e17 := hR2.2.1
      refine x_aload_n hm rfl rfl ?_
      refine x_bipush hm rfl (v := nI 10) (by decide) ?_
      refine x_iload_n hm rfl rfl ?_
      refine x_iload_n hm rfl rfl ?_
      refine x_iload hm rfl rfl ?_
      refine x_iload hm rfl rfl ?_
      refine x_iload hm rfl rfl ?_
      refine x_iload hm rfl rfl ?_
      refine x_callV hm rfl rfl (t229 (by assumption) (by omega)) ?_
      refine x_ret hm rfl rfl ?_
      exact ⟨_, rfl, rfl, hR2.fin (fun hp => Or.inr ⟨it7_at.1, rfl, rfl, hP hp.1.1.1.1.1.1, by rw [it7_at.2.1]; exact okx_le3 hp.1.1.1.1.1.2, by rw [it7_at.2.2.1]; exact ow_ok hpn (ow_k hpn hp.1.2), by rw [it7_at.2.2.2]; exact ow_k htn hp.2⟩)⟩
    · first
        | obtain ⟨-, hw1, hw2⟩ := r3.resolve_left (fun q => by subst q; exact h4 rfl)
        | obtain ⟨-, hw1, hw2⟩ := r59.resolve_left (fun q => by subst q; exact h4 rfl)
        | obtain ⟨-, hw1, hw2⟩ := r58.resolve_left (fun q => by subst q; exact h4 rfl)
        | obtain ⟨-, hw1, hw2⟩ := r57.resolve_left (fun q => by subst q; exact h4 rfl)
        | obtain ⟨-, hw1, hw2⟩ := r56.resolve_left (fun q => by subst q; exact h4 rfl)
        | obtain ⟨-, hw1, hw2⟩ := r55.resolve_left (fun q => by subst q; exact h4 rfl)
        | obtain ⟨-, hw1, hw2⟩ := r54.resolve_left (fun q => by subst q; exact h4 rfl)
        | obtain ⟨-, hw1, hw2⟩ := r53.resolve_left (fun q => by subst q; exact h4 rfl)
        | obtain ⟨-, hw1, hw2⟩ := r52.resolve_left (fun q => by subst q; exact h4 rfl)
        | obtain ⟨-, hw1, hw2⟩ := r51.resolve_left (fun q => by subst q; exact h4 rfl)
        | obtain ⟨-, hw1, hw2⟩ := r50.resolve_left (fun q => by subst q; exact h4 rfl)
        | obtain ⟨-, hw1, hw2⟩ := r49.resolve_left (fun q => by subst q; exact h4 rfl)
        | obtain ⟨-, hw1, hw2⟩ := r48.resolve_left (fun q => by subst q; exact h4 rfl)
        | obtain ⟨-, hw1, hw2⟩ := r47.resolve_left (fun q => by subst q; exact h4 rfl)
        | obtain ⟨-, hw1, hw2⟩ := r46.resolve_left (fun q => by subst q; exact h4 rfl)
        | obtain ⟨-, hw1, hw2⟩ := r45.resolve_left (fun q => by subst q; exact h4 rfl)
        | obtain ⟨-, hw1, hw2⟩ := r44.resolve_left (fun q => by subst q; exact h4 rfl)
        | obtain ⟨-, hw1, hw2⟩ := r43.resolve_left (fun q => by subst q; exact h4 rfl)
        | obtain ⟨-, hw1, hw2⟩ := r42.resolve_left (fun q => by subst q; exact h4 rfl)
        | obtain ⟨-, hw1, hw2⟩ := r41.resolve_left (fun q => by subst q; exact h4 rfl)
        | obtain ⟨-, hw1, hw2⟩ := r40.resolve_left (fun q => by subst q; exact h4 rfl)
        | obtain ⟨-, hw1, hw2⟩ := r39.resolve_left (fun q => by subst q; exact h4 rfl)
        | obtain ⟨-, hw1, hw2⟩ := r38.resolve_left (fun q => by subst q; exact h4 rfl)
        | obtain ⟨-, hw1, hw2⟩ := r37.resolve_left (fun q => by subst q; exact h4 rfl)
        | obtain ⟨-, hw1, hw2⟩ := r36.resolve_left (fun q => by subst q; exact h4 rfl)
        | obtain ⟨-, hw1, hw2⟩ := r35.resolve_left (fun q => by subst q; exact h4 rfl)
        | obtain ⟨-, hw1, hw2⟩ := r34.resolve_left (fun q => by subst q; exact h4 rfl)
        | obtain ⟨-, hw1, hw2⟩ := r33.resolve_left (fun q => by subst q; exact h4 rfl)
        | obtain ⟨-, hw1, hw2⟩ := r32.resolve_left (fun q => by subst q; exact h4 rfl)
        | obtain ⟨-, hw1, hw2⟩ := r31.resolve_left (fun q => by subst q; exact h4 rfl)
        | obtain ⟨-, hw1, hw2⟩ := r30.resolve_left (fun q => by subst q; exact h4 rfl)
        | obtain ⟨-, hw1, hw2⟩ := r29.resolve_left (fun q => by subst q; exact h4 rfl)
        | obtain ⟨-, hw1, hw2⟩ := r28.resolve_left (fun q => by subst q; exact h4 rfl)
        | obtain ⟨-, hw1, hw2⟩ := r27.resolve_left (fun q => by subst q; exact h4 rfl)
        | obtain ⟨-, hw1, hw2⟩ := r26.resolve_left (fun q => by subst q; exact h4 rfl)
        | obtain ⟨-, hw1, hw2⟩ := r25.resolve_left (fun q => by subst q; exact h4 rfl)
        | obtain ⟨-, hw1, hw2⟩ := r24.resolve_left (fun q => by subst q; exact h4 rfl)
        | obtain ⟨-, hw1, hw2⟩ := r23.resolve_left (fun q => by subst q; exact h4 rfl)
        | obtain ⟨-, hw1, hw2⟩ := r22.resolve_left (fun q => by subst q; exact h4 rfl)
        | obtain ⟨-, hw1, hw2⟩ := r21.resolve_left (fun q => by subst q; exact h4 rfl)
        | obtain ⟨-, hw1, hw2⟩ := r20.resolve_left (fun q => by subst q; exact h4 rfl)
        | obtain ⟨-, hw1, hw2⟩ := r19.resolve_left (fun q => by subst q; exact h4 rfl)
        | obtain ⟨-, hw1, hw2⟩ := r18.resolve_left (fun q => by subst q; exact h4 rfl)
        | obtain ⟨-, hw1, hw2⟩ := r17.resolve_left (fun q => by subst q; exact h4 rfl)
        | obtain ⟨-, hw1, hw2⟩ := r16.resolve_left (fun q => by subst q; exact h4 rfl)
        | obtain ⟨-, hw1, hw2⟩ := r15.resolve_left (fun q => by subst q; exact h4 rfl)
        | obtain ⟨-, hw1, hw2⟩ := r14.resolve_left (fun q => by subst q; exact h4 rfl)
        | obtain ⟨-, hw1, hw2⟩ := r13.resolve_left (fun q => by subst q; exact h4 rfl)
        | obtain ⟨-, hw1, hw2⟩ := r12.resolve_left (fun q => by subst q; exact h4 rfl)
        | obtain ⟨-, hw1, hw2⟩ := r11.resolve_left (fun q => by subst q; exact h4 rfl)
        | obtain ⟨-, hw1, hw2⟩ := r10.resolve_left (fun q => by subst q; exact h4 rfl)
        | obtain ⟨-, hw1, hw2⟩ := r9.resolve_left (fun q => by subst q; exact h4 rfl)
        | obtain ⟨-, hw1, hw2⟩ := r8.resolve_left (fun q => by subst q; exact h4 rfl)
        | obtain ⟨-, hw1, hw2⟩ := r7.resolve_left (fun q => by subst q; exact h4 rfl)
        | obtain ⟨-, hw1, hw2⟩ := r6.resolve_left (fun q => by subst q; exact h4 rfl)
        | obtain ⟨-, hw1, hw2⟩ := r5.resolve_left (fun q => by subst q; exact h4 rfl)
        | obtain ⟨-, hw1, hw2⟩ := r4.resolve_left (fun q => by subst q; exact h4 rfl)
        | obtain ⟨-, hw1, hw2⟩ := r2.resolve_left (fun q => by subst q; exact h4 rfl)
      refine x_aload_n hm rfl rfl ?_
      refine x_getf hm rfl (gI rfl rfl) ?_
      rw [h18]
      refine x_bipush hm rfl (v := nI 8) (by decide) ?_
      refine x_icmp_ge hm rfl (t := 179) rfl (fun h12 => ?_) (fun h12 => ?_)
      · refine x_iconst hm rfl (v := nI 0) (by decide) ?_
        refine x_cVv hm rfl rfl (by first | exact u226 hT h17 h18 h19 (fun _ => hw2) | exact u226 hT h17 h18 h19 (fun q => absurd rfl q)) (fun M13 r13 => ?_)
        first
          | have hR := r59
          | have hR := r58
          | have hR := r57
          | have hR := r56
          | have hR := r55
          | have hR := r54
          | have hR := r53
          | have hR := r52
          | have hR := r51
          | have hR := r50
          | have hR := r49
          | have hR := r48
          | have hR := r47
          | have hR := r46
          | have hR := r45
          | have hR := r44
          | have hR := r43
          | have hR := r42
          | have hR := r41
          | have hR := r40
          | have hR := r39
          | have hR := r38
          | have hR := r37
          | have hR := r36
          | have hR := r35
          | have hR := r34
          | have hR := r33
          | have hR := r32
          | have hR := r31
          | have hR := r30
          | have hR := r29
          | have hR := r28
          | have hR := r27
          | have hR := r26
          | have hR := r25
          | have hR := r24
          | have hR := r23
          | have hR := r22
          | have hR := r21
          | have hR := r20
          | have hR := r19
          | have hR := r18
          | have hR := r17
          | have hR := r16
          | have hR := r15
          | have hR := r14
          | have hR := r13
          | have hR := r12
          | have hR := r11
          | have hR := r10
          | have hR := r9
          | have hR := r8
          | have hR := r7
          | have hR := r6
          | have hR := r5
          | have hR := r4
          | have hR := r3
        first
          | have hP : ¬ (nI 1 : Int32) = 0 → tn < 8 := fun _ => hlt8
          | have hP : ¬ (nI 0 : Int32) = 0 → tn < 8 := fun q => absurd rfl q
        
        refine x_aload_n hm rfl rfl ?_
        refine x_iconst hm rfl (v := nI 0) (by decide) ?_
        refine x_iconst hm rfl (v := nI 3) (by decide) ?_
        refine x_cVi hm rfl rfl (u228 (by assumption)) (fun v14 M14 r14 => ?_)
        refine x_istore_n hm rfl rfl ?_
        refine x_aload_n hm rfl rfl ?_
        refine x_ldc_wS hm rfl ?_
        refine x_iconst hm rfl (v := nI 0) (by decide) ?_
        refine x_iconst hm rfl (v := nI 0) (by decide) ?_
        refine x_bipush hm rfl (v := nI 15) (by decide) ?_
        refine x_cVi hm rfl rfl (u227 (by decide) (by assumption)) (fun v15 M15 r15 => ?_)
        refine x_istore_n hm rfl rfl ?_
        refine x_aload_n hm rfl rfl ?_
        refine x_ldc_wS hm rfl ?_
        refine x_bipush hm rfl (v := nI 100) (by decide) ?_
        refine x_iconst hm rfl (v := nI 0) (by decide) ?_
        refine x_sipush hm rfl (v := nI 999) (by decide) ?_
        refine x_cVi hm rfl rfl (u227 (by decide) (by assumption)) (fun v16 M16 r16 => ?_)
        refine x_istore hm rfl rfl ?_
        refine x_aload_n hm rfl rfl ?_
        refine x_ldc_wS hm rfl ?_
        refine x_iconst hm rfl (v := nI 0) (by decide) ?_
        refine x_iconst hm rfl (v := nI 0) (by decide) ?_
        refine x_bipush hm rfl (v := nI 9) (by decide) ?_
        refine x_cVi hm rfl rfl (u227 (by decide) (by assumption)) (fun v17 M17 r17 => ?_)
        refine x_istore hm rfl rfl ?_
        refine x_aload_n hm rfl rfl ?_
        refine x_ldc_wS hm rfl ?_
        refine x_iconst hm rfl (v := (-1 : Int32)) (by decide) ?_
        refine x_iconst hm rfl (v := nI 0) (by decide) ?_
        refine x_aload_n hm rfl rfl ?_
        refine x_getf hm rfl (gI rfl rfl) ?_
        first
          | rw [r17.2.2.2.1]
          | rw [r16.2.2.2.1]
          | rw [r15.2.2.2.1]
          | rw [r14.2.2.2.1]
          | rw [r13.2.2.2.1]
          | rw [r3.2.2.2.1]
          | rw [r59.2.2.2.1]
          | rw [r58.2.2.2.1]
          | rw [r57.2.2.2.1]
          | rw [r56.2.2.2.1]
          | rw [r55.2.2.2.1]
          | rw [r54.2.2.2.1]
          | rw [r53.2.2.2.1]
          | rw [r52.2.2.2.1]
          | rw [r51.2.2.2.1]
          | rw [r50.2.2.2.1]
          | rw [r49.2.2.2.1]
          | rw [r48.2.2.2.1]
          | rw [r47.2.2.2.1]
          | rw [r46.2.2.2.1]
          | rw [r45.2.2.2.1]
          | rw [r44.2.2.2.1]
          | rw [r43.2.2.2.1]
          | rw [r42.2.2.2.1]
          | rw [r41.2.2.2.1]
          | rw [r40.2.2.2.1]
          | rw [r39.2.2.2.1]
          | rw [r38.2.2.2.1]
          | rw [r37.2.2.2.1]
          | rw [r36.2.2.2.1]
          | rw [r35.2.2.2.1]
          | rw [r34.2.2.2.1]
          | rw [r33.2.2.2.1]
          | rw [r32.2.2.2.1]
          | rw [r31.2.2.2.1]
          | rw [r30.2.2.2.1]
          | rw [r29.2.2.2.1]
          | rw [r28.2.2.2.1]
          | rw [r27.2.2.2.1]
          | rw [r26.2.2.2.1]
          | rw [r25.2.2.2.1]
          | rw [r24.2.2.2.1]
          | rw [r23.2.2.2.1]
          | rw [r22.2.2.2.1]
          | rw [r21.2.2.2.1]
          | rw [r20.2.2.2.1]
          | rw [r19.2.2.2.1]
          | rw [r18.2.2.2.1]
          | rw [r12.2.2.2.1]
          | rw [r11.2.2.2.1]
          | rw [r10.2.2.2.1]
          | rw [r9.2.2.2.1]
          | rw [r8.2.2.2.1]
          | rw [r7.2.2.2.1]
          | rw [r6.2.2.2.1]
          | rw [r5.2.2.2.1]
          | rw [r4.2.2.2.1]
          | rw [r2.2.2.2.1]
        refine x_iconst hm rfl (v := nI 1) (by decide) ?_
        refine x_isub hm rfl ?_
        refine x_cVi hm rfl rfl (u227 (by decide) (by assumption)) (fun v18 M18 r18 => ?_)
        refine x_istore hm rfl rfl ?_
        refine x_aload_n hm rfl rfl ?_
        refine x_ldc_wS hm rfl ?_
        refine x_iconst hm rfl (v := (-1 : Int32)) (by decide) ?_
        refine x_iconst hm rfl (v := nI 0) (by decide) ?_
        refine x_aload_n hm rfl rfl ?_
        refine x_getf hm rfl (gI rfl rfl) ?_
        first
          | rw [r18.2.2.1]
          | rw [r17.2.2.1]
          | rw [r16.2.2.1]
          | rw [r15.2.2.1]
          | rw [r14.2.2.1]
          | rw [r13.2.2.1]
          | rw [r3.2.2.1]
          | rw [r59.2.2.1]
          | rw [r58.2.2.1]
          | rw [r57.2.2.1]
          | rw [r56.2.2.1]
          | rw [r55.2.2.1]
          | rw [r54.2.2.1]
          | rw [r53.2.2.1]
          | rw [r52.2.2.1]
          | rw [r51.2.2.1]
          | rw [r50.2.2.1]
          | rw [r49.2.2.1]
          | rw [r48.2.2.1]
          | rw [r47.2.2.1]
          | rw [r46.2.2.1]
          | rw [r45.2.2.1]
          | rw [r44.2.2.1]
          | rw [r43.2.2.1]
          | rw [r42.2.2.1]
          | rw [r41.2.2.1]
          | rw [r40.2.2.1]
          | rw [r39.2.2.1]
          | rw [r38.2.2.1]
          | rw [r37.2.2.1]
          | rw [r36.2.2.1]
          | rw [r35.2.2.1]
          | rw [r34.2.2.1]
          | rw [r33.2.2.1]
          | rw [r32.2.2.1]
          | rw [r31.2.2.1]
          | rw [r30.2.2.1]
          | rw [r29.2.2.1]
          | rw [r28.2.2.1]
          | rw [r27.2.2.1]
          | rw [r26.2.2.1]
          | rw [r25.2.2.1]
          | rw [r24.2.2.1]
          | rw [r23.2.2.1]
          | rw [r22.2.2.1]
          | rw [r21.2.2.1]
          | rw [r20.2.2.1]
          | rw [r19.2.2.1]
          | rw [r12.2.2.1]
          | rw [r11.2.2.1]
          | rw [r10.2.2.1]
          | rw [r9.2.2.1]
          | rw [r8.2.2.1]
          | rw [r7.2.2.1]
          | rw [r6.2.2.1]
          | rw [r5.2.2.1]
          | rw [r4.2.2.1]
          | rw [r2.2.2.1]
        refine x_iconst hm rfl (v := nI 1) (by decide) ?_
        refine x_isub hm rfl ?_
        refine x_cVi hm rfl rfl (u227 (by decide) (by assumption)) (fun v19 M19 r19 => ?_)
        refine x_istore hm rfl rfl ?_
        refine x_aload_n hm rfl rfl ?_
        refine x_dup hm rfl rfl ?_
        refine x_getf hm rfl (gI rfl rfl) ?_
        first
          | rw [r19.2.2.1]
          | rw [r18.2.2.1]
          | rw [r17.2.2.1]
          | rw [r16.2.2.1]
          | rw [r15.2.2.1]
          | rw [r14.2.2.1]
          | rw [r13.2.2.1]
          | rw [r3.2.2.1]
          | rw [r59.2.2.1]
          | rw [r58.2.2.1]
          | rw [r57.2.2.1]
          | rw [r56.2.2.1]
          | rw [r55.2.2.1]
          | rw [r54.2.2.1]
          | rw [r53.2.2.1]
          | rw [r52.2.2.1]
          | rw [r51.2.2.1]
          | rw [r50.2.2.1]
          | rw [r49.2.2.1]
          | rw [r48.2.2.1]
          | rw [r47.2.2.1]
          | rw [r46.2.2.1]
          | rw [r45.2.2.1]
          | rw [r44.2.2.1]
          | rw [r43.2.2.1]
          | rw [r42.2.2.1]
          | rw [r41.2.2.1]
          | rw [r40.2.2.1]
          | rw [r39.2.2.1]
          | rw [r38.2.2.1]
          | rw [r37.2.2.1]
          | rw [r36.2.2.1]
          | rw [r35.2.2.1]
          | rw [r34.2.2.1]
          | rw [r33.2.2.1]
          | rw [r32.2.2.1]
          | rw [r31.2.2.1]
          | rw [r30.2.2.1]
          | rw [r29.2.2.1]
          | rw [r28.2.2.1]
          | rw [r27.2.2.1]
          | rw [r26.2.2.1]
          | rw [r25.2.2.1]
          | rw [r24.2.2.1]
          | rw [r23.2.2.1]
          | rw [r22.2.2.1]
          | rw [r21.2.2.1]
          | rw [r20.2.2.1]
          | rw [r12.2.2.1]
          | rw [r11.2.2.1]
          | rw [r10.2.2.1]
          | rw [r9.2.2.1]
          | rw [r8.2.2.1]
          | rw [r7.2.2.1]
          | rw [r6.2.2.1]
          | rw [r5.2.2.1]
          | rw [r4.2.2.1]
          | rw [r2.2.2.1]
        refine x_iconst hm rfl (v := nI 1) (by decide) ?_
        refine x_iadd hm rfl ?_
        rw [jI_add]
        refine x_putf hm rfl (pI rfl rfl (by decide) (by first | exact mFit_int | rfl | decide) rfl) ?_
        first
          | have hR2 := r59.p18
          | have hR2 := r58.p18
          | have hR2 := r57.p18
          | have hR2 := r56.p18
          | have hR2 := r55.p18
          | have hR2 := r54.p18
          | have hR2 := r53.p18
          | have hR2 := r52.p18
          | have hR2 := r51.p18
          | have hR2 := r50.p18
          | have hR2 := r49.p18
          | have hR2 := r48.p18
          | have hR2 := r47.p18
          | have hR2 := r46.p18
          | have hR2 := r45.p18
          | have hR2 := r44.p18
          | have hR2 := r43.p18
          | have hR2 := r42.p18
          | have hR2 := r41.p18
          | have hR2 := r40.p18
          | have hR2 := r39.p18
          | have hR2 := r38.p18
          | have hR2 := r37.p18
          | have hR2 := r36.p18
          | have hR2 := r35.p18
          | have hR2 := r34.p18
          | have hR2 := r33.p18
          | have hR2 := r32.p18
          | have hR2 := r31.p18
          | have hR2 := r30.p18
          | have hR2 := r29.p18
          | have hR2 := r28.p18
          | have hR2 := r27.p18
          | have hR2 := r26.p18
          | have hR2 := r25.p18
          | have hR2 := r24.p18
          | have hR2 := r23.p18
          | have hR2 := r22.p18
          | have hR2 := r21.p18
          | have hR2 := r20.p18
          | have hR2 := r19.p18
          | have hR2 := r18.p18
          | have hR2 := r17.p18
          | have hR2 := r16.p18
          | have hR2 := r15.p18
          | have hR2 := r14.p18
          | have hR2 := r13.p18
          | have hR2 := r12.p18
          | have hR2 := r11.p18
          | have hR2 := r10.p18
          | have hR2 := r9.p18
          | have hR2 := r8.p18
          | have hR2 := r7.p18
          | have hR2 := r6.p18
          | have hR2 := r5.p18
          | have hR2 := r4.p18
          | have hR2 := r3.p18
          | have hR2 := r2.p18
        have e17 := hR2.2.1
        refine x_aload_n hm rfl rfl ?_
        refine x_bipush hm rfl (v := nI 10) (by decide) ?_
        refine x_iload_n hm rfl rfl ?_
        refine x_iload_n hm rfl rfl ?_
        refine x_iload hm rfl rfl ?_
        refine x_iload hm rfl rfl ?_
        refine x_iload hm rfl rfl ?_
        refine x_iload hm rfl rfl ?_
        refine x_callV hm rfl rfl (t229 (by assumption) (by omega)) ?_
        refine x_ret hm rfl rfl ?_
        exact ⟨_, rfl, rfl, hR2.fin (fun hp => Or.inr ⟨it7_at.1, rfl, rfl, hP hp.1.1.1.1.1.1, by rw [it7_at.2.1]; exact okx_le3 hp.1.1.1.1.1.2, by rw [it7_at.2.2.1]; exact ow_ok hpn (ow_k hpn hp.1.2), by rw [it7_at.2.2.2]; exact ow_k htn hp.2⟩)⟩
      · have hlt8 : tn < 8 := Nat.lt_of_not_le fun q => h12 (nI_le q (by omega))
        refine x_iconst hm rfl (v := nI 1) (by decide) ?_
        refine x_goto hm rfl (t := 180) rfl ?_
        refine x_cVv hm rfl rfl (by first | exact u226 hT h17 h18 h19 (fun _ => hw2) | exact u226 hT h17 h18 h19 (fun q => absurd rfl q)) (fun M20 r20 => ?_)
        first
          | have hR := r59
          | have hR := r58
          | have hR := r57
          | have hR := r56
          | have hR := r55
          | have hR := r54
          | have hR := r53
          | have hR := r52
          | have hR := r51
          | have hR := r50
          | have hR := r49
          | have hR := r48
          | have hR := r47
          | have hR := r46
          | have hR := r45
          | have hR := r44
          | have hR := r43
          | have hR := r42
          | have hR := r41
          | have hR := r40
          | have hR := r39
          | have hR := r38
          | have hR := r37
          | have hR := r36
          | have hR := r35
          | have hR := r34
          | have hR := r33
          | have hR := r32
          | have hR := r31
          | have hR := r30
          | have hR := r29
          | have hR := r28
          | have hR := r27
          | have hR := r26
          | have hR := r25
          | have hR := r24
          | have hR := r23
          | have hR := r22
          | have hR := r21
          | have hR := r20
          | have hR := r19
          | have hR := r18
          | have hR := r17
          | have hR := r16
          | have hR := r15
          | have hR := r14
          | have hR := r13
          | have hR := r12
          | have hR := r11
          | have hR := r10
          | have hR := r9
          | have hR := r8
          | have hR := r7
          | have hR := r6
          | have hR := r5
          | have hR := r4
          | have hR := r3
        first
          | have hP : ¬ (nI 1 : Int32) = 0 → tn < 8 := fun _ => hlt8
          | have hP : ¬ (nI 0 : Int32) = 0 → tn < 8 := fun q => absurd rfl q
        
        refine x_aload_n hm rfl rfl ?_
        refine x_iconst hm rfl (v := nI 0) (by decide) ?_
        refine x_iconst hm rfl (v := nI 3) (by decide) ?_
        refine x_cVi hm rfl rfl (u228 (by assumption)) (fun v21 M21 r21 => ?_)
        refine x_istore_n hm rfl rfl ?_
        refine x_aload_n hm rfl rfl ?_
        refine x_ldc_wS hm rfl ?_
        refine x_iconst hm rfl (v := nI 0) (by decide) ?_
        refine x_iconst hm rfl (v := nI 0) (by decide) ?_
        refine x_bipush hm rfl (v := nI 15) (by decide) ?_
        refine x_cVi hm rfl rfl (u227 (by decide) (by assumption)) (fun v22 M22 r22 => ?_)
        refine x_istore_n hm rfl rfl ?_
        refine x_aload_n hm rfl rfl ?_
        refine x_ldc_wS hm rfl ?_
        refine x_bipush hm rfl (v := nI 100) (by decide) ?_
        refine x_iconst hm rfl (v := nI 0) (by decide) ?_
        refine x_sipush hm rfl (v := nI 999) (by decide) ?_
        refine x_cVi hm rfl rfl (u227 (by decide) (by assumption)) (fun v23 M23 r23 => ?_)
        refine x_istore hm rfl rfl ?_
        refine x_aload_n hm rfl rfl ?_
        refine x_ldc_wS hm rfl ?_
        refine x_iconst hm rfl (v := nI 0) (by decide) ?_
        refine x_iconst hm rfl (v := nI 0) (by decide) ?_
        refine x_bipush hm rfl (v := nI 9) (by decide) ?_
        refine x_cVi hm rfl rfl (u227 (by decide) (by assumption)) (fun v24 M24 r24 => ?_)
        refine x_istore hm rfl rfl ?_
        refine x_aload_n hm rfl rfl ?_
        refine x_ldc_wS hm rfl ?_
        refine x_iconst hm rfl (v := (-1 : Int32)) (by decide) ?_
        refine x_iconst hm rfl (v := nI 0) (by decide) ?_
        refine x_aload_n hm rfl rfl ?_
        refine x_getf hm rfl (gI rfl rfl) ?_
        first
          | rw [r24.2.2.2.1]
          | rw [r23.2.2.2.1]
          | rw [r22.2.2.2.1]
          | rw [r21.2.2.2.1]
          | rw [r20.2.2.2.1]
          | rw [r3.2.2.2.1]
          | rw [r59.2.2.2.1]
          | rw [r58.2.2.2.1]
          | rw [r57.2.2.2.1]
          | rw [r56.2.2.2.1]
          | rw [r55.2.2.2.1]
          | rw [r54.2.2.2.1]
          | rw [r53.2.2.2.1]
          | rw [r52.2.2.2.1]
          | rw [r51.2.2.2.1]
          | rw [r50.2.2.2.1]
          | rw [r49.2.2.2.1]
          | rw [r48.2.2.2.1]
          | rw [r47.2.2.2.1]
          | rw [r46.2.2.2.1]
          | rw [r45.2.2.2.1]
          | rw [r44.2.2.2.1]
          | rw [r43.2.2.2.1]
          | rw [r42.2.2.2.1]
          | rw [r41.2.2.2.1]
          | rw [r40.2.2.2.1]
          | rw [r39.2.2.2.1]
          | rw [r38.2.2.2.1]
          | rw [r37.2.2.2.1]
          | rw [r36.2.2.2.1]
          | rw [r35.2.2.2.1]
          | rw [r34.2.2.2.1]
          | rw [r33.2.2.2.1]
          | rw [r32.2.2.2.1]
          | rw [r31.2.2.2.1]
          | rw [r30.2.2.2.1]
          | rw [r29.2.2.2.1]
          | rw [r28.2.2.2.1]
          | rw [r27.2.2.2.1]
          | rw [r26.2.2.2.1]
          | rw [r25.2.2.2.1]
          | rw [r19.2.2.2.1]
          | rw [r18.2.2.2.1]
          | rw [r17.2.2.2.1]
          | rw [r16.2.2.2.1]
          | rw [r15.2.2.2.1]
          | rw [r14.2.2.2.1]
          | rw [r13.2.2.2.1]
          | rw [r12.2.2.2.1]
          | rw [r11.2.2.2.1]
          | rw [r10.2.2.2.1]
          | rw [r9.2.2.2.1]
          | rw [r8.2.2.2.1]
          | rw [r7.2.2.2.1]
          | rw [r6.2.2.2.1]
          | rw [r5.2.2.2.1]
          | rw [r4.2.2.2.1]
          | rw [r2.2.2.2.1]
        refine x_iconst hm rfl (v := nI 1) (by decide) ?_
        refine x_isub hm rfl ?_
        refine x_cVi hm rfl rfl (u227 (by decide) (by assumption)) (fun v25 M25 r25 => ?_)
        refine x_istore hm rfl rfl ?_
        refine x_aload_n hm rfl rfl ?_
        refine x_ldc_wS hm rfl ?_
        refine x_iconst hm rfl (v := (-1 : Int32)) (by decide) ?_
        refine x_iconst hm rfl (v := nI 0) (by decide) ?_
        refine x_aload_n hm rfl rfl ?_
        refine x_getf hm rfl (gI rfl rfl) ?_
        first
          | rw [r25.2.2.1]
          | rw [r24.2.2.1]
          | rw [r23.2.2.1]
          | rw [r22.2.2.1]
          | rw [r21.2.2.1]
          | rw [r20.2.2.1]
          | rw [r3.2.2.1]
          | rw [r59.2.2.1]
          | rw [r58.2.2.1]
          | rw [r57.2.2.1]
          | rw [r56.2.2.1]
          | rw [r55.2.2.1]
          | rw [r54.2.2.1]
          | rw [r53.2.2.1]
          | rw [r52.2.2.1]
          | rw [r51.2.2.1]
          | rw [r50.2.2.1]
          | rw [r49.2.2.1]
          | rw [r48.2.2.1]
          | rw [r47.2.2.1]
          | rw [r46.2.2.1]
          | rw [r45.2.2.1]
          | rw [r44.2.2.1]
          | rw [r43.2.2.1]
          | rw [r42.2.2.1]
          | rw [r41.2.2.1]
          | rw [r40.2.2.1]
          | rw [r39.2.2.1]
          | rw [r38.2.2.1]
          | rw [r37.2.2.1]
          | rw [r36.2.2.1]
          | rw [r35.2.2.1]
          | rw [r34.2.2.1]
          | rw [r33.2.2.1]
          | rw [r32.2.2.1]
          | rw [r31.2.2.1]
          | rw [r30.2.2.1]
          | rw [r29.2.2.1]
          | rw [r28.2.2.1]
          | rw [r27.2.2.1]
          | rw [r26.2.2.1]
          | rw [r19.2.2.1]
          | rw [r18.2.2.1]
          | rw [r17.2.2.1]
          | rw [r16.2.2.1]
          | rw [r15.2.2.1]
          | rw [r14.2.2.1]
          | rw [r13.2.2.1]
          | rw [r12.2.2.1]
          | rw [r11.2.2.1]
          | rw [r10.2.2.1]
          | rw [r9.2.2.1]
          | rw [r8.2.2.1]
          | rw [r7.2.2.1]
          | rw [r6.2.2.1]
          | rw [r5.2.2.1]
          | rw [r4.2.2.1]
          | rw [r2.2.2.1]
        refine x_iconst hm rfl (v := nI 1) (by decide) ?_
        refine x_isub hm rfl ?_
        refine x_cVi hm rfl rfl (u227 (by decide) (by assumption)) (fun v26 M26 r26 => ?_)
        refine x_istore hm rfl rfl ?_
        refine x_aload_n hm rfl rfl ?_
        refine x_dup hm rfl rfl ?_
        refine x_getf hm rfl (gI rfl rfl) ?_
        first
          | rw [r26.2.2.1]
          | rw [r25.2.2.1]
          | rw [r24.2.2.1]
          | rw [r23.2.2.1]
          | rw [r22.2.2.1]
          | rw [r21.2.2.1]
          | rw [r20.2.2.1]
          | rw [r3.2.2.1]
          | rw [r59.2.2.1]
          | rw [r58.2.2.1]
          | rw [r57.2.2.1]
          | rw [r56.2.2.1]
          | rw [r55.2.2.1]
          | rw [r54.2.2.1]
          | rw [r53.2.2.1]
          | rw [r52.2.2.1]
          | rw [r51.2.2.1]
          | rw [r50.2.2.1]
          | rw [r49.2.2.1]
          | rw [r48.2.2.1]
          | rw [r47.2.2.1]
          | rw [r46.2.2.1]
          | rw [r45.2.2.1]
          | rw [r44.2.2.1]
          | rw [r43.2.2.1]
          | rw [r42.2.2.1]
          | rw [r41.2.2.1]
          | rw [r40.2.2.1]
          | rw [r39.2.2.1]
          | rw [r38.2.2.1]
          | rw [r37.2.2.1]
          | rw [r36.2.2.1]
          | rw [r35.2.2.1]
          | rw [r34.2.2.1]
          | rw [r33.2.2.1]
          | rw [r32.2.2.1]
          | rw [r31.2.2.1]
          | rw [r30.2.2.1]
          | rw [r29.2.2.1]
          | rw [r28.2.2.1]
          | rw [r27.2.2.1]
          | rw [r19.2.2.1]
          | rw [r18.2.2.1]
          | rw [r17.2.2.1]
          | rw [r16.2.2.1]
          | rw [r15.2.2.1]
          | rw [r14.2.2.1]
          | rw [r13.2.2.1]
          | rw [r12.2.2.1]
          | rw [r11.2.2.1]
          | rw [r10.2.2.1]
          | rw [r9.2.2.1]
          | rw [r8.2.2.1]
          | rw [r7.2.2.1]
          | rw [r6.2.2.1]
          | rw [r5.2.2.1]
          | rw [r4.2.2.1]
          | rw [r2.2.2.1]
        refine x_iconst hm rfl (v := nI 1) (by decide) ?_
        refine x_iadd hm rfl ?_
        rw [jI_add]
        refine x_putf hm rfl (pI rfl rfl (by decide) (by first | exact mFit_int | rfl | decide) rfl) ?_
        first
          | have hR2 := r59.p18
          | have hR2 := r58.p18
          | have hR2 := r57.p18
          | have hR2 := r56.p18
          | have hR2 := r55.p18
          | have hR2 := r54.p18
          | have hR2 := r53.p18
          | have hR2 := r52.p18
          | have hR2 := r51.p18
          | have hR2 := r50.p18
          | have hR2 := r49.p18
          | have hR2 := r48.p18
          | have hR2 := r47.p18
          | have hR2 := r46.p18
          | have hR2 := r45.p18
          | have hR2 := r44.p18
          | have hR2 := r43.p18
          | have hR2 := r42.p18
          | have hR2 := r41.p18
          | have hR2 := r40.p18
          | have hR2 := r39.p18
          | have hR2 := r38.p18
          | have hR2 := r37.p18
          | have hR2 := r36.p18
          | have hR2 := r35.p18
          | have hR2 := r34.p18
          | have hR2 := r33.p18
          | have hR2 := r32.p18
          | have hR2 := r31.p18
          | have hR2 := r30.p18
          | have hR2 := r29.p18
          | have hR2 := r28.p18
          | have hR2 := r27.p18
          | have hR2 := r26.p18
          | have hR2 := r25.p18
          | have hR2 := r24.p18
          | have hR2 := r23.p18
          | have hR2 := r22.p18
          | have hR2 := r21.p18
          | have hR2 := r20.p18
          | have hR2 := r19.p18
          | have hR2 := r18.p18
          | have hR2 := r17.p18
          | have hR2 := r16.p18
          | have hR2 := r15.p18
          | have hR2 := r14.p18
          | have hR2 := r13.p18
          | have hR2 := r12.p18
          | have hR2 := r11.p18
          | have hR2 := r10.p18
          | have hR2 := r9.p18
          | have hR2 := r8.p18
          | have hR2 := r7.p18
          | have hR2 := r6.p18
          | have hR2 := r5.p18
          | have hR2 := r4.p18
          | have hR2 := r3.p18
          | have hR2 := r2.p18
        have e17 := hR2.2.1
        refine x_aload_n hm rfl rfl ?_
        refine x_bipush hm rfl (v := nI 10) (by decide) ?_
        refine x_iload_n hm rfl rfl ?_
        refine x_iload_n hm rfl rfl ?_
        refine x_iload hm rfl rfl ?_
        refine x_iload hm rfl rfl ?_
        refine x_iload hm rfl rfl ?_
        refine x_iload hm rfl rfl ?_
        refine x_callV hm rfl rfl (t229 (by assumption) (by omega)) ?_
        refine x_ret hm rfl rfl ?_
        exact ⟨_, rfl, rfl, hR2.fin (fun hp => Or.inr ⟨it7_at.1, rfl, rfl, hP hp.1.1.1.1.1.1, by rw [it7_at.2.1]; exact okx_le3 hp.1.1.1.1.1.2, by rw [it7_at.2.2.1]; exact ow_ok hpn (ow_k hpn hp.1.2), by rw [it7_at.2.2.2]; exact ow_k htn hp.2⟩)⟩
  · obtain ⟨kk, hkk, rfl, hw1, hw2⟩ := r1.resolve_left (fun q => by subst q; exact h2 (by decide))
    refine x_aload_n hm rfl rfl ?_
    refine x_aload_n hm rfl rfl ?_
    refine x_getf hm rfl (gI rfl rfl) ?_
    rw [h19]
    refine x_bipush hm rfl (v := nI 8) (by decide) ?_
    refine x_icmp_ge hm rfl (t := 23) rfl (fun h27 => ?_) (fun h27 => ?_)
    · refine x_iconst hm rfl (v := nI 0) (by decide) ?_
      refine x_cVv hm rfl rfl (by first | exact u226 hT h17 h18 h19 (fun _ => hw2) | exact u226 hT h17 h18 h19 (fun q => absurd rfl q)) (fun M28 r28 => ?_)
      first
        | have hR := r59
        | have hR := r58
        | have hR := r57
        | have hR := r56
        | have hR := r55
        | have hR := r54
        | have hR := r53
        | have hR := r52
        | have hR := r51
        | have hR := r50
        | have hR := r49
        | have hR := r48
        | have hR := r47
        | have hR := r46
        | have hR := r45
        | have hR := r44
        | have hR := r43
        | have hR := r42
        | have hR := r41
        | have hR := r40
        | have hR := r39
        | have hR := r38
        | have hR := r37
        | have hR := r36
        | have hR := r35
        | have hR := r34
        | have hR := r33
        | have hR := r32
        | have hR := r31
        | have hR := r30
        | have hR := r29
        | have hR := r28
        | have hR := r27
        | have hR := r26
        | have hR := r25
        | have hR := r24
        | have hR := r23
        | have hR := r22
        | have hR := r21
        | have hR := r20
        | have hR := r19
        | have hR := r18
        | have hR := r17
        | have hR := r16
        | have hR := r15
        | have hR := r14
        | have hR := r13
        | have hR := r12
        | have hR := r11
        | have hR := r10
        | have hR := r9
        | have hR := r8
        | have hR := r7
        | have hR := r6
        | have hR := r5
        | have hR := r4
        | have hR := r3
        | have hR := r2
      first
        | have hP : ¬ (nI 1 : Int32) = 0 → pn < 8 := fun _ => hlt8
        | have hP : ¬ (nI 0 : Int32) = 0 → pn < 8 := fun q => absurd rfl q
      
      refine x_aload_n hm rfl rfl ?_
      refine x_dup hm rfl rfl ?_
      refine x_getf hm rfl (gI rfl rfl) ?_
      rw [hR.2.2.2.1]
      refine x_iconst hm rfl (v := nI 1) (by decide) ?_
      refine x_iadd hm rfl ?_
      rw [jI_add]
      refine x_putf hm rfl (pI rfl rfl (by decide) (by first | exact mFit_int | rfl | decide) rfl) ?_
      have hR2 := hR.p19
      refine x_aload_n hm rfl rfl ?_
      refine x_ldc_wS hm rfl ?_
      refine x_iconst hm rfl (v := nI 0) (by decide) ?_
      refine x_iconst hm rfl (v := nI 0) (by decide) ?_
      refine x_bipush hm rfl (v := nI 15) (by decide) ?_
      refine x_cVi hm rfl rfl (u227 (by decide) (by assumption)) (fun v29 M29 r29 => ?_)
      refine x_istore_n hm rfl rfl ?_
      refine x_aload_n hm rfl rfl ?_
      refine x_ldc_wS hm rfl ?_
      refine x_iconst hm rfl (v := nI 1) (by decide) ?_
      refine x_iconst hm rfl (v := nI 0) (by decide) ?_
      refine x_bipush hm rfl (v := nI 15) (by decide) ?_
      refine x_cVi hm rfl rfl (u227 (by decide) (by assumption)) (fun v30 M30 r30 => ?_)
      refine x_istore_n hm rfl rfl ?_
      refine x_aload_n hm rfl rfl ?_
      refine x_ldc_wS hm rfl ?_
      refine x_iconst hm rfl (v := (-1 : Int32)) (by decide) ?_
      refine x_iconst hm rfl (v := nI 0) (by decide) ?_
      refine x_bipush hm rfl (v := nI 9) (by decide) ?_
      refine x_cVi hm rfl rfl (u227 (by decide) (by assumption)) (fun v31 M31 r31 => ?_)
      refine x_istore hm rfl rfl ?_
      first
        | exact l223a hkk hm2 hc1 (fun q => hP q.1.1.1) r31
        | exact l223a hkk hm2 hc1 (fun q => hP q.1.1.1) r30
        | exact l223a hkk hm2 hc1 (fun q => hP q.1.1.1) r29
        | exact l223a hkk hm2 hc1 (fun q => hP q.1.1.1) r28
        | exact l223a hkk hm2 hc1 (fun q => hP q.1.1.1) r59
        | exact l223a hkk hm2 hc1 (fun q => hP q.1.1.1) r58
        | exact l223a hkk hm2 hc1 (fun q => hP q.1.1.1) r57
        | exact l223a hkk hm2 hc1 (fun q => hP q.1.1.1) r56
        | exact l223a hkk hm2 hc1 (fun q => hP q.1.1.1) r55
        | exact l223a hkk hm2 hc1 (fun q => hP q.1.1.1) r54
        | exact l223a hkk hm2 hc1 (fun q => hP q.1.1.1) r53
        | exact l223a hkk hm2 hc1 (fun q => hP q.1.1.1) r52
        | exact l223a hkk hm2 hc1 (fun q => hP q.1.1.1) r51
        | exact l223a hkk hm2 hc1 (fun q => hP q.1.1.1) r50
        | exact l223a hkk hm2 hc1 (fun q => hP q.1.1.1) r49
        | exact l223a hkk hm2 hc1 (fun q => hP q.1.1.1) r48
        | exact l223a hkk hm2 hc1 (fun q => hP q.1.1.1) r47
        | exact l223a hkk hm2 hc1 (fun q => hP q.1.1.1) r46
        | exact l223a hkk hm2 hc1 (fun q => hP q.1.1.1) r45
        | exact l223a hkk hm2 hc1 (fun q => hP q.1.1.1) r44
        | exact l223a hkk hm2 hc1 (fun q => hP q.1.1.1) r43
        | exact l223a hkk hm2 hc1 (fun q => hP q.1.1.1) r42
        | exact l223a hkk hm2 hc1 (fun q => hP q.1.1.1) r41
        | exact l223a hkk hm2 hc1 (fun q => hP q.1.1.1) r40
        | exact l223a hkk hm2 hc1 (fun q => hP q.1.1.1) r39
        | exact l223a hkk hm2 hc1 (fun q => hP q.1.1.1) r38
        | exact l223a hkk hm2 hc1 (fun q => hP q.1.1.1) r37
        | exact l223a hkk hm2 hc1 (fun q => hP q.1.1.1) r36
        | exact l223a hkk hm2 hc1 (fun q => hP q.1.1.1) r35
        | exact l223a hkk hm2 hc1 (fun q => hP q.1.1.1) r34
        | exact l223a hkk hm2 hc1 (fun q => hP q.1.1.1) r33
        | exact l223a hkk hm2 hc1 (fun q => hP q.1.1.1) r32
        | exact l223a hkk hm2 hc1 (fun q => hP q.1.1.1) r27
        | exact l223a hkk hm2 hc1 (fun q => hP q.1.1.1) r26
        | exact l223a hkk hm2 hc1 (fun q => hP q.1.1.1) r25
        | exact l223a hkk hm2 hc1 (fun q => hP q.1.1.1) r24
        | exact l223a hkk hm2 hc1 (fun q => hP q.1.1.1) r23
        | exact l223a hkk hm2 hc1 (fun q => hP q.1.1.1) r22
        | exact l223a hkk hm2 hc1 (fun q => hP q.1.1.1) r21
        | exact l223a hkk hm2 hc1 (fun q => hP q.1.1.1) r20
        | exact l223a hkk hm2 hc1 (fun q => hP q.1.1.1) r19
        | exact l223a hkk hm2 hc1 (fun q => hP q.1.1.1) r18
        | exact l223a hkk hm2 hc1 (fun q => hP q.1.1.1) r17
        | exact l223a hkk hm2 hc1 (fun q => hP q.1.1.1) r16
        | exact l223a hkk hm2 hc1 (fun q => hP q.1.1.1) r15
        | exact l223a hkk hm2 hc1 (fun q => hP q.1.1.1) r14
        | exact l223a hkk hm2 hc1 (fun q => hP q.1.1.1) r13
        | exact l223a hkk hm2 hc1 (fun q => hP q.1.1.1) r12
        | exact l223a hkk hm2 hc1 (fun q => hP q.1.1.1) r11
        | exact l223a hkk hm2 hc1 (fun q => hP q.1.1.1) r10
        | exact l223a hkk hm2 hc1 (fun q => hP q.1.1.1) r9
        | exact l223a hkk hm2 hc1 (fun q => hP q.1.1.1) r8
        | exact l223a hkk hm2 hc1 (fun q => hP q.1.1.1) r7
        | exact l223a hkk hm2 hc1 (fun q => hP q.1.1.1) r6
        | exact l223a hkk hm2 hc1 (fun q => hP q.1.1.1) r5
        | exact l223a hkk hm2 hc1 (fun q => hP q.1.1.1) r4
        | exact l223a hkk hm2 hc1 (fun q => hP q.1.1.1) r3
        | exact l223a hkk hm2 hc1 (fun q => hP q.1.1.1) r2
    · have hlt8 : pn < 8 := Nat.lt_of_not_le fun q => h27 (nI_le q (by omega))
      refine x_iconst hm rfl (v := nI 1) (by decide) ?_
      refine x_goto hm rfl (t := 24) rfl ?_
      refine x_cVv hm rfl rfl (by first | exact u226 hT h17 h18 h19 (fun _ => hw2) | exact u226 hT h17 h18 h19 (fun q => absurd rfl q)) (fun M32 r32 => ?_)
      first
        | have hR := r59
        | have hR := r58
        | have hR := r57
        | have hR := r56
        | have hR := r55
        | have hR := r54
        | have hR := r53
        | have hR := r52
        | have hR := r51
        | have hR := r50
        | have hR := r49
        | have hR := r48
        | have hR := r47
        | have hR := r46
        | have hR := r45
        | have hR := r44
        | have hR := r43
        | have hR := r42
        | have hR := r41
        | have hR := r40
        | have hR := r39
        | have hR := r38
        | have hR := r37
        | have hR := r36
        | have hR := r35
        | have hR := r34
        | have hR := r33
        | have hR := r32
        | have hR := r31
        | have hR := r30
        | have hR := r29
        | have hR := r28
        | have hR := r27
        | have hR := r26
        | have hR := r25
        | have hR := r24
        | have hR := r23
        | have hR := r22
        | have hR := r21
        | have hR := r20
        | have hR := r19
        | have hR := r18
        | have hR := r17
        | have hR := r16
        | have hR := r15
        | have hR := r14
        | have hR := r13
        | have hR := r12
        | have hR := r11
        | have hR := r10
        | have hR := r9
        | have hR := r8
        | have hR := r7
        | have hR := r6
        | have hR := r5
        | have hR := r4
        | have hR := r3
        | have hR := r2
      first
        | have hP : ¬ (nI 1 : Int32) = 0 → pn < 8 := fun _ => hlt8
        | have hP : ¬ (nI 0 : Int32) = 0 → pn < 8 := fun q => absurd rfl q
      
      refine x_aload_n hm rfl rfl ?_
      refine x_dup hm rfl rfl ?_
      refine x_getf hm rfl (gI rfl rfl) ?_
      rw [hR.2.2.2.1]
      refine x_iconst hm rfl (v := nI 1) (by decide) ?_
      refine x_iadd hm rfl ?_
      rw [jI_add]
      refine x_putf hm rfl (pI rfl rfl (by decide) (by first | exact mFit_int | rfl | decide) rfl) ?_
      have hR2 := hR.p19
      refine x_aload_n hm rfl rfl ?_
      refine x_ldc_wS hm rfl ?_
      refine x_iconst hm rfl (v := nI 0) (by decide) ?_
      refine x_iconst hm rfl (v := nI 0) (by decide) ?_
      refine x_bipush hm rfl (v := nI 15) (by decide) ?_
      refine x_cVi hm rfl rfl (u227 (by decide) (by assumption)) (fun v33 M33 r33 => ?_)
      refine x_istore_n hm rfl rfl ?_
      refine x_aload_n hm rfl rfl ?_
      refine x_ldc_wS hm rfl ?_
      refine x_iconst hm rfl (v := nI 1) (by decide) ?_
      refine x_iconst hm rfl (v := nI 0) (by decide) ?_
      refine x_bipush hm rfl (v := nI 15) (by decide) ?_
      refine x_cVi hm rfl rfl (u227 (by decide) (by assumption)) (fun v34 M34 r34 => ?_)
      refine x_istore_n hm rfl rfl ?_
      refine x_aload_n hm rfl rfl ?_
      refine x_ldc_wS hm rfl ?_
      refine x_iconst hm rfl (v := (-1 : Int32)) (by decide) ?_
      refine x_iconst hm rfl (v := nI 0) (by decide) ?_
      refine x_bipush hm rfl (v := nI 9) (by decide) ?_
      refine x_cVi hm rfl rfl (u227 (by decide) (by assumption)) (fun v35 M35 r35 => ?_)
      refine x_istore hm rfl rfl ?_
      first
        | exact l223a hkk hm2 hc1 (fun q => hP q.1.1.1) r35
        | exact l223a hkk hm2 hc1 (fun q => hP q.1.1.1) r34
        | exact l223a hkk hm2 hc1 (fun q => hP q.1.1.1) r33
        | exact l223a hkk hm2 hc1 (fun q => hP q.1.1.1) r32
        | exact l223a hkk hm2 hc1 (fun q => hP q.1.1.1) r59
        | exact l223a hkk hm2 hc1 (fun q => hP q.1.1.1) r58
        | exact l223a hkk hm2 hc1 (fun q => hP q.1.1.1) r57
        | exact l223a hkk hm2 hc1 (fun q => hP q.1.1.1) r56
        | exact l223a hkk hm2 hc1 (fun q => hP q.1.1.1) r55
        | exact l223a hkk hm2 hc1 (fun q => hP q.1.1.1) r54
        | exact l223a hkk hm2 hc1 (fun q => hP q.1.1.1) r53
        | exact l223a hkk hm2 hc1 (fun q => hP q.1.1.1) r52
        | exact l223a hkk hm2 hc1 (fun q => hP q.1.1.1) r51
        | exact l223a hkk hm2 hc1 (fun q => hP q.1.1.1) r50
        | exact l223a hkk hm2 hc1 (fun q => hP q.1.1.1) r49
        | exact l223a hkk hm2 hc1 (fun q => hP q.1.1.1) r48
        | exact l223a hkk hm2 hc1 (fun q => hP q.1.1.1) r47
        | exact l223a hkk hm2 hc1 (fun q => hP q.1.1.1) r46
        | exact l223a hkk hm2 hc1 (fun q => hP q.1.1.1) r45
        | exact l223a hkk hm2 hc1 (fun q => hP q.1.1.1) r44
        | exact l223a hkk hm2 hc1 (fun q => hP q.1.1.1) r43
        | exact l223a hkk hm2 hc1 (fun q => hP q.1.1.1) r42
        | exact l223a hkk hm2 hc1 (fun q => hP q.1.1.1) r41
        | exact l223a hkk hm2 hc1 (fun q => hP q.1.1.1) r40
        | exact l223a hkk hm2 hc1 (fun q => hP q.1.1.1) r39
        | exact l223a hkk hm2 hc1 (fun q => hP q.1.1.1) r38
        | exact l223a hkk hm2 hc1 (fun q => hP q.1.1.1) r37
        | exact l223a hkk hm2 hc1 (fun q => hP q.1.1.1) r36
        | exact l223a hkk hm2 hc1 (fun q => hP q.1.1.1) r31
        | exact l223a hkk hm2 hc1 (fun q => hP q.1.1.1) r30
        | exact l223a hkk hm2 hc1 (fun q => hP q.1.1.1) r29
        | exact l223a hkk hm2 hc1 (fun q => hP q.1.1.1) r28
        | exact l223a hkk hm2 hc1 (fun q => hP q.1.1.1) r27
        | exact l223a hkk hm2 hc1 (fun q => hP q.1.1.1) r26
        | exact l223a hkk hm2 hc1 (fun q => hP q.1.1.1) r25
        | exact l223a hkk hm2 hc1 (fun q => hP q.1.1.1) r24
        | exact l223a hkk hm2 hc1 (fun q => hP q.1.1.1) r23
        | exact l223a hkk hm2 hc1 (fun q => hP q.1.1.1) r22
        | exact l223a hkk hm2 hc1 (fun q => hP q.1.1.1) r21
        | exact l223a hkk hm2 hc1 (fun q => hP q.1.1.1) r20
        | exact l223a hkk hm2 hc1 (fun q => hP q.1.1.1) r19
        | exact l223a hkk hm2 hc1 (fun q => hP q.1.1.1) r18
        | exact l223a hkk hm2 hc1 (fun q => hP q.1.1.1) r17
        | exact l223a hkk hm2 hc1 (fun q => hP q.1.1.1) r16
        | exact l223a hkk hm2 hc1 (fun q => hP q.1.1.1) r15
        | exact l223a hkk hm2 hc1 (fun q => hP q.1.1.1) r14
        | exact l223a hkk hm2 hc1 (fun q => hP q.1.1.1) r13
        | exact l223a hkk hm2 hc1 (fun q => hP q.1.1.1) r12
        | exact l223a hkk hm2 hc1 (fun q => hP q.1.1.1) r11
        | exact l223a hkk hm2 hc1 (fun q => hP q.1.1.1) r10
        | exact l223a hkk hm2 hc1 (fun q => hP q.1.1.1) r9
        | exact l223a hkk hm2 hc1 (fun q => hP q.1.1.1) r8
        | exact l223a hkk hm2 hc1 (fun q => hP q.1.1.1) r7
        | exact l223a hkk hm2 hc1 (fun q => hP q.1.1.1) r6
        | exact l223a hkk hm2 hc1 (fun q => hP q.1.1.1) r5
        | exact l223a hkk hm2 hc1 (fun q => hP q.1.1.1) r4
        | exact l223a hkk hm2 hc1 (fun q => hP q.1.1.1) r3
        | exact l223a hkk hm2 hc1 (fun q => hP q.1.1.1) r2
def lks (M : mM) (n : Nat) : Nat → mM
  | 0 => M
  | i + 1 => mput (lks M n i) 67 (62 + 7 * n + (3 + i)) (nI 1)
theorem lks_o {n : Nat} : ∀ (i x : Nat), i ≤ 4 → (x < 65 + 7 * n) → lks M n i 67 x = M 67 x := by
  intro i
  induction i with
  | zero => intro x _ _; rfl
  | succ i ih =>
    intro x hi hx
    show mput _ _ _ _ _ _ = _
    rw [mp1 (by omega), ih x (by omega) hx]
theorem lks_c {n a : Nat} (h : a ≠ 67) : ∀ i, lks M n i a = M a := by
  intro i
  induction i with
  | zero => rfl
  | succ i ih =>
    show mput _ _ _ _ _ = _
    rw [mpo h, ih]
theorem lks_sf {n : Nat} (hn : n < 8) : ∀ i, i ≤ 4 → Sf M (lks M n i) := by
  intro i
  induction i with
  | zero => intro _; exact Sf.rf
  | succ i ih =>
    intro hi
    exact (ih (by omega)).trans (Sf.person hn (by omega))
/-- one more of people -/
def joinT (M : mM) (n : Nat) (k p w : Int32) : mM := mput (lks (mput (mput (mput M 67 (62 + 7 * n + 0) k) 67 (62 + 7 * n + 1) p) 67 (62 + 7 * n + 2) w) n 4) 67 2 (nI (n + 1))
theorem v158 {n : Nat} {k p w : Int32} {M0 : mM} (h8 : n < 8) (hn : M0 67 2 = nI n) : ∀ (m i : Nat), 4 - i < m → i ≤ 4 → mEv X (fun r D => r = some (.int (nI n)) ∧ D = con (mput (lks M0 n 4) 67 2 (nI (n + 1)))) 158 47 [some (.ref 66), some (.int k), some (.int p), some (.int w), some (.int (nI n)), some (.int (nI i))] [] (con (lks M0 n i)) := by
  have hm : mMet 158 = some _ := rfl
  intro m
  induction m with
  | zero =>
    intro i him hi4
    omega
  | succ m ih =>
    intro i him hi4
    have hn1 : lks M0 n i 67 2 = nI n := (lks_o i 2 hi4 (by omega)).trans hn
    refine x_iload hm rfl rfl ?_
    refine x_iconst hm rfl (v := nI 4) (by decide) ?_
    refine x_icmp_ge hm rfl (t := 74) rfl (fun h1 => ?_) (fun h1 => ?_)
    · obtain rfl : i = 4 := Nat.le_antisymm hi4 ((jI_le (by decide) (by omega)).mp h1)
      refine x_aload_n hm rfl rfl ?_
      refine x_getf hm rfl (gR rfl rfl) ?_
      refine x_iconst hm rfl (v := nI 2) (by decide) ?_
      refine x_dup2 hm rfl rfl rfl ?_
      refine x_iald hm rfl (lI rfl (by omega) (by decide)) ?_
      rw [hn1]
      refine x_iconst hm rfl (v := nI 1) (by decide) ?_
      refine x_iadd hm rfl ?_
      rw [jI_add]
      refine x_iast hm rfl (sI rfl (by omega) (by decide)) ?_
      refine x_iload hm rfl rfl ?_
      refine x_iret hm rfl rfl (by first | rfl | exact bI_nar | decide) ?_
      exact ⟨rfl, rfl⟩
    · have hk : i < 4 := Nat.lt_of_not_le fun h => h1 (nI_le h (by omega))
      refine x_aload_n hm rfl rfl ?_
      refine x_getf hm rfl (gR rfl rfl) ?_
      refine x_iload hm rfl rfl ?_
      refine x_iconst hm rfl (v := nI 3) (by decide) ?_
      refine x_iload hm rfl rfl ?_
      refine x_iadd hm rfl ?_
      rw [jI_add]
      refine x_callS hm rfl rfl (t142) ?_
      refine x_iconst hm rfl (v := nI 1) (by decide) ?_
      refine x_iast hm rfl (sI rfl (by omega) (by decide)) ?_
      refine x_iinc hm rfl rfl (v := nI 1) (by decide) rfl ?_
      rw [jI_add]
      refine x_goto hm rfl (t := 47) rfl ?_
      exact ih (i + 1) (by omega) (by omega)
theorem u158 {n : Nat} {k p w : Int32} (hn : M 67 2 = nI n) (h8 : n < 8) : mT X 158 [.ref 66, .int k, .int p, .int w] (con M) (some (.int (nI n))) (con (joinT M n k p w)) := by
  refine mT.of (row := _) rfl (Nat.le_of_ble_eq_true rfl) ?_
  have hm : mMet 158 = some _ := rfl
  refine x_aload_n hm rfl rfl ?_
  refine x_getf hm rfl (gR rfl rfl) ?_
  refine x_iconst hm rfl (v := nI 2) (by decide) ?_
  refine x_iald hm rfl (lI rfl (by omega) (by decide)) ?_
  rw [hn]
  refine x_istore hm rfl rfl ?_
  refine x_aload_n hm rfl rfl ?_
  refine x_getf hm rfl (gR rfl rfl) ?_
  refine x_iload hm rfl rfl ?_
  refine x_iconst hm rfl (v := nI 0) (by decide) ?_
  refine x_callS hm rfl rfl (t142) ?_
  refine x_iload_n hm rfl rfl ?_
  refine x_iast hm rfl (sI rfl (by omega) (by decide)) ?_
  refine x_aload_n hm rfl rfl ?_
  refine x_getf hm rfl (gR rfl rfl) ?_
  refine x_iload hm rfl rfl ?_
  refine x_iconst hm rfl (v := nI 1) (by decide) ?_
  refine x_callS hm rfl rfl (t142) ?_
  refine x_iload_n hm rfl rfl ?_
  refine x_iast hm rfl (sI rfl (by omega) (by decide)) ?_
  refine x_aload_n hm rfl rfl ?_
  refine x_getf hm rfl (gR rfl rfl) ?_
  refine x_iload hm rfl rfl ?_
  refine x_iconst hm rfl (v := nI 2) (by decide) ?_
  refine x_callS hm rfl rfl (t142) ?_
  refine x_iload_n hm rfl rfl ?_
  refine x_iast hm rfl (sI rfl (by omega) (by decide)) ?_
  refine x_iconst hm rfl (v := nI 0) (by decide) ?_
  refine x_istore hm rfl rfl ?_
  exact v158 (M0 := mput (mput (mput M 67 (62 + 7 * n + 0) k) 67 (62 + 7 * n + 1) p) 67 (62 + 7 * n + 2) w) h8 (by rw [mp1 (by omega), mp1 (by omega), mp1 (by omega)]; exact hn) _ 0 (Nat.lt_succ_self _) (Nat.zero_le _)
theorem u230a {k n : Nat} (hk : k < 120) (h10 : M 75 (7 * k) = nI 10) (hn : M 67 1 = nI n) (h8 : n < 8) : mT X 230 [.ref 66, .int (nI (7 * k))] (con M) (some (.int (nI n))) (con (addT M n (M 75 (7 * k + 1)) (M 75 (7 * k + 2)) (M 75 (7 * k + 3)) (M 75 (7 * k + 4)) (M 75 (7 * k + 5)) (M 75 (7 * k + 6)))) := by
  refine mT.of (row := _) rfl (Nat.le_of_ble_eq_true rfl) ?_
  have hm : mMet 230 = some _ := rfl
  refine x_aload_n hm rfl rfl ?_
  refine x_getf hm rfl (gR rfl rfl) ?_
  refine x_iload_n hm rfl rfl ?_
  refine x_iald hm rfl (lI rfl (by omega) (by decide)) ?_
  rw [h10]
  refine x_bipush hm rfl (v := nI 10) (by decide) ?_
  refine x_icmp_ne hm rfl (t := 65) rfl (fun h1 => ?_) (fun h1 => ?_)
  · exact absurd rfl h1 --stop
  · refine x_aload_n hm rfl rfl ?_
    refine x_aload_n hm rfl rfl ?_
    refine x_getf hm rfl (gR rfl rfl) ?_
    refine x_iload_n hm rfl rfl ?_
    refine x_iconst hm rfl (v := nI 1) (by decide) ?_
    refine x_iadd hm rfl ?_
    rw [jI_add]
    refine x_iald hm rfl (lI rfl (by omega) (by decide)) ?_
    refine x_aload_n hm rfl rfl ?_
    refine x_getf hm rfl (gR rfl rfl) ?_
    refine x_iload_n hm rfl rfl ?_
    refine x_iconst hm rfl (v := nI 2) (by decide) ?_
    refine x_iadd hm rfl ?_
    rw [jI_add]
    refine x_iald hm rfl (lI rfl (by omega) (by decide)) ?_
    refine x_aload_n hm rfl rfl ?_
    refine x_getf hm rfl (gR rfl rfl) ?_
    refine x_iload_n hm rfl rfl ?_
    refine x_iconst hm rfl (v := nI 3) (by decide) ?_
    refine x_iadd hm rfl ?_
    rw [jI_add]
    refine x_iald hm rfl (lI rfl (by omega) (by decide)) ?_
    refine x_aload_n hm rfl rfl ?_
    refine x_getf hm rfl (gR rfl rfl) ?_
    refine x_iload_n hm rfl rfl ?_
    refine x_iconst hm rfl (v := nI 4) (by decide) ?_
    refine x_iadd hm rfl ?_
    rw [jI_add]
    refine x_iald hm rfl (lI rfl (by omega) (by decide)) ?_
    refine x_aload_n hm rfl rfl ?_
    refine x_getf hm rfl (gR rfl rfl) ?_
    refine x_iload_n hm rfl rfl ?_
    refine x_iconst hm rfl (v := nI 5) (by decide) ?_
    refine x_iadd hm rfl ?_
    rw [jI_add]
    refine x_iald hm rfl (lI rfl (by omega) (by decide)) ?_
    refine x_aload_n hm rfl rfl ?_
    refine x_getf hm rfl (gR rfl rfl) ?_
    refine x_iload_n hm rfl rfl ?_
    refine x_bipush hm rfl (v := nI 6) (by decide) ?_
    refine x_iadd hm rfl ?_
    rw [jI_add]
    refine x_iald hm rfl (lI rfl (by omega) (by decide)) ?_
    refine x_callV hm rfl rfl (t136 hn h8) ?_
    refine x_iret hm rfl rfl (by first | rfl | exact bI_nar | decide) ?_
    exact ⟨rfl, rfl⟩
/-- one more of people, by an item's likings -/
def lkt (M : mM) (n k : Nat) : Nat → mM
  | 0 => M
  | i + 1 => mput (lkt M n k i) 67 (62 + 7 * n + (3 + i)) (lkt M n k i 75 (7 * k + 3 + i))
theorem lkt_c {n k a : Nat} (h : a ≠ 67) : ∀ i, lkt M n k i a = M a := by
  intro i
  induction i with
  | zero => rfl
  | succ i ih =>
    show mput _ _ _ _ _ = _
    rw [mpo h, ih]
theorem lkt_sf {n k : Nat} (hn : n < 8) : ∀ i, i ≤ 4 → Sf M (lkt M n k i) := by
  intro i
  induction i with
  | zero => intro _; exact Sf.rf
  | succ i ih =>
    intro hi
    exact (ih (by omega)).trans (Sf.person hn (by omega))
theorem v230 {n k : Nat} {M0 : mM} (hk : k < 120) (h8 : n < 8) : ∀ (m i : Nat), 4 - i < m → i ≤ 4 → mEv X (fun r D => r = some (.int (nI n)) ∧ D = con (lkt M0 n k 4)) 230 94 [some (.ref 66), some (.int (nI (7 * k))), some (.int (nI n)), some (.int (nI i))] [] (con (lkt M0 n k i)) := by
  have hm : mMet 230 = some _ := rfl
  intro m
  induction m with
  | zero =>
    intro i him hi4
    omega
  | succ m ih =>
    intro i him hi4
    refine x_iload_n hm rfl rfl ?_
    refine x_iconst hm rfl (v := nI 4) (by decide) ?_
    refine x_icmp_ge hm rfl (t := 127) rfl (fun h1 => ?_) (fun h1 => ?_)
    · obtain rfl : i = 4 := Nat.le_antisymm hi4 ((jI_le (by decide) (by omega)).mp h1)
      refine x_iload_n hm rfl rfl ?_
      refine x_iret hm rfl rfl (by first | rfl | exact bI_nar | decide) ?_
      exact ⟨rfl, rfl⟩
    · have hi : i < 4 := Nat.lt_of_not_le fun h => h1 (nI_le h (by omega))
      refine x_aload_n hm rfl rfl ?_
      refine x_getf hm rfl (gR rfl rfl) ?_
      refine x_iload_n hm rfl rfl ?_
      refine x_iconst hm rfl (v := nI 3) (by decide) ?_
      refine x_iload_n hm rfl rfl ?_
      refine x_iadd hm rfl ?_
      rw [jI_add]
      refine x_callS hm rfl rfl (t142) ?_
      refine x_aload_n hm rfl rfl ?_
      refine x_getf hm rfl (gR rfl rfl) ?_
      refine x_iload_n hm rfl rfl ?_
      refine x_iconst hm rfl (v := nI 3) (by decide) ?_
      refine x_iadd hm rfl ?_
      rw [jI_add]
      refine x_iload_n hm rfl rfl ?_
      refine x_iadd hm rfl ?_
      rw [jI_add]
      refine x_iald hm rfl (lI rfl (by omega) (by decide)) ?_
      refine x_iast hm rfl (sI rfl (by omega) (by decide)) ?_
      refine x_iinc hm rfl rfl (v := nI 1) (by decide) rfl ?_
      rw [jI_add]
      refine x_goto hm rfl (t := 94) rfl ?_
      exact ih (i + 1) (by omega) (by omega)
theorem u230b {k n kk : Nat} (hk : k < 120) (h7 : kk < 7) (h10 : M 75 (7 * k) = nI kk) (hn : M 67 2 = nI n) (h8 : n < 8) : mT X 230 [.ref 66, .int (nI (7 * k))] (con M) (some (.int (nI n))) (con (lkt (joinT M n (M 75 (7 * k)) (M 75 (7 * k + 1)) (M 75 (7 * k + 2))) n k 4)) := by
  refine mT.of (row := _) rfl (Nat.le_of_ble_eq_true rfl) ?_
  have hm : mMet 230 = some _ := rfl
  refine x_aload_n hm rfl rfl ?_
  refine x_getf hm rfl (gR rfl rfl) ?_
  refine x_iload_n hm rfl rfl ?_
  refine x_iald hm rfl (lI rfl (by omega) (by decide)) ?_
  refine x_bipush hm rfl (v := nI 10) (by decide) ?_
  refine x_icmp_ne hm rfl (t := 65) rfl (fun h1 => ?_) (fun h1 => ?_)
  · refine x_aload_n hm rfl rfl ?_
    refine x_aload_n hm rfl rfl ?_
    refine x_getf hm rfl (gR rfl rfl) ?_
    refine x_iload_n hm rfl rfl ?_
    refine x_iald hm rfl (lI rfl (by omega) (by decide)) ?_
    refine x_aload_n hm rfl rfl ?_
    refine x_getf hm rfl (gR rfl rfl) ?_
    refine x_iload_n hm rfl rfl ?_
    refine x_iconst hm rfl (v := nI 1) (by decide) ?_
    refine x_iadd hm rfl ?_
    rw [jI_add]
    refine x_iald hm rfl (lI rfl (by omega) (by decide)) ?_
    refine x_aload_n hm rfl rfl ?_
    refine x_getf hm rfl (gR rfl rfl) ?_
    refine x_iload_n hm rfl rfl ?_
    refine x_iconst hm rfl (v := nI 2) (by decide) ?_
    refine x_iadd hm rfl ?_
    rw [jI_add]
    refine x_iald hm rfl (lI rfl (by omega) (by decide)) ?_
    refine x_callV hm rfl rfl (u158 hn h8) ?_
    refine x_istore_n hm rfl rfl ?_
    refine x_iconst hm rfl (v := nI 0) (by decide) ?_
    refine x_istore_n hm rfl rfl ?_
    exact v230 hk h8 _ 0 (Nat.lt_succ_self _) (Nat.zero_le _)
  · rw [h10] at h1
    have := jI_inj (by omega) (by omega) h1
    omega --stop
theorem v226 {b e c : Nat} {x : Int32} (hT : Tx b e c M) (h14 : M 66 14 = 0) (hx : ¬ x = 0) : ∃ M', mT X 226 [.ref 66, .int x] (con M) none (con M') ∧ ∃ b' e', Tx b' e' c M' ∧ Ly M M' ∧ M' 66 14 = 0 ∧ e ≤ b' := by
  refine tv_of (row := _) rfl (Nat.le_of_ble_eq_true rfl) ?_
  have hm : mMet 226 = some _ := rfl
  refine x_aload_n hm rfl rfl ?_
  refine x_aload_n hm rfl rfl ?_
  refine x_getf hm rfl (gI rfl rfl) ?_
  refine x_if_ne hm rfl (t := 12) rfl (fun h1 => ?_) (fun h1 => ?_)
  · exact absurd h14 h1 --stop
  · refine x_iload_n hm rfl rfl ?_
    refine x_if_ne hm rfl (t := 16) rfl (fun h2 => ?_) (fun h2 => ?_)
    · refine x_iconst hm rfl (v := nI 0) (by decide) ?_
      refine x_putf hm rfl (pI rfl rfl (by decide) (by first | exact mFit_int | rfl | decide) rfl) ?_
      refine x_aload_n hm rfl rfl ?_
      refine x_getf hm rfl (gI rfl rfl) ?_
      rw [mp0]
      refine x_if_ne hm rfl (t := 31) rfl (fun h3 => ?_) (fun h3 => ?_)
      · exact absurd rfl h3 --stop
      · refine x_aload_n hm rfl rfl ?_
        refine x_cVv hm rfl rfl (t221 hT.flag.2.2.1 hT.2.2.2.2.2.1 hT.flag.2.1 hT.2.2.2.2.1) (fun M4 r4 => ?_)
        refine x_ret hm rfl rfl ?_
        first
          | (obtain ⟨b1, e1, g1, g2, g3, g4, g5, g6, g7⟩ := r4; exact ⟨_, rfl, rfl, b1, e1, ⟨g1, g2, (g7 66 9 (by omega)).trans hT.flag.2.2.1, g4, g5, hT.2.2.2.2.2.1, g6⟩, Ly.flag.trans g7.ly, (g7 66 14 (by omega)).trans mp0, g3⟩)
          | (obtain ⟨b1, e1, g1, g2, g3, g4, g5, g6, g7⟩ := r2; exact ⟨_, rfl, rfl, b1, e1, ⟨g1, g2, (g7 66 9 (by omega)).trans hT.flag.2.2.1, g4, g5, hT.2.2.2.2.2.1, g6⟩, Ly.flag.trans g7.ly, (g7 66 14 (by omega)).trans mp0, g3⟩)
          | (obtain ⟨b1, e1, g1, g2, g3, g4, g5, g6, g7⟩ := r3; exact ⟨_, rfl, rfl, b1, e1, ⟨g1, g2, (g7 66 9 (by omega)).trans hT.flag.2.2.1, g4, g5, hT.2.2.2.2.2.1, g6⟩, Ly.flag.trans g7.ly, (g7 66 14 (by omega)).trans mp0, g3⟩)
          | (obtain ⟨b1, e1, g1, g2, g3, g4, g5, g6, g7⟩ := r5; exact ⟨_, rfl, rfl, b1, e1, ⟨g1, g2, (g7 66 9 (by omega)).trans hT.flag.2.2.1, g4, g5, hT.2.2.2.2.2.1, g6⟩, Ly.flag.trans g7.ly, (g7 66 14 (by omega)).trans mp0, g3⟩)
          | (obtain ⟨b1, e1, g1, g2, g3, g4, g5, g6, g7⟩ := r6; exact ⟨_, rfl, rfl, b1, e1, ⟨g1, g2, (g7 66 9 (by omega)).trans hT.flag.2.2.1, g4, g5, hT.2.2.2.2.2.1, g6⟩, Ly.flag.trans g7.ly, (g7 66 14 (by omega)).trans mp0, g3⟩)
          | (obtain ⟨b1, e1, g1, g2, g3, g4, g5, g6, g7⟩ := r7; exact ⟨_, rfl, rfl, b1, e1, ⟨g1, g2, (g7 66 9 (by omega)).trans hT.flag.2.2.1, g4, g5, hT.2.2.2.2.2.1, g6⟩, Ly.flag.trans g7.ly, (g7 66 14 (by omega)).trans mp0, g3⟩)
          | (obtain ⟨b1, e1, g1, g2, g3, g4, g5, g6, g7⟩ := r8; exact ⟨_, rfl, rfl, b1, e1, ⟨g1, g2, (g7 66 9 (by omega)).trans hT.flag.2.2.1, g4, g5, hT.2.2.2.2.2.1, g6⟩, Ly.flag.trans g7.ly, (g7 66 14 (by omega)).trans mp0, g3⟩)
          | (obtain ⟨b1, e1, g1, g2, g3, g4, g5, g6, g7⟩ := r9; exact ⟨_, rfl, rfl, b1, e1, ⟨g1, g2, (g7 66 9 (by omega)).trans hT.flag.2.2.1, g4, g5, hT.2.2.2.2.2.1, g6⟩, Ly.flag.trans g7.ly, (g7 66 14 (by omega)).trans mp0, g3⟩)
          | (obtain ⟨b1, e1, g1, g2, g3, g4, g5, g6, g7⟩ := r10; exact ⟨_, rfl, rfl, b1, e1, ⟨g1, g2, (g7 66 9 (by omega)).trans hT.flag.2.2.1, g4, g5, hT.2.2.2.2.2.1, g6⟩, Ly.flag.trans g7.ly, (g7 66 14 (by omega)).trans mp0, g3⟩)
          | (obtain ⟨b1, e1, g1, g2, g3, g4, g5, g6, g7⟩ := r11; exact ⟨_, rfl, rfl, b1, e1, ⟨g1, g2, (g7 66 9 (by omega)).trans hT.flag.2.2.1, g4, g5, hT.2.2.2.2.2.1, g6⟩, Ly.flag.trans g7.ly, (g7 66 14 (by omega)).trans mp0, g3⟩)
    · exact absurd h2 hx --stop
def Lt (M0 M : mM) : Prop := ∀ a x, (a ≠ 66 ∨ x < 10) → a ≠ 75 → M a x = M0 a x
theorem Lt.rf : Lt M M := fun _ _ _ _ => rfl
theorem Lt.trans {M1 M2 : mM} (h : Lt M M1) (g : Lt M1 M2) : Lt M M2 := fun a x h1 h2 => (g a x h1 h2).trans (h a x h1 h2)
theorem Ly.lt {M1 : mM} (h : Ly M M1) : Lt M M1 := fun a x h1 _ => h a x (by omega)
theorem Lw.lt {m : Nat} {M1 : mM} (h : Lw m M M1) : Lt M M1 := fun a x h1 h2 => h a x h1 (Or.inl h2)
theorem Lt.put {x : Nat} {v : Int32} (hx : 10 ≤ x) : Lt M (mput M 66 x v) := fun a y h1 _ => by
  unfold mput
  rw [if_neg]
  rintro ⟨e1, e2⟩
  omega
theorem Lt.inv {M1 : mM} (h : Lt M M1) (hI : Inv M) : Inv M1 := by
  refine ⟨fun a x => ?_, ?_, ?_⟩
  · by_cases h1 : a ≠ 66 ∨ x < 10
    · by_cases h2 : a = 75
      · subst h2
        rw [kd75]
        trivial
      · rw [h a x h1 h2]
        exact hI.1 a x
    · have e : a = 66 := by omega
      subst e
      rw [kd66 (by omega)]
      trivial
  · rw [show M1 67 = M 67 from funext fun x => h 67 x (by omega) (by omega)]
    exact hI.2.1
  · rw [show M1 68 = M 68 from funext fun x => h 68 x (by omega) (by omega)]
    exact hI.2.2
theorem taped_inv {v : Int32} (hI : Inv M) (hv : okx 4 v) : Inv (mput M 66 9 v) := ⟨hI.1.put (show okx (kd 66 9) v from hv), by rw [mpo (by decide)]; exact hI.2.1, by rw [mpo (by decide)]; exact hI.2.2⟩
theorem Itm.of {M1 : mM} {m tn tn' pn pn' : Nat} (h : Itm M m tn tn' pn pn') (e : ∀ x, x < 7 → M1 75 (7 * m + x) = M 75 (7 * m + x)) : Itm M1 m tn tn' pn pn' := by
  unfold Itm at h ⊢
  rw [e 1 (by decide), e 5 (by decide), e 6 (by decide), show M1 75 (7 * m) = M 75 (7 * m) from e 0 (by decide)]
  exact h
def Its (M : mM) (ct cp : Nat → Nat) (m : Nat) : Prop := ∀ k, k < m → Itm M k (ct k) (ct (k + 1)) (cp k) (cp (k + 1))
/-- between items -/
def St (c m : Nat) (ct cp : Nat → Nat) (b e : Nat) (M0 M : mM) : Prop := Tx b e c M ∧ M 66 17 = nI m ∧ M 66 18 = nI (ct m) ∧ M 66 19 = nI (cp m) ∧ Lt M0 M ∧ (M 66 14 = 0 → 2 * m ≤ b + 1 ∧ 1 ≤ m ∧ Its M ct cp m)
theorem Itm.le {m tn tn' pn pn' : Nat} (h : Itm M m tn tn' pn pn') (h1 : tn ≤ 8) (h2 : pn ≤ 8) : tn' ≤ 8 ∧ pn' ≤ 8 := by
  rcases h with ⟨k, -, -, h3, h4, h5⟩ | ⟨-, h3, h4, h5, -⟩ <;> omega
theorem Its.le {ct cp : Nat → Nat} (h1 : ct 0 ≤ 8) (h2 : cp 0 ≤ 8) : ∀ m, Its M ct cp m → ct m ≤ 8 ∧ cp m ≤ 8 := by
  intro m
  induction m with
  | zero => intro _; exact ⟨h1, h2⟩
  | succ m ih =>
    intro h
    have g := ih fun k hk => h k (by omega)
    exact (h m (by omega)).le g.1 g.2
/-- an item more -/
theorem St.more {c m b0 : Nat} {ct cp : Nat → Nat} {M0 M1 M2 : mM} (hL : Lt M0 M1) (hz : Rz b0 c m (ct m) (cp m) M1 M2) (hb : 2 * m ≤ b0) (hi : Its M1 ct cp m) : ∃ ct' cp' b e, ct' 0 = ct 0 ∧ cp' 0 = cp 0 ∧ b0 ≤ b ∧ St c (m + 1) ct' cp' b e M0 M2 := by
  obtain ⟨tn', pn', b1, e1, g1, g2, g3, g4, g5, g6, g7⟩ := hz
  refine ⟨fun k => if k ≤ m then ct k else tn', fun k => if k ≤ m then cp k else pn', b1, e1, if_pos (Nat.zero_le _), if_pos (Nat.zero_le _), g2, g1, g3, ?_, ?_, hL.trans g6.lt, fun q => ⟨by have := (g7 q).1; omega, by omega, fun k hk => ?_⟩⟩
  · dsimp only; rw [if_neg (by omega)]; exact g4
  · dsimp only; rw [if_neg (by omega)]; exact g5
  · dsimp only
    by_cases hkm : k = m
    · subst hkm
      rw [if_pos (Nat.le_refl _), if_neg (by omega), if_pos (Nat.le_refl _), if_neg (by omega)]
      exact (g7 q).2
    · rw [if_pos (by omega), if_pos (by omega), if_pos (by omega), if_pos (by omega)]
      exact (hi k (by omega)).of fun x hx => g6 75 (7 * k + x) (by omega) (by omega)
theorem ge0 {k : Nat} (h : k < 2147483648) : (0 : Int32) ≤ nI k := by
  rw [Int32.le_iff_toInt_le, jI_int h]
  exact Int.natCast_nonneg _

theorem l220f {mm : Nat} {ct cp : Nat → Nat} {Mi : mM} (hmm : mm ≤ 61) (hi : Its Mi ct cp mm) : ∀ (q k : Nat) (g : Int32) (M1 : mM), mm - k < q → k ≤ mm → Inv M1 → M1 75 = Mi 75 → M1 66 17 = nI mm → M1 67 1 = nI (ct k) → M1 67 2 = nI (cp k) → mEv X (QI (fun _ M' => Inv M')) 220 123 [some (.ref 66), some (.int g), some (.int (nI k))] [] (con M1) := by
  have hm : mMet 220 = some _ := rfl
  intro q
  induction q with
  | zero =>
    intro k g M1 hkn hkb hI h75 h17 hq1 hq2
    omega
  | succ q ih =>
    intro k g M1 hkn hkb hI h75 h17 hq1 hq2
    refine x_iload_n hm rfl rfl ?_
    refine x_aload_n hm rfl rfl ?_
    refine x_getf hm rfl (gI rfl rfl) ?_
    rw [h17]
    refine x_icmp_ge hm rfl (t := 156) rfl (fun h1 => ?_) (fun h1 => ?_)
    · refine x_iload_n hm rfl rfl ?_
      refine x_iret hm rfl rfl (by first | rfl | exact bI_nar | decide) ?_
      exact ⟨_, _, rfl, rfl, hI⟩
    · have hk : k < mm := Nat.lt_of_not_le fun h => h1 (nI_le h (by omega))
      have hit := (hi k hk).of (M1 := M1) fun x _ => by rw [h75]
      refine x_iload_n hm rfl rfl ?_
      refine x_aload_n hm rfl rfl ?_
      refine x_bipush hm rfl (v := nI 7) (by decide) ?_
      refine x_iload_n hm rfl rfl ?_
      refine x_imul hm rfl ?_
      rw [jI_mul]
      rcases hit with ⟨kk, hk7, hq, e1, e2, e3⟩ | ⟨hq, e1, e2, e3, e4, e5, e6⟩
      · refine x_callV hm rfl rfl (u230b (n := cp k) (by omega) hk7 hq hq2 e3) ?_
        have hS : Sf M1 (lks (mput (mput (mput M1 67 (62 + 7 * cp k + 0) (M1 75 (7 * k))) 67 (62 + 7 * cp k + 1) (M1 75 (7 * k + 1))) 67 (62 + 7 * cp k + 2) (M1 75 (7 * k + 2))) (cp k) 4) := (((Sf.person e3 (by decide)).trans (Sf.person e3 (by decide))).trans (Sf.person e3 (by decide))).trans (lks_sf e3 4 (by decide))
        have hS2 := lkt_sf (M := joinT M1 (cp k) (M1 75 (7 * k)) (M1 75 (7 * k + 1)) (M1 75 (7 * k + 2))) (k := k) e3 4 (by decide)
        have hJ : Inv (joinT M1 (cp k) (M1 75 (7 * k)) (M1 75 (7 * k + 1)) (M1 75 (7 * k + 2))) := joined hI hS e3
        refine x_if_ge hm rfl (t := 147) rfl (fun h9 => ?_) (fun h9 => absurd (ge0 (by omega)) h9)
        refine x_iconst hm rfl (v := nI 1) (by decide) ?_
        refine x_iadd hm rfl ?_
        refine x_istore_n hm rfl rfl ?_
        refine x_iinc hm rfl rfl (v := nI 1) (by decide) rfl ?_
        rw [jI_add]
        refine x_goto hm rfl (t := 123) rfl ?_
        refine ih _ _ _ (by omega) (by omega) (hS2.inv hJ) ?_ ?_ ?_ ?_
        · rw [lkt_c (by decide)]; unfold joinT; rw [mpo (by decide), lks_c (by decide), mpo (by decide), mpo (by decide), mpo (by decide)]; exact h75
        · rw [lkt_c (by decide)]; unfold joinT; rw [mpo (by decide), lks_c (by decide), mpo (by decide), mpo (by decide), mpo (by decide)]; exact h17
        · rw [hS2.2.1, e1]; unfold joinT; rw [mp1 (by decide)]; exact hS.2.1.trans hq1
        · rw [hS2.2.2.1, e2]; unfold joinT; exact mp0
      · refine x_callV hm rfl rfl (u230a (n := ct k) (by omega) hq hq1 e3) ?_
        refine x_if_ge hm rfl (t := 147) rfl (fun h9 => ?_) (fun h9 => absurd (ge0 (by omega)) h9)
        refine x_iconst hm rfl (v := nI 1) (by decide) ?_
        refine x_iadd hm rfl ?_
        refine x_istore_n hm rfl rfl ?_
        refine x_iinc hm rfl rfl (v := nI 1) (by decide) rfl ?_
        rw [jI_add]
        refine x_goto hm rfl (t := 123) rfl ?_
        refine ih _ _ _ (by omega) (by omega) (addT_inv hI hq1 e3 e4 e5 e6) (by rw [addT_o (by decide)]; exact h75) (by rw [addT_o (by decide)]; exact h17) ?_ ?_
        · rw [e1]; unfold addT; exact mp0
        · rw [addT_2, e2]; exact hq2
theorem l220 {c nt np : Nat} (hI : Inv M) (hnt : M 67 1 = nI nt) (hnp : M 67 2 = nI np) (hn8 : nt ≤ 8) (hp8 : np ≤ 8) : ∀ (q m b e : Nat) (ct cp : Nat → Nat) (x1 x2 : Option Value) (M1 : mM), c - b < q → ct 0 = nt → cp 0 = np → St c m ct cp b e M M1 → mEv X (QI (fun _ M' => Inv M')) 220 43 [some (.ref 66), x1, x2] [] (con M1) := by
  have hm : mMet 220 = some _ := rfl
  intro q
  induction q with
  | zero =>
    intro m b e ct cp x1 x2 M1 hcb hct hcp hS
    omega
  | succ q ih =>
    intro m b e ct cp x1 x2 M1 hcb hct hcp hS
    obtain ⟨hT, h17, h18, h19, hL, hok⟩ := hS
    obtain ⟨y1, y2, y3, y4, y5, y6, y7⟩ := id hT
    refine x_aload_n hm rfl rfl ?_
    refine x_getf hm rfl (gI rfl rfl) ?_
    refine x_if_ne hm rfl (t := 84) rfl (fun h1 => ?_) (fun h1 => ?_)
    · refine x_aload_n hm rfl rfl ?_
      refine x_aload_n hm rfl rfl ?_
      refine x_getf hm rfl (gI rfl rfl) ?_
      refine x_if_ne hm rfl (t := 96) rfl (fun h2 => ?_) (fun h2 => ?_)
      · refine x_iconst hm rfl (v := nI 0) (by decide) ?_
        refine x_cVv hm rfl rfl (t226 hT) (fun M3 r3 => ?_)
        obtain ⟨b3, e3, k1, k2, k3, k4⟩ := r3
        have hI3 : Inv (mput M3 66 9 (nI 0)) := taped_inv (Lt.inv (hL.trans k2.lt) hI) (okI4 (k := 0) (by decide))
        refine x_aload_n hm rfl rfl ?_
        refine x_iconst hm rfl (v := nI 0) (by decide) ?_
        refine x_putf hm rfl (pI rfl rfl (by decide) (by first | exact mFit_int | rfl | decide) rfl) ?_
        refine x_aload_n hm rfl rfl ?_
        refine x_getf hm rfl (gI rfl rfl) ?_
        refine x_if_eq hm rfl (t := 119) rfl (fun h9 => ?_) (fun h9 => ?_)
        · rw [mpf (by decide)] at h9
          obtain ⟨o1, o2, o3⟩ := hok (k4 h9).1
          refine x_iconst hm rfl (v := nI 0) (by decide) ?_
          refine x_istore_n hm rfl rfl ?_
          refine x_iconst hm rfl (v := nI 0) (by decide) ?_
          refine x_istore_n hm rfl rfl ?_
          refine l220f (mm := m) (ct := ct) (cp := cp) (Mi := M1) (by omega) o3 _ 0 _ _ (Nat.lt_succ_self _) (Nat.zero_le _) hI3 ?_ ?_ ?_ ?_
          · rw [mpo (by decide)]; exact funext fun x => k2 75 x (by omega)
          · rw [mpf (by decide)]; exact (k2 66 17 (by omega)).trans h17
          · rw [mpo (by decide), k2 67 1 (by omega), hL 67 1 (by omega) (by omega), hct]; exact hnt
          · rw [mpo (by decide), k2 67 2 (by omega), hL 67 2 (by omega) (by omega), hcp]; exact hnp
        · refine x_iconst hm rfl (v := -1) (by decide) ?_
          refine x_aload_n hm rfl rfl ?_
          refine x_getf hm rfl (gI rfl rfl) ?_
          refine x_isub hm rfl ?_
          refine x_iret hm rfl rfl (by first | rfl | exact bI_nar | decide) ?_
          exact ⟨_, _, rfl, rfl, hI3⟩
      · refine x_iconst hm rfl (v := nI 1) (by decide) ?_
        refine x_goto hm rfl (t := 97) rfl ?_
        refine x_cVv hm rfl rfl (t226 hT) (fun M3 r3 => ?_)
        obtain ⟨b3, e3, k1, k2, k3, k4⟩ := r3
        have hI3 : Inv (mput M3 66 9 (nI 0)) := taped_inv (Lt.inv (hL.trans k2.lt) hI) (okI4 (k := 0) (by decide))
        refine x_aload_n hm rfl rfl ?_
        refine x_iconst hm rfl (v := nI 0) (by decide) ?_
        refine x_putf hm rfl (pI rfl rfl (by decide) (by first | exact mFit_int | rfl | decide) rfl) ?_
        refine x_aload_n hm rfl rfl ?_
        refine x_getf hm rfl (gI rfl rfl) ?_
        refine x_if_eq hm rfl (t := 119) rfl (fun h9 => ?_) (fun h9 => ?_)
        · rw [mpf (by decide)] at h9
          obtain ⟨o1, o2, o3⟩ := hok (k4 h9).1
          refine x_iconst hm rfl (v := nI 0) (by decide) ?_
          refine x_istore_n hm rfl rfl ?_
          refine x_iconst hm rfl (v := nI 0) (by decide) ?_
          refine x_istore_n hm rfl rfl ?_
          refine l220f (mm := m) (ct := ct) (cp := cp) (Mi := M1) (by omega) o3 _ 0 _ _ (Nat.lt_succ_self _) (Nat.zero_le _) hI3 ?_ ?_ ?_ ?_
          · rw [mpo (by decide)]; exact funext fun x => k2 75 x (by omega)
          · rw [mpf (by decide)]; exact (k2 66 17 (by omega)).trans h17
          · rw [mpo (by decide), k2 67 1 (by omega), hL 67 1 (by omega) (by omega), hct]; exact hnt
          · rw [mpo (by decide), k2 67 2 (by omega), hL 67 2 (by omega) (by omega), hcp]; exact hnp
        · refine x_iconst hm rfl (v := -1) (by decide) ?_
          refine x_aload_n hm rfl rfl ?_
          refine x_getf hm rfl (gI rfl rfl) ?_
          refine x_isub hm rfl ?_
          refine x_iret hm rfl rfl (by first | rfl | exact bI_nar | decide) ?_
          exact ⟨_, _, rfl, rfl, hI3⟩
    · have h14 : M1 66 14 = 0 := h1
      obtain ⟨o1, o2, o3⟩ := hok h14
      have o4 := o3.le (by omega) (by omega)
      refine x_aload_n hm rfl rfl ?_
      refine x_getf hm rfl (gI rfl rfl) ?_
      refine x_iconst hm rfl (v := nI 3) (by decide) ?_
      refine x_icmp_ne hm rfl (t := 84) rfl (fun h3 => ?_) (fun h3 => ?_)
      · refine x_aload_n hm rfl rfl ?_
        refine x_aload_n hm rfl rfl ?_
        refine x_getf hm rfl (gI rfl rfl) ?_
        refine x_if_ne hm rfl (t := 96) rfl (fun h4 => ?_) (fun h4 => ?_)
        · refine x_iconst hm rfl (v := nI 0) (by decide) ?_
          refine x_cVv hm rfl rfl (t226 hT) (fun M3 r3 => ?_)
          obtain ⟨b3, e3, k1, k2, k3, k4⟩ := r3
          have hI3 : Inv (mput M3 66 9 (nI 0)) := taped_inv (Lt.inv (hL.trans k2.lt) hI) (okI4 (k := 0) (by decide))
          refine x_aload_n hm rfl rfl ?_
          refine x_iconst hm rfl (v := nI 0) (by decide) ?_
          refine x_putf hm rfl (pI rfl rfl (by decide) (by first | exact mFit_int | rfl | decide) rfl) ?_
          refine x_aload_n hm rfl rfl ?_
          refine x_getf hm rfl (gI rfl rfl) ?_
          refine x_if_eq hm rfl (t := 119) rfl (fun h9 => ?_) (fun h9 => ?_)
          · rw [mpf (by decide)] at h9
            obtain ⟨o1, o2, o3⟩ := hok (k4 h9).1
            refine x_iconst hm rfl (v := nI 0) (by decide) ?_
            refine x_istore_n hm rfl rfl ?_
            refine x_iconst hm rfl (v := nI 0) (by decide) ?_
            refine x_istore_n hm rfl rfl ?_
            refine l220f (mm := m) (ct := ct) (cp := cp) (Mi := M1) (by omega) o3 _ 0 _ _ (Nat.lt_succ_self _) (Nat.zero_le _) hI3 ?_ ?_ ?_ ?_
            · rw [mpo (by decide)]; exact funext fun x => k2 75 x (by omega)
            · rw [mpf (by decide)]; exact (k2 66 17 (by omega)).trans h17
            · rw [mpo (by decide), k2 67 1 (by omega), hL 67 1 (by omega) (by omega), hct]; exact hnt
            · rw [mpo (by decide), k2 67 2 (by omega), hL 67 2 (by omega) (by omega), hcp]; exact hnp
          · refine x_iconst hm rfl (v := -1) (by decide) ?_
            refine x_aload_n hm rfl rfl ?_
            refine x_getf hm rfl (gI rfl rfl) ?_
            refine x_isub hm rfl ?_
            refine x_iret hm rfl rfl (by first | rfl | exact bI_nar | decide) ?_
            exact ⟨_, _, rfl, rfl, hI3⟩
        · refine x_iconst hm rfl (v := nI 1) (by decide) ?_
          refine x_goto hm rfl (t := 97) rfl ?_
          refine x_cVv hm rfl rfl (t226 hT) (fun M3 r3 => ?_)
          obtain ⟨b3, e3, k1, k2, k3, k4⟩ := r3
          have hI3 : Inv (mput M3 66 9 (nI 0)) := taped_inv (Lt.inv (hL.trans k2.lt) hI) (okI4 (k := 0) (by decide))
          refine x_aload_n hm rfl rfl ?_
          refine x_iconst hm rfl (v := nI 0) (by decide) ?_
          refine x_putf hm rfl (pI rfl rfl (by decide) (by first | exact mFit_int | rfl | decide) rfl) ?_
          refine x_aload_n hm rfl rfl ?_
          refine x_getf hm rfl (gI rfl rfl) ?_
          refine x_if_eq hm rfl (t := 119) rfl (fun h9 => ?_) (fun h9 => ?_)
          · rw [mpf (by decide)] at h9
            obtain ⟨o1, o2, o3⟩ := hok (k4 h9).1
            refine x_iconst hm rfl (v := nI 0) (by decide) ?_
            refine x_istore_n hm rfl rfl ?_
            refine x_iconst hm rfl (v := nI 0) (by decide) ?_
            refine x_istore_n hm rfl rfl ?_
            refine l220f (mm := m) (ct := ct) (cp := cp) (Mi := M1) (by omega) o3 _ 0 _ _ (Nat.lt_succ_self _) (Nat.zero_le _) hI3 ?_ ?_ ?_ ?_
            · rw [mpo (by decide)]; exact funext fun x => k2 75 x (by omega)
            · rw [mpf (by decide)]; exact (k2 66 17 (by omega)).trans h17
            · rw [mpo (by decide), k2 67 1 (by omega), hL 67 1 (by omega) (by omega), hct]; exact hnt
            · rw [mpo (by decide), k2 67 2 (by omega), hL 67 2 (by omega) (by omega), hcp]; exact hnp
          · refine x_iconst hm rfl (v := -1) (by decide) ?_
            refine x_aload_n hm rfl rfl ?_
            refine x_getf hm rfl (gI rfl rfl) ?_
            refine x_isub hm rfl ?_
            refine x_iret hm rfl rfl (by first | rfl | exact bI_nar | decide) ?_
            exact ⟨_, _, rfl, rfl, hI3⟩
      · have hs3 : M1 66 12 = nI 3 := by first | exact h3 | exact Classical.byContradiction h3
        have hbe : b < e := y7 (by rw [hs3]; decide)
        refine x_aload_n hm rfl rfl ?_
        refine x_getf hm rfl (gR rfl rfl) ?_
        refine x_aload_n hm rfl rfl ?_
        refine x_getf hm rfl (gI rfl rfl) ?_
        rw [y1]
        refine x_iald hm rfl (lI rfl (by omega) (by decide)) ?_
        refine x_bipush hm rfl (v := nI 59) (by decide) ?_
        refine x_icmp_ne hm rfl (t := 84) rfl (fun h5 => ?_) (fun h5 => ?_)
        · refine x_aload_n hm rfl rfl ?_
          refine x_aload_n hm rfl rfl ?_
          refine x_getf hm rfl (gI rfl rfl) ?_
          refine x_if_ne hm rfl (t := 96) rfl (fun h6 => ?_) (fun h6 => ?_)
          · refine x_iconst hm rfl (v := nI 0) (by decide) ?_
            refine x_cVv hm rfl rfl (t226 hT) (fun M3 r3 => ?_)
            obtain ⟨b3, e3, k1, k2, k3, k4⟩ := r3
            have hI3 : Inv (mput M3 66 9 (nI 0)) := taped_inv (Lt.inv (hL.trans k2.lt) hI) (okI4 (k := 0) (by decide))
            refine x_aload_n hm rfl rfl ?_
            refine x_iconst hm rfl (v := nI 0) (by decide) ?_
            refine x_putf hm rfl (pI rfl rfl (by decide) (by first | exact mFit_int | rfl | decide) rfl) ?_
            refine x_aload_n hm rfl rfl ?_
            refine x_getf hm rfl (gI rfl rfl) ?_
            refine x_if_eq hm rfl (t := 119) rfl (fun h9 => ?_) (fun h9 => ?_)
            · rw [mpf (by decide)] at h9
              obtain ⟨o1, o2, o3⟩ := hok (k4 h9).1
              refine x_iconst hm rfl (v := nI 0) (by decide) ?_
              refine x_istore_n hm rfl rfl ?_
              refine x_iconst hm rfl (v := nI 0) (by decide) ?_
              refine x_istore_n hm rfl rfl ?_
              refine l220f (mm := m) (ct := ct) (cp := cp) (Mi := M1) (by omega) o3 _ 0 _ _ (Nat.lt_succ_self _) (Nat.zero_le _) hI3 ?_ ?_ ?_ ?_
              · rw [mpo (by decide)]; exact funext fun x => k2 75 x (by omega)
              · rw [mpf (by decide)]; exact (k2 66 17 (by omega)).trans h17
              · rw [mpo (by decide), k2 67 1 (by omega), hL 67 1 (by omega) (by omega), hct]; exact hnt
              · rw [mpo (by decide), k2 67 2 (by omega), hL 67 2 (by omega) (by omega), hcp]; exact hnp
            · refine x_iconst hm rfl (v := -1) (by decide) ?_
              refine x_aload_n hm rfl rfl ?_
              refine x_getf hm rfl (gI rfl rfl) ?_
              refine x_isub hm rfl ?_
              refine x_iret hm rfl rfl (by first | rfl | exact bI_nar | decide) ?_
              exact ⟨_, _, rfl, rfl, hI3⟩
          · refine x_iconst hm rfl (v := nI 1) (by decide) ?_
            refine x_goto hm rfl (t := 97) rfl ?_
            refine x_cVv hm rfl rfl (t226 hT) (fun M3 r3 => ?_)
            obtain ⟨b3, e3, k1, k2, k3, k4⟩ := r3
            have hI3 : Inv (mput M3 66 9 (nI 0)) := taped_inv (Lt.inv (hL.trans k2.lt) hI) (okI4 (k := 0) (by decide))
            refine x_aload_n hm rfl rfl ?_
            refine x_iconst hm rfl (v := nI 0) (by decide) ?_
            refine x_putf hm rfl (pI rfl rfl (by decide) (by first | exact mFit_int | rfl | decide) rfl) ?_
            refine x_aload_n hm rfl rfl ?_
            refine x_getf hm rfl (gI rfl rfl) ?_
            refine x_if_eq hm rfl (t := 119) rfl (fun h9 => ?_) (fun h9 => ?_)
            · rw [mpf (by decide)] at h9
              obtain ⟨o1, o2, o3⟩ := hok (k4 h9).1
              refine x_iconst hm rfl (v := nI 0) (by decide) ?_
              refine x_istore_n hm rfl rfl ?_
              refine x_iconst hm rfl (v := nI 0) (by decide) ?_
              refine x_istore_n hm rfl rfl ?_
              refine l220f (mm := m) (ct := ct) (cp := cp) (Mi := M1) (by omega) o3 _ 0 _ _ (Nat.lt_succ_self _) (Nat.zero_le _) hI3 ?_ ?_ ?_ ?_
              · rw [mpo (by decide)]; exact funext fun x => k2 75 x (by omega)
              · rw [mpf (by decide)]; exact (k2 66 17 (by omega)).trans h17
              · rw [mpo (by decide), k2 67 1 (by omega), hL 67 1 (by omega) (by omega), hct]; exact hnt
              · rw [mpo (by decide), k2 67 2 (by omega), hL 67 2 (by omega) (by omega), hcp]; exact hnp
            · refine x_iconst hm rfl (v := -1) (by decide) ?_
              refine x_aload_n hm rfl rfl ?_
              refine x_getf hm rfl (gI rfl rfl) ?_
              refine x_isub hm rfl ?_
              refine x_iret hm rfl rfl (by first | rfl | exact bI_nar | decide) ?_
              exact ⟨_, _, rfl, rfl, hI3⟩
        · refine x_aload_n hm rfl rfl ?_
          refine x_iconst hm rfl (v := nI 1) (by decide) ?_
          refine x_cVv hm rfl rfl (v226 hT h14 (by decide)) (fun M7 r7 => ?_)
          first
            | obtain ⟨b1, e1, k1, k2, k3, k4⟩ := r7
            | obtain ⟨b1, e1, k1, k2, k3, k4⟩ := r59
            | obtain ⟨b1, e1, k1, k2, k3, k4⟩ := r58
            | obtain ⟨b1, e1, k1, k2, k3, k4⟩ := r57
            | obtain ⟨b1, e1, k1, k2, k3, k4⟩ := r56
            | obtain ⟨b1, e1, k1, k2, k3, k4⟩ := r55
            | obtain ⟨b1, e1, k1, k2, k3, k4⟩ := r54
            | obtain ⟨b1, e1, k1, k2, k3, k4⟩ := r53
            | obtain ⟨b1, e1, k1, k2, k3, k4⟩ := r52
            | obtain ⟨b1, e1, k1, k2, k3, k4⟩ := r51
            | obtain ⟨b1, e1, k1, k2, k3, k4⟩ := r50
            | obtain ⟨b1, e1, k1, k2, k3, k4⟩ := r49
            | obtain ⟨b1, e1, k1, k2, k3, k4⟩ := r48
            | obtain ⟨b1, e1, k1, k2, k3, k4⟩ := r47
            | obtain ⟨b1, e1, k1, k2, k3, k4⟩ := r46
            | obtain ⟨b1, e1, k1, k2, k3, k4⟩ := r45
            | obtain ⟨b1, e1, k1, k2, k3, k4⟩ := r44
            | obtain ⟨b1, e1, k1, k2, k3, k4⟩ := r43
            | obtain ⟨b1, e1, k1, k2, k3, k4⟩ := r42
            | obtain ⟨b1, e1, k1, k2, k3, k4⟩ := r41
            | obtain ⟨b1, e1, k1, k2, k3, k4⟩ := r40
            | obtain ⟨b1, e1, k1, k2, k3, k4⟩ := r39
            | obtain ⟨b1, e1, k1, k2, k3, k4⟩ := r38
            | obtain ⟨b1, e1, k1, k2, k3, k4⟩ := r37
            | obtain ⟨b1, e1, k1, k2, k3, k4⟩ := r36
            | obtain ⟨b1, e1, k1, k2, k3, k4⟩ := r35
            | obtain ⟨b1, e1, k1, k2, k3, k4⟩ := r34
            | obtain ⟨b1, e1, k1, k2, k3, k4⟩ := r33
            | obtain ⟨b1, e1, k1, k2, k3, k4⟩ := r32
            | obtain ⟨b1, e1, k1, k2, k3, k4⟩ := r31
            | obtain ⟨b1, e1, k1, k2, k3, k4⟩ := r30
            | obtain ⟨b1, e1, k1, k2, k3, k4⟩ := r29
            | obtain ⟨b1, e1, k1, k2, k3, k4⟩ := r28
            | obtain ⟨b1, e1, k1, k2, k3, k4⟩ := r27
            | obtain ⟨b1, e1, k1, k2, k3, k4⟩ := r26
            | obtain ⟨b1, e1, k1, k2, k3, k4⟩ := r25
            | obtain ⟨b1, e1, k1, k2, k3, k4⟩ := r24
            | obtain ⟨b1, e1, k1, k2, k3, k4⟩ := r23
            | obtain ⟨b1, e1, k1, k2, k3, k4⟩ := r22
            | obtain ⟨b1, e1, k1, k2, k3, k4⟩ := r21
            | obtain ⟨b1, e1, k1, k2, k3, k4⟩ := r20
            | obtain ⟨b1, e1, k1, k2, k3, k4⟩ := r19
            | obtain ⟨b1, e1, k1, k2, k3, k4⟩ := r18
            | obtain ⟨b1, e1, k1, k2, k3, k4⟩ := r17
            | obtain ⟨b1, e1, k1, k2, k3, k4⟩ := r16
            | obtain ⟨b1, e1, k1, k2, k3, k4⟩ := r15
            | obtain ⟨b1, e1, k1, k2, k3, k4⟩ := r14
            | obtain ⟨b1, e1, k1, k2, k3, k4⟩ := r13
            | obtain ⟨b1, e1, k1, k2, k3, k4⟩ := r12
            | obtain ⟨b1, e1, k1, k2, k3, k4⟩ := r11
            | obtain ⟨b1, e1, k1, k2, k3, k4⟩ := r10
            | obtain ⟨b1, e1, k1, k2, k3, k4⟩ := r9
            | obtain ⟨b1, e1, k1, k2, k3, k4⟩ := r8
            | obtain ⟨b1, e1, k1, k2, k3, k4⟩ := r6
            | obtain ⟨b1, e1, k1, k2, k3, k4⟩ := r5
            | obtain ⟨b1, e1, k1, k2, k3, k4⟩ := r4
            | obtain ⟨b1, e1, k1, k2, k3, k4⟩ := r3
            | obtain ⟨b1, e1, k1, k2, k3, k4⟩ := r2
            | obtain ⟨b1, e1, k1, k2, k3, k4⟩ := r1
          have g17 := (k2 66 17 (by omega)).trans h17
          have g18 := (k2 66 18 (by omega)).trans h18
          have g19 := (k2 66 19 (by omega)).trans h19
          obtain ⟨M3, hc3, hz⟩ := t223 (X := X) k1 g17 g18 g19 (by omega) o4.1 o4.2
          refine x_aload_n hm rfl rfl ?_
          refine x_callV hm rfl rfl hc3 ?_
          refine x_goto hm rfl (t := 43) rfl ?_
          obtain ⟨ct2, cp2, b2, e2, z1, z2, z3, z4⟩ := St.more (hL.trans k2.lt) hz (by omega) (fun k hk => (o3 k hk).of fun x hx => k2 75 (7 * k + x) (by omega))
          exact ih _ _ _ _ _ _ _ _ (by omega) (z1.trans hct) (z2.trans hcp) z4
theorem t220 (hI : Inv M) : ∃ v M', mT X 220 [.ref 66] (con M) (some (.int v)) (con M') ∧ Inv M' := by
  refine ti_of (row := _) rfl (Nat.le_of_ble_eq_true rfl) ?_
  have hm : mMet 220 = some _ := rfl
  obtain ⟨nt, hn8, hnt⟩ := hI.1.nt
  obtain ⟨np, hp8, hnp⟩ := hI.1.np
  obtain ⟨c, hc1, hc9⟩ := ok4 (show okx 4 (M 66 9) from hI.1 66 9)
  refine x_aload_n hm rfl rfl ?_
  refine x_iconst hm rfl (v := nI 0) (by decide) ?_
  refine x_putf hm rfl (pI rfl rfl (by decide) (by first | exact mFit_int | rfl | decide) rfl) ?_
  refine x_aload_n hm rfl rfl ?_
  refine x_iconst hm rfl (v := nI 0) (by decide) ?_
  refine x_putf hm rfl (pI rfl rfl (by decide) (by first | exact mFit_int | rfl | decide) rfl) ?_
  refine x_aload_n hm rfl rfl ?_
  refine x_iconst hm rfl (v := nI 0) (by decide) ?_
  refine x_putf hm rfl (pI rfl rfl (by decide) (by first | exact mFit_int | rfl | decide) rfl) ?_
  refine x_aload_n hm rfl rfl ?_
  refine x_aload_n hm rfl rfl ?_
  refine x_getf hm rfl (gR rfl rfl) ?_
  refine x_iconst hm rfl (v := nI 1) (by decide) ?_
  refine x_iald hm rfl (lI rfl (by omega) (by decide)) ?_
  refine x_putf hm rfl (pI rfl rfl (by decide) (by first | exact mFit_int | rfl | decide) rfl) ?_
  refine x_aload_n hm rfl rfl ?_
  refine x_aload_n hm rfl rfl ?_
  refine x_getf hm rfl (gR rfl rfl) ?_
  refine x_iconst hm rfl (v := nI 2) (by decide) ?_
  refine x_iald hm rfl (lI rfl (by omega) (by decide)) ?_
  refine x_putf hm rfl (pI rfl rfl (by decide) (by first | exact mFit_int | rfl | decide) rfl) ?_
  generalize hM0 : mput (mput (mput (mput (mput M 66 11 (nI 0)) 66 14 (nI 0)) 66 17 (nI 0)) 66 18 _) 66 19 _ = M0
  have hL0 : Lt M M0 := by
    rw [← hM0]
    exact ((((Lt.put (by decide)).trans (Lt.put (by decide))).trans (Lt.put (by decide))).trans (Lt.put (by decide))).trans (Lt.put (by decide))
  have q17 : M0 66 17 = nI 0 := by rw [← hM0, mpf (by decide), mpf (by decide)]; exact mp0
  have q18 : M0 66 18 = nI nt := by rw [← hM0, mpf (by decide), mp0]; exact hnt
  have q19 : M0 66 19 = nI np := by rw [← hM0, mp0]; exact hnp
  have q11 : M0 66 11 = nI 0 := by rw [← hM0, mpf (by decide), mpf (by decide), mpf (by decide), mpf (by decide)]; exact mp0
  have q9 : M0 66 9 = nI c := by rw [hL0 66 9 (by omega) (by omega)]; exact hc9
  obtain ⟨M2, hc2, b1, e1, g1, g2, g3, g4, g5, g6, g7⟩ := t221 (X := X) q9 hc1 q11 (Nat.zero_le _)
  refine x_aload_n hm rfl rfl ?_
  refine x_callV hm rfl rfl hc2 ?_
  refine x_aload_n hm rfl rfl ?_
  have hT : Tx b1 e1 c M2 := ⟨g1, g2, (g7 66 9 (by omega)).trans q9, g4, g5, hc1, g6⟩
  obtain ⟨M3, hc3, hz⟩ := t223 (X := X) (m := 0) (tn := nt) (pn := np) hT ((g7 66 17 (by omega)).trans q17) ((g7 66 18 (by omega)).trans q18) ((g7 66 19 (by omega)).trans q19) (by omega) hn8 hp8
  refine x_callV hm rfl rfl hc3 ?_
  obtain ⟨ct2, cp2, b2, e2, z1, z2, z3, z4⟩ := St.more (ct := fun _ => nt) (cp := fun _ => np) (hL0.trans g7.ly.lt) hz (by omega) (fun k hk => absurd hk (Nat.not_lt_zero _))
  exact l220 hI hnt hnp hn8 hp8 _ _ _ _ _ _ _ _ _ (Nat.lt_succ_self _) z1 z2 z4
end RS
end
