section EH
variable {X : mSc} {Q : Option Value → mHp → Prop} {M : mM}
theorem m192 {t a : Nat} {nt np : Nat} (hW : Wf M) (hnt : M 67 1 = nI nt) (hn8 : nt ≤ 8) (hnp : M 67 2 = nI np) (hp8 : np ≤ 8) (h6 : M 66 6 = -1) (ht8 : t < 8) (ha : a ≤ 1000) : ∀ (n j : Nat) (b : Int32) (M1 : mM), j < n → j ≤ 10 → Ky (14 + 6 * t + 3) M M1 → b = fo (sNd (M 67) (-1) nt np a t) (10 - j) (-1) → mEv X (QI (fun v M' => v = (orN (fo (sNd (M 67) (-1) nt np a t) 10 (-1))).1 ∧ Kq M M' ∧ Fq (orN (fo (sNd (M 67) (-1) nt np a t) 10 (-1))) M M')) 192 39 [some (.ref 66), some (.int (nI t)), some (.int (nI a)), some (.int (M 67 (14 + 6 * t + 3))), some (.int b), some (.int (nI j + (-1)))] [] (con M1) := by
  have hm : mMet 192 = some _ := rfl
  intro n
  induction n with
  | zero =>
    intro j b M1 hjn hj10 hS hz
    omega
  | succ n ih =>
    intro j b M1 hjn hj10 hS hz
    refine x_iload hm rfl rfl ?_
    refine x_if_lt hm rfl (t := 80) rfl (fun h1 => ?_) (fun h1 => ?_)
    · obtain rfl : j = 0 := by
        cases j with
        | zero => rfl
        | succ i => rw [dec1] at h1; exact absurd h1 (jI_nn (by omega))
      refine x_aload_n hm rfl rfl ?_
      refine x_getf hm rfl (gR rfl rfl) ?_
      refine x_iload_n hm rfl rfl ?_
      refine x_iconst hm rfl (v := nI 3) (by decide) ?_
      refine x_callS hm rfl rfl (t137) ?_
      refine x_iload_n hm rfl rfl ?_
      refine x_iast hm rfl (sI rfl (by omega) (by decide)) ?_
      have hF := hS.fin (Sf.thing (M := M1) ht8 (by decide : 3 < 5) (by decide) (by decide))
      refine x_aload_n hm rfl rfl ?_
      refine x_iload hm rfl rfl ?_
      refine x_cVi hm rfl rfl (e177) (fun v2 M2 r2 => ?_)
      refine x_iret hm rfl rfl (by first | rfl | exact bI_nar | decide) ?_
      obtain ⟨g1, g2, g3⟩ := orn_fin (M := M) (q := orN (fo (sNd (M 67) (-1) nt np a t) 10 (-1))) (congrArg orN hz.symm) hF.kq (hF.2 70 (by decide) (by decide)) r2
      exact ⟨_, _, rfl, rfl, g1, g2, g3⟩
    · obtain ⟨i, rfl⟩ : ∃ i, j = i + 1 := by
        cases j with
        | zero => exact absurd (by decide) h1
        | succ i => exact ⟨i, rfl⟩
      rw [dec1]
      refine x_aload_n hm rfl rfl ?_
      refine x_getf hm rfl (gR rfl rfl) ?_
      refine x_iload_n hm rfl rfl ?_
      refine x_iconst hm rfl (v := nI 3) (by decide) ?_
      refine x_callS hm rfl rfl (t137) ?_
      refine x_iload hm rfl rfl ?_
      refine x_iast hm rfl (sI rfl (by omega) (by decide)) ?_
      obtain ⟨hS2, hrow⟩ := hS.put (v := nI i) (Sf.thing (M := M1) (v := nI i) ht8 (by decide : 3 < 5) (by decide) (by decide))
      have h66 : mput M1 67 (14 + 6 * t + 3) (nI i) 66 6 = -1 := by rw [hS2.2.2 66 (by decide) (by decide) (by decide)]; exact h6
      refine x_aload_n hm rfl rfl ?_
      refine x_iload_n hm rfl rfl ?_
      refine x_iload_n hm rfl rfl ?_
      refine x_cVi hm rfl rfl (e173 (hS2.1.1 hW) (hS2.1.2.1.trans hnt) hn8 (hS2.1.2.2.1.trans hnp) hp8 ht8 ha) (fun v3 M3 r3 => ?_)
      have hv := r3.1
      rw [hrow, h66] at hv
      subst hv
      refine x_if_le hm rfl (t := 70) rfl (fun h4 => ?_) (fun h4 => ?_)
      · have hng := Int32.not_lt.mpr h4
        refine x_iload hm rfl rfl ?_
        refine x_istore hm rfl rfl ?_
        refine x_iinc hm rfl rfl (v := (-1 : Int32)) (by decide) rfl ?_
        refine x_goto hm rfl (t := 39) rfl ?_
        have e9 : 10 - i = (10 - (i + 1)) + 1 := by omega
        have e8 : 9 - (10 - (i + 1)) = i := by omega
        first
          | exact ih i _ _ (by omega) (by omega) (hS2.kr r3.2) (by rw [e9]; show _ = sNd (M 67) (-1) nt np a t _ _; unfold sNd; rw [e8, if_pos hps])
          | exact ih i _ _ (by omega) (by omega) (hS2.kr r3.2) (by rw [e9]; show _ = sNd (M 67) (-1) nt np a t _ _; unfold sNd; rw [e8, if_neg hng]; exact hz)
      · have hps := Int32.not_le.mp h4
        refine x_iload hm rfl rfl ?_
        refine x_goto hm rfl (t := 72) rfl ?_
        refine x_istore hm rfl rfl ?_
        refine x_iinc hm rfl rfl (v := (-1 : Int32)) (by decide) rfl ?_
        refine x_goto hm rfl (t := 39) rfl ?_
        have e9 : 10 - i = (10 - (i + 1)) + 1 := by omega
        have e8 : 9 - (10 - (i + 1)) = i := by omega
        first
          | exact ih i _ _ (by omega) (by omega) (hS2.kr r3.2) (by rw [e9]; show _ = sNd (M 67) (-1) nt np a t _ _; unfold sNd; rw [e8, if_pos hps])
          | exact ih i _ _ (by omega) (by omega) (hS2.kr r3.2) (by rw [e9]; show _ = sNd (M 67) (-1) nt np a t _ _; unfold sNd; rw [e8, if_neg hng]; exact hz)
end EH
