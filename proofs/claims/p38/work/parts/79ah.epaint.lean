section EP
variable {X : mSc} {Q : Option Value → mHp → Prop} {M : mM}
theorem m212 {s t z : Nat} {nt np : Nat} (hW : Wf M) (hnt : M 67 1 = nI nt) (hn8 : nt ≤ 8) (hnp : M 67 2 = nI np) (hp8 : np ≤ 8) (h6 : M 66 6 = -1) (hs : s ≤ 3) (ht : t < 8) (hz : M 77 s = nI z) (hz40 : z ≤ 40) : ∀ (n k : Nat) (b : Int32) (x5 : Option Value) (M1 : mM), 41 - k < n → k ≤ z → ((b = nI 1 ∧ sFt (fun j => M 78 (40 * s + j)) (-1) nt np t z 0 (M 67) = sFt (fun j => M 78 (40 * s + j)) (-1) nt np t (z - k) k (sDays (-1) nt np k (M 67))) ∨ (b = nI 0 ∧ sFt (fun j => M 78 (40 * s + j)) (-1) nt np t z 0 (M 67) = false)) → Dy (cp M 67 69 118) M1 → Dd (sDays (-1) nt np k (M 67)) (cp M 67 69 118) M1 → mEv X (QI (fun v M' => v = bI (sFt (fun j => M 78 (40 * s + j)) (-1) nt np t z 0 (M 67) = true) ∧ Kr M M')) 212 16 [some (.ref 66), some (.int (nI s)), some (.int (nI t)), some (.int b), some (.int (nI k)), x5] [] (con M1) := by
  have hm : mMet 212 = some _ := rfl
  intro n
  induction n with
  | zero =>
    intro k b x5 M1 hkn hkb hb hD hd
    omega
  | succ n ih =>
    intro k b x5 M1 hkn hkb hb hD hd
    have e77 : M1 77 s = nI z := by rw [hd.2 77 (by decide) (by decide), cp_o (by decide)]; exact hz
    have e78 : ∀ j, M1 78 j = M 78 j := fun j => by rw [hd.2 78 (by decide) (by decide), cp_o (by decide)]
    have hthk : M1 67 (14 + 6 * t + 2) = sDays (-1) nt np k (M 67) (14 + 6 * t + 2) := congrFun hd.1 _
    have hB := Kr.back hD hd (fun j hj => sDays_118 hn8 hp8 hj _)
    refine x_iload hm rfl rfl ?_
    refine x_aload_n hm rfl rfl ?_
    refine x_getf hm rfl (gR rfl rfl) ?_
    refine x_iload_n hm rfl rfl ?_
    refine x_iald hm rfl (lI rfl (by omega) (by decide)) ?_
    rw [e77]
    refine x_icmp_ge hm rfl (t := 78) rfl (fun h1 => ?_) (fun h1 => ?_)
    · obtain rfl : z = k := Nat.le_antisymm ((jI_le (by omega) (by omega)).mp h1) hkb
      have hv : b = bI (sFt (fun j => M 78 (40 * s + j)) (-1) nt np t z 0 (M 67) = true) := by
        rcases hb with ⟨g1, g2⟩ | ⟨g1, g2⟩
        · rw [g2, Nat.sub_self, g1]; exact (bI_t (c := (true : Bool) = true) rfl).symm
        · rw [g2, g1]; exact (bI_f Bool.false_ne_true).symm
      refine x_aload_n hm rfl rfl ?_
      refine x_getf hm rfl (gR rfl rfl) ?_
      refine x_aload_n hm rfl rfl ?_
      refine x_getf hm rfl (gR rfl rfl) ?_
      refine x_callS hm rfl rfl (t174 rfl rfl (by decide)) ?_
      refine x_iload_n hm rfl rfl ?_
      refine x_iret hm rfl rfl (nar01 (hb.symm.imp (fun q => q.1) (fun q => q.1))) ?_
      exact ⟨_, _, rfl, rfl, hv, hB⟩ --stop
    · have hk : k < z := Nat.lt_of_not_le fun h => h1 (nI_le h (by omega))
      refine x_iload_n hm rfl rfl ?_
      refine x_if_eq hm rfl (t := 78) rfl (fun h2 => ?_) (fun h2 => ?_)
      · have hv : b = bI (sFt (fun j => M 78 (40 * s + j)) (-1) nt np t z 0 (M 67) = true) := by
          rcases hb with ⟨g1, g2⟩ | ⟨g1, g2⟩
          · exact absurd (g1.symm.trans h2) (by decide)
          · rw [g2, g1]; exact (bI_f Bool.false_ne_true).symm
        refine x_aload_n hm rfl rfl ?_
        refine x_getf hm rfl (gR rfl rfl) ?_
        refine x_aload_n hm rfl rfl ?_
        refine x_getf hm rfl (gR rfl rfl) ?_
        refine x_callS hm rfl rfl (t174 rfl rfl (by decide)) ?_
        refine x_iload_n hm rfl rfl ?_
        refine x_iret hm rfl rfl (nar01 (hb.symm.imp (fun q => q.1) (fun q => q.1))) ?_
        exact ⟨_, _, rfl, rfl, hv, hB⟩ --stop
      · have hb1 : sFt (fun j => M 78 (40 * s + j)) (-1) nt np t z 0 (M 67) = sFt (fun j => M 78 (40 * s + j)) (-1) nt np t (z - (k + 1) + 1) k (sDays (-1) nt np k (M 67)) := by
          rcases hb with ⟨g1, g2⟩ | ⟨g1, g2⟩
          · rw [g2, show z - k = z - (k + 1) + 1 by omega]
          · exact absurd g1 h2
        refine x_aload_n hm rfl rfl ?_
        refine x_getf hm rfl (gR rfl rfl) ?_
        refine x_bipush hm rfl (v := nI 40) (by decide) ?_
        refine x_iload_n hm rfl rfl ?_
        refine x_imul hm rfl ?_
        rw [jI_mul]
        refine x_iload hm rfl rfl ?_
        refine x_iadd hm rfl ?_
        rw [jI_add]
        refine x_iald hm rfl (lI rfl (by omega) (by decide)) ?_
        rw [e78]
        refine x_istore hm rfl rfl ?_
        refine x_iload hm rfl rfl ?_
        refine x_iconst hm rfl (v := (-1 : Int32)) (by decide) ?_
        refine x_icmp_eq hm rfl (t := 62) rfl (fun h3 => ?_) (fun h3 => ?_)
        · have hc : M 78 (40 * s + k) = -1 ∨ M 78 (40 * s + k) = sDays (-1) nt np k (M 67) (14 + 6 * t + 2) := Or.inl h3
          have hb2 := hb1.trans (if_pos hc)
          refine x_iconst hm rfl (v := nI 1) (by decide) ?_
          refine x_goto hm rfl (t := 67) rfl ?_
          refine x_istore_n hm rfl rfl ?_
          refine x_aload_n hm rfl rfl ?_
          refine x_cVv hm rfl rfl (e165 (hD.1.1 hW.aside) (hD.1.2.1.trans ((congrFun (cp_o (by decide)) 1).trans hnt)) hn8 (hD.1.2.2.1.trans ((congrFun (cp_o (by decide)) 2).trans hnp)) hp8) (fun M4 r4 => ?_)
          have hs9 := hd.to r4.2
          rw [hd.1, hd.2 66 (by decide) (by decide), cp_o (by decide), h6] at hs9
          refine x_iinc hm rfl rfl (v := nI 1) (by decide) rfl ?_
          rw [jI_add]
          refine x_goto hm rfl (t := 16) rfl ?_
          exact ih (k + 1) _ _ _ (by omega) (by omega) (by first | exact Or.inl ⟨rfl, hb2⟩ | exact Or.inr ⟨rfl, hb2⟩) (hD.trans r4.1) hs9
        · have hne := h3
          refine x_iload hm rfl rfl ?_
          refine x_aload_n hm rfl rfl ?_
          refine x_iload_n hm rfl rfl ?_
          refine x_iconst hm rfl (v := nI 2) (by decide) ?_
          refine x_callV hm rfl rfl (t143 (by omega) (by omega)) ?_
          rw [hthk]
          refine x_icmp_ne hm rfl (t := 66) rfl (fun h5 => ?_) (fun h5 => ?_)
          · have hc : ¬ (M 78 (40 * s + k) = -1 ∨ M 78 (40 * s + k) = sDays (-1) nt np k (M 67) (14 + 6 * t + 2)) := fun q => q.elim hne h5
            have hb2 := hb1.trans (if_neg hc)
            refine x_iconst hm rfl (v := nI 0) (by decide) ?_
            refine x_istore_n hm rfl rfl ?_
            refine x_aload_n hm rfl rfl ?_
            refine x_cVv hm rfl rfl (e165 (hD.1.1 hW.aside) (hD.1.2.1.trans ((congrFun (cp_o (by decide)) 1).trans hnt)) hn8 (hD.1.2.2.1.trans ((congrFun (cp_o (by decide)) 2).trans hnp)) hp8) (fun M6 r6 => ?_)
            have hs9 := hd.to r6.2
            rw [hd.1, hd.2 66 (by decide) (by decide), cp_o (by decide), h6] at hs9
            refine x_iinc hm rfl rfl (v := nI 1) (by decide) rfl ?_
            rw [jI_add]
            refine x_goto hm rfl (t := 16) rfl ?_
            exact ih (k + 1) _ _ _ (by omega) (by omega) (by first | exact Or.inl ⟨rfl, hb2⟩ | exact Or.inr ⟨rfl, hb2⟩) (hD.trans r6.1) hs9
          · have hc : M 78 (40 * s + k) = -1 ∨ M 78 (40 * s + k) = sDays (-1) nt np k (M 67) (14 + 6 * t + 2) := Or.inr h5
            have hb2 := hb1.trans (if_pos hc)
            refine x_iconst hm rfl (v := nI 1) (by decide) ?_
            refine x_goto hm rfl (t := 67) rfl ?_
            refine x_istore_n hm rfl rfl ?_
            refine x_aload_n hm rfl rfl ?_
            refine x_cVv hm rfl rfl (e165 (hD.1.1 hW.aside) (hD.1.2.1.trans ((congrFun (cp_o (by decide)) 1).trans hnt)) hn8 (hD.1.2.2.1.trans ((congrFun (cp_o (by decide)) 2).trans hnp)) hp8) (fun M7 r7 => ?_)
            have hs9 := hd.to r7.2
            rw [hd.1, hd.2 66 (by decide) (by decide), cp_o (by decide), h6] at hs9
            refine x_iinc hm rfl rfl (v := nI 1) (by decide) rfl ?_
            rw [jI_add]
            refine x_goto hm rfl (t := 16) rfl ?_
            exact ih (k + 1) _ _ _ (by omega) (by omega) (by first | exact Or.inl ⟨rfl, hb2⟩ | exact Or.inr ⟨rfl, hb2⟩) (hD.trans r7.1) hs9
end EP
