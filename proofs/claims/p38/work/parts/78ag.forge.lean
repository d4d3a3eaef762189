section FO
variable {X : mSc} {Q : Option Value → mHp → Prop} {M : mM}
theorem m20b {b nt np t : Nat} {r : Nat → Int32} (hb : b = 1 ∨ b = 18 ∨ b = 35) (hR : Rel b nt np M r) (hV : Vs nt np r) (ht : t < nt) {i : Nat} (hi : i < 8) (hout : ∀ (s : Nat) (g : Int32) (x5 x6 : Option Value), Fs r nt t s → ((g = nI 1 ∧ i + 2 ≤ c8 s) ∨ (g = nI 0 ∧ Fcl r nt nt s)) → mEv X (fun z D => z = some (.int (nI (wS (Rch r t) nt))) ∧ D = con M) 20 9 [some (.ref b), some (.int (nI t)), some (.int (nI s)), some (.int g), some (.int (nI (i + 1))), x5, x6] [] (con M)) : ∀ (n k : Nat) (s : Nat) (g : Int32) (x6 : Option Value), nt - k < n → k ≤ nt → Fs r nt t s → ((g = nI 1 ∧ i + 2 ≤ c8 s) ∨ (g = nI 0 ∧ i + 1 ≤ c8 s ∧ Fcl r nt k s)) → mEv X (fun z D => z = some (.int (nI (wS (Rch r t) nt))) ∧ D = con M) 20 25 [some (.ref b), some (.int (nI t)), some (.int (nI s)), some (.int g), some (.int (nI i)), some (.int (nI k)), x6] [] (con M) := by
  have hm : mMet 20 = some _ := rfl
  intro n
  induction n with
  | zero =>
    intro k s g x6 hkn hkb hF hS
    omega
  | succ n ih =>
    intro k s g x6 hkn hkb hF hS
    have hn8 := hV.1
    have hs8 := hF.1
    refine x_iload hm rfl rfl ?_
    refine x_aload_n hm rfl rfl ?_
    refine x_getf hm rfl (gI (tO hb) rfl) ?_
    rw [hR.1]
    refine x_icmp_ge hm rfl (t := 84) rfl (fun h1 => ?_) (fun h1 => ?_)
    · obtain rfl : k = nt := Nat.le_antisymm hkb ((jI_le (by omega) (by omega)).mp h1)
      refine x_iinc hm rfl rfl (v := nI 1) (by decide) rfl ?_
      rw [jI_add]
      refine x_goto hm rfl (t := 9) rfl ?_
      exact hout _ _ _ _ hF (hS.imp id fun q => ⟨q.1, q.2.2⟩)
    · have hk : k < nt := Nat.lt_of_not_le fun h => h1 (nI_le h (by omega))
      refine x_aload_n hm rfl rfl ?_
      refine x_getf hm rfl (gR (tO hb) rfl) ?_
      refine x_iconst hm rfl (v := nI 5) (by decide) ?_
      refine x_aald hm rfl (by first | exact lQ 3 (Or.inr (Or.inl rfl)) (tI hb) rfl (by omega) (by decide) | exact lQ 3 (Or.inr (Or.inl rfl)) (tF hb) rfl (by omega) (by decide) | exact lQ 3 (Or.inr (Or.inl rfl)) (tI hb) (tIk (by omega)) (by omega) (by decide) | exact lQ 3 (Or.inr (Or.inl rfl)) (tF hb) (tFk (by omega)) (by omega) (by decide)) ?_
      refine x_iload hm rfl rfl ?_
      refine x_iald hm rfl (by first | exact lI (tRow hb (by omega)) (by omega) (by decide) | exact lI (tRowI hb (by omega)) (by omega) (by decide) | exact lI (tRowF hb (by omega)) (by omega) (by decide) | exact lI (tSp hb) (by omega) (by decide) | exact lI rfl (by omega) (by decide)) ?_
      rw [hR.on hk]
      refine x_istore hm rfl rfl ?_
      refine x_iload hm rfl rfl ?_
      refine x_iconst hm rfl (v := (-1 : Int32)) (by decide) ?_
      refine x_icmp_eq hm rfl (t := 78) rfl (fun h2 => ?_) (fun h2 => ?_)
      · have hw0 := h2
        have hcl : ∀ w1, w1 < nt → ¬ (r (14 + 6 * k + 5) = nI w1 ∧ s.testBit w1 = true) ∨ s.testBit k = true := fun w1 hw1 => Or.inl fun z => absurd (hw0.symm.trans z.1) (fun q => absurd (Int32.not_lt.mp (jI_nn (show w1 < 2147483648 by omega))) (by rw [← q]; decide))
        refine x_iinc hm rfl rfl (v := nI 1) (by decide) rfl ?_
        rw [jI_add]
        refine x_goto hm rfl (t := 25) rfl ?_
        first
          | exact ih _ _ _ _ (by omega) (by omega) hF (hS.imp id fun q => ⟨q.1, q.2.1, q.2.2.none hcl⟩)
          | exact ih _ _ _ _ (by omega) (by omega) hF2 (Or.inl ⟨rfl, by rw [hc2]; rcases hS with q | q <;> omega⟩)
      · obtain ⟨w, hw, ew⟩ := (hV.on hk).resolve_left h2
        rw [ew]
        refine x_iload_n hm rfl rfl ?_
        refine x_iload hm rfl rfl ?_
        refine x_callS hm rfl rfl (g21 hs8 (by omega)) ?_
        refine x_if_eq hm rfl (t := 78) rfl (fun h3 => ?_) (fun h3 => ?_)
        · have hcl : ∀ w1, w1 < nt → ¬ (r (14 + 6 * k + 5) = nI w1 ∧ s.testBit w1 = true) ∨ s.testBit k = true := fun w1 hw1 => Or.inl fun z => bI_eq0.mp h3 (by rw [jI_inj (by omega) (by omega) (ew.symm.trans z.1)]; exact z.2)
          refine x_iinc hm rfl rfl (v := nI 1) (by decide) rfl ?_
          rw [jI_add]
          refine x_goto hm rfl (t := 25) rfl ?_
          first
            | exact ih _ _ _ _ (by omega) (by omega) hF (hS.imp id fun q => ⟨q.1, q.2.1, q.2.2.none hcl⟩)
            | exact ih _ _ _ _ (by omega) (by omega) hF2 (Or.inl ⟨rfl, by rw [hc2]; rcases hS with q | q <;> omega⟩)
        · have hin := bI_ne0 h3
          refine x_iload_n hm rfl rfl ?_
          refine x_iload hm rfl rfl ?_
          refine x_callS hm rfl rfl (g21 hs8 (by omega)) ?_
          refine x_if_ne hm rfl (t := 78) rfl (fun h4 => ?_) (fun h4 => ?_)
          · have hcl : ∀ w1, w1 < nt → ¬ (r (14 + 6 * k + 5) = nI w1 ∧ s.testBit w1 = true) ∨ s.testBit k = true := fun w1 hw1 => Or.inr (bI_ne0 h4)
            refine x_iinc hm rfl rfl (v := nI 1) (by decide) rfl ?_
            rw [jI_add]
            refine x_goto hm rfl (t := 25) rfl ?_
            first
              | exact ih _ _ _ _ (by omega) (by omega) hF (hS.imp id fun q => ⟨q.1, q.2.1, q.2.2.none hcl⟩)
              | exact ih _ _ _ _ (by omega) (by omega) hF2 (Or.inl ⟨rfl, by rw [hc2]; rcases hS with q | q <;> omega⟩)
          · have hnk : s.testBit k = false := by
              rcases e : s.testBit k with _ | _
              · rfl
              · exact absurd e (bI_eq0.mp h4)
            have hF2 := hF.add hn8 hk hw ew hin
            have hc2 := c8_or s hs8 k (by omega) hnk
            refine x_iload_n hm rfl rfl ?_
            refine x_iconst hm rfl (v := nI 1) (by decide) ?_
            refine x_iload hm rfl rfl ?_
            refine x_ishl hm rfl ?_
            refine x_ior hm rfl ?_
            rw [bitO s hs8 k (by omega)]
            refine x_istore_n hm rfl rfl ?_
            refine x_iconst hm rfl (v := nI 1) (by decide) ?_
            refine x_istore_n hm rfl rfl ?_
            refine x_iinc hm rfl rfl (v := nI 1) (by decide) rfl ?_
            rw [jI_add]
            refine x_goto hm rfl (t := 25) rfl ?_
            first
              | exact ih _ _ _ _ (by omega) (by omega) hF (hS.imp id fun q => ⟨q.1, q.2.1, q.2.2.none hcl⟩)
              | exact ih _ _ _ _ (by omega) (by omega) hF2 (Or.inl ⟨rfl, by rw [hc2]; rcases hS with q | q <;> omega⟩)
end FO
