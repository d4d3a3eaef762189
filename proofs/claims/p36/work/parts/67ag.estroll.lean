section ET
variable {X : mSc} {Q : Option Value → mHp → Prop} {M : mM} {b nt np : Nat} {r : Nat → Int32}
theorem m214b {a j : Nat} {c : Int32} (hW : Wf M) (hnt : M 67 1 = nI nt) (hn8 : nt ≤ 8) (hnp : M 67 2 = nI np) (hp8 : np ≤ 8) (h6 : M 66 6 = -1) (hout : ∀ (M1 : mM) (x : Option Value), Dy M M1 → Dd (sStr nt np (j + 1) (M 67)) M M1 → mEv X (QI (fun v M' => v = c - sThick (sStr nt np a (M 67)) nt ∧ Dd (sStr nt np a (M 67)) M M')) 214 44 [some (.ref 66), some (.int (nI a)), some (.int c), some (.int (nI (j + 1))), x] [] (con M1)) : ∀ (n k : Nat) (M1 : mM), np - k < n → k ≤ np → Dy M M1 → Dd (fo sSc1 k (sStr nt np j (M 67))) M M1 → mEv X (QI (fun v M' => v = c - sThick (sStr nt np a (M 67)) nt ∧ Dd (sStr nt np a (M 67)) M M')) 214 52 [some (.ref 66), some (.int (nI a)), some (.int c), some (.int (nI j)), some (.int (nI k))] [] (con M1) := by
  have hm : mMet 214 = some _ := rfl
  intro n
  induction n with
  | zero =>
    intro k M1 hkn hkb hD hd
    omega
  | succ n ih =>
    intro k M1 hkn hkb hD hd
    have hn1 : M1 67 2 = nI np := hD.1.2.2.1.trans hnp
    refine x_iload hm rfl rfl ?_
    refine x_aload_n hm rfl rfl ?_
    refine x_getf hm rfl (gR rfl rfl) ?_
    refine x_iconst hm rfl (v := nI 2) (by decide) ?_
    refine x_iald hm rfl (lI rfl (by omega) (by decide)) ?_
    rw [hn1]
    refine x_icmp_ge hm rfl (t := 87) rfl (fun h1 => ?_) (fun h1 => ?_)
    · have hkn2 : k = np := Nat.le_antisymm hkb ((jI_le (by omega) (by omega)).mp h1)
      rw [hkn2] at hd
      refine x_aload_n hm rfl rfl ?_
      refine x_cVv hm rfl rfl (e165 (hD.1.1 hW) (hD.1.2.1.trans hnt) hn8 (hD.1.2.2.1.trans hnp) hp8) (fun M2 r2 => ?_)
      refine x_iinc hm rfl rfl (v := nI 1) (by decide) rfl ?_
      rw [jI_add]
      refine x_goto hm rfl (t := 44) rfl ?_
      have hs := hd.to r2.2
      rw [hd.1, hd.2 66 (by decide) (by decide), h6] at hs
      exact hout _ _ (hD.trans r2.1) hs
    · have hk : k < np := Nat.lt_of_not_le fun h => h1 (nI_le h (by omega))
      refine x_aload_n hm rfl rfl ?_
      refine x_getf hm rfl (gR rfl rfl) ?_
      refine x_iload hm rfl rfl ?_
      refine x_iconst hm rfl (v := nI 1) (by decide) ?_
      refine x_callS hm rfl rfl (t142) ?_
      refine x_aload_n hm rfl rfl ?_
      refine x_callV hm rfl rfl (g215) ?_
      refine x_bipush hm rfl (v := nI 16) (by decide) ?_
      refine x_irem hm rfl (by decide) ?_
      refine x_iast hm rfl (sI rfl (by omega) (by decide)) ?_
      refine x_iinc hm rfl rfl (v := nI 1) (by decide) rfl ?_
      rw [jI_add]
      refine x_goto hm rfl (t := 52) rfl ?_
      exact ih (k + 1) _ (by omega) (by omega) ((hD.trans (Dy.put Sf.draw (by decide))).trans (Dy.put (Sf.person (by omega) (by decide)) (by decide))) (by rw [hd.1]; exact hd.p67.p67)
end ET
