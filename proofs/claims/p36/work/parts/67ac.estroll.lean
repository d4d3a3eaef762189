section ET
variable {X : mSc} {Q : Option Value → mHp → Prop} {M : mM} {b nt np : Nat} {r : Nat → Int32}
theorem m83 (hb : b = 1 ∨ b = 18 ∨ b = 35) (hV : Vs nt np r) : ∀ (n k : Nat) (M1 : mM), np - k < n → k ≤ np → Tc b nt np (fo sSc1 k r) M M1 → mEv X (QV (fun M' => Tc b nt np (sScat np r) M M')) 83 2 [some (.ref b), some (.int (nI k))] [] (con M1) := by
  have hm : mMet 83 = some _ := rfl
  intro n
  induction n with
  | zero =>
    intro k M1 hkn hkb hC
    omega
  | succ n ih =>
    intro k M1 hkn hkb hC
    obtain ⟨hnb, hmb, -⟩ := id hC.1
    have hR1 := hC.1
    have h8 := hV.1
    have hp8 := hV.2.1
    refine x_iload_n hm rfl rfl ?_
    refine x_aload_n hm rfl rfl ?_
    refine x_getf hm rfl (gI (tO hb) rfl) ?_
    rw [hmb]
    refine x_icmp_ge hm rfl (t := 49) rfl (fun h1 => ?_) (fun h1 => ?_)
    · obtain rfl : k = np := Nat.le_antisymm hkb ((jI_le (by omega) (by omega)).mp h1)
      refine x_ret hm rfl rfl ?_
      exact ⟨_, rfl, rfl, hC⟩
    · have hk : k < np := Nat.lt_of_not_le fun h => h1 (nI_le h (by omega))
      refine x_aload_n hm rfl rfl ?_
      refine x_aload_n hm rfl rfl ?_
      refine x_getf hm rfl (gI (tO hb) rfl) ?_
      rw [hC.1.2.2.2.1]
      refine x_ldcI hm rfl (v := nI 1103515245) (by decide +kernel) ?_
      refine x_imul hm rfl ?_
      refine x_sipush hm rfl (v := nI 12345) (by decide) ?_
      refine x_iadd hm rfl ?_
      refine x_putf hm rfl (pI (tO hb) rfl (by decide) (by first | exact mFit_int | rfl | decide) rfl) ?_
      refine x_aload_n hm rfl rfl ?_
      refine x_getf hm rfl (gR (tO hb) rfl) ?_
      refine x_iconst hm rfl (v := nI 1) (by decide) ?_
      refine x_aald hm rfl (by first | exact lQ 3 (Or.inr (Or.inl rfl)) (tI hb) rfl (by omega) (by decide) | exact lQ 3 (Or.inr (Or.inl rfl)) (tF hb) rfl (by omega) (by decide) | exact lQ 3 (Or.inr (Or.inl rfl)) (tI hb) (tIk (by omega)) (by omega) (by decide) | exact lQ 3 (Or.inr (Or.inl rfl)) (tF hb) (tFk (by omega)) (by omega) (by decide)) ?_
      refine x_iload_n hm rfl rfl ?_
      refine x_aload_n hm rfl rfl ?_
      refine x_getf hm rfl (gI (tO hb) rfl) ?_
      rw [mp0]
      refine x_bipush hm rfl (v := nI 8) (by decide) ?_
      refine x_iushr hm rfl ?_
      refine x_bipush hm rfl (v := nI 16) (by decide) ?_
      refine x_irem hm rfl (by decide) ?_
      refine x_iast hm rfl (by first | exact sI (tRow hb (by omega)) (by omega) (by decide) | exact sI (tRowI hb (by omega)) (by omega) (by decide) | exact sI (tRowF hb (by omega)) (by omega) (by decide) | exact sI (tSp hb) (by omega) (by decide) | exact sI rfl (by omega) (by decide)) ?_
      refine x_iinc hm rfl rfl (v := nI 1) (by decide) rfl ?_
      rw [jI_add]
      refine x_goto hm rfl (t := 2) rfl ?_
      exact ih (k + 1) _ (by omega) (by omega) (hC.pz.pf (f := 1) h8 (by decide) hk)
end ET
