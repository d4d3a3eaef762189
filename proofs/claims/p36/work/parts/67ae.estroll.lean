section ET
variable {X : mSc} {Q : Option Value → mHp → Prop} {M : mM} {b nt np : Nat} {r : Nat → Int32}
theorem m82 {a : Nat} {c : Int32} (ha : a ≤ 1000) (hV : Vs nt np r) (hc : M 1 7 = -1) : ∀ (n k : Nat) (M1 : mM), a - k < n → k ≤ a → Tc 1 nt np (sStr nt np k r) M M1 → mEv X (QI (fun v M' => v = c - sThick (sStr nt np a r) nt ∧ Tc 1 nt np (sStr nt np a r) M M')) 82 48 [some (.ref 0), some (.int (nI a)), some (.int c), some (.int (nI k))] [] (con M1) := by
  have hm : mMet 82 = some _ := rfl
  intro n
  induction n with
  | zero =>
    intro k M1 hkn hkb hC
    omega
  | succ n ih =>
    intro k M1 hkn hkb hC
    refine x_iload_n hm rfl rfl ?_
    refine x_iload_n hm rfl rfl ?_
    refine x_icmp_ge hm rfl (t := 74) rfl (fun h1 => ?_) (fun h1 => ?_)
    · obtain rfl : k = a := Nat.le_antisymm hkb ((jI_le (by omega) (by omega)).mp h1)
      refine x_iload_n hm rfl rfl ?_
      refine x_aload_n hm rfl rfl ?_
      refine x_getf hm rfl (gR rfl rfl) ?_
      refine x_callV hm rfl rfl (e38 (by decide) hC.1 (hV.str _)) ?_
      refine x_isub hm rfl ?_
      refine x_iret hm rfl rfl (by first | rfl | exact bI_nar | decide) ?_
      exact ⟨_, _, rfl, rfl, rfl, hC⟩
    · have hk : k < a := Nat.lt_of_not_le fun h => h1 (nI_le h (by omega))
      refine x_aload_n hm rfl rfl ?_
      refine x_getf hm rfl (gR rfl rfl) ?_
      refine x_cVv hm rfl rfl (e83 (by decide) hC.1 (hV.str k)) (fun M2 r2 => ?_)
      refine x_aload_n hm rfl rfl ?_
      refine x_getf hm rfl (gR rfl rfl) ?_
      refine x_iconst hm rfl (v := nI 1) (by decide) ?_
      refine x_cVv hm rfl rfl (e30 (a := 1) (by decide) r2.1 (hV.str k).scat (by decide)) (fun M3 r3 => ?_)
      rw [r2.2.1, hC.2.1, hc] at r3
      refine x_iinc hm rfl rfl (v := nI 1) (by decide) rfl ?_
      rw [jI_add]
      refine x_goto hm rfl (t := 48) rfl ?_
      exact ih (k + 1) _ (by omega) (by omega) (hC.to (r2.to r3))
end ET
