section ET
variable {X : mSc} {Q : Option Value → mHp → Prop} {M : mM} {b nt np : Nat} {r : Nat → Int32}
theorem m214a {a : Nat} {c : Int32} (hW : Wf M) (hnt : M 67 1 = nI nt) (hn8 : nt ≤ 8) (hnp : M 67 2 = nI np) (hp8 : np ≤ 8) (h6 : M 66 6 = -1) (ha : a ≤ 1000) : ∀ (n k : Nat) (x : Option Value) (M1 : mM), a - k < n → k ≤ a → Dy M M1 → Dd (sStr nt np k (M 67)) M M1 → mEv X (QI (fun v M' => v = c - sThick (sStr nt np a (M 67)) nt ∧ Dd (sStr nt np a (M 67)) M M')) 214 44 [some (.ref 66), some (.int (nI a)), some (.int c), some (.int (nI k)), x] [] (con M1) := by
  have hm : mMet 214 = some _ := rfl
  intro n
  induction n with
  | zero =>
    intro k x M1 hkn hkb hD hd
    omega
  | succ n ih =>
    intro k x M1 hkn hkb hD hd
    refine x_iload_n hm rfl rfl ?_
    refine x_iload_n hm rfl rfl ?_
    refine x_icmp_ge hm rfl (t := 97) rfl (fun h1 => ?_) (fun h1 => ?_)
    · obtain rfl : k = a := Nat.le_antisymm hkb ((jI_le (by omega) (by omega)).mp h1)
      refine x_iload_n hm rfl rfl ?_
      refine x_aload_n hm rfl rfl ?_
      refine x_callV hm rfl rfl (e170 (hD.1.2.1.trans hnt) hn8) ?_
      refine x_isub hm rfl ?_
      refine x_iret hm rfl rfl (by first | rfl | exact bI_nar | decide) ?_
      exact ⟨_, _, rfl, rfl, by rw [hd.1], hd⟩
    · have hk : k < a := Nat.lt_of_not_le fun h => h1 (nI_le h (by omega))
      refine x_iconst hm rfl (v := nI 0) (by decide) ?_
      refine x_istore hm rfl rfl ?_
      exact m214b hW hnt hn8 hnp hp8 h6 (fun M2 x g1 g2 => ih (k + 1) x M2 (by omega) (by omega) g1 g2) _ 0 _ (Nat.lt_succ_self _) (Nat.zero_le _) hD hd
end ET
