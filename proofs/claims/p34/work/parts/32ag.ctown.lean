section CA
variable {X : mSc} {Q : Option Value → mHp → Prop} {M : mM} {b : Nat}
theorem lt_k {x : Int32} {n : Nat} (hn : n ≤ 1000) (h0 : ¬ x < 0) (h1 : ¬ nI n ≤ x) : ∃ k, k < n ∧ x = nI k := by
  obtain ⟨k, hk, rfl⟩ := jI_of h0
  exact ⟨k, Nat.lt_of_not_le fun h => h1 (nI_le h (by omega)), rfl⟩
theorem l14 {k0 o : Int32} : ∀ (n i : Nat) (x : Int32), 7 - i < n → i ≤ 7 → mEv X (QE M (fun v => v = nI 0 ∨ v = nI 1)) 14 4 [some (.int k0), some (.int o), some (.int x), some (.int (nI i))] [] (con M) := by
  have hm : mMet 14 = some _ := rfl
  intro n
  induction n with
  | zero =>
    intro i x hin hi
    omega
  | succ n ih =>
    intro i x hin hi
    refine x_iload_n hm rfl rfl ?_
    refine x_bipush hm rfl (v := nI 7) (by decide) ?_
    refine x_icmp_ge hm rfl (t := 39) rfl (fun h1 => ?_) (fun h1 => ?_)
    · refine x_iconst hm rfl (v := nI 0) (by decide) ?_
      refine x_iret hm rfl rfl (by first | rfl | exact bI_nar | decide) ?_
      exact ⟨_, rfl, rfl, by first | exact Or.inl rfl | exact Or.inr rfl⟩
    · have hk : i < 7 := Nat.lt_of_not_le fun h => h1 (nI_le h (by omega))
      refine x_iload_n hm rfl rfl ?_
      refine x_if_lt hm rfl (t := 39) rfl (fun h2 => ?_) (fun h2 => ?_)
      · refine x_iconst hm rfl (v := nI 0) (by decide) ?_
        refine x_iret hm rfl rfl (by first | rfl | exact bI_nar | decide) ?_
        exact ⟨_, rfl, rfl, by first | exact Or.inl rfl | exact Or.inr rfl⟩
      · have hx0 := h2
        refine x_iload_n hm rfl rfl ?_
        refine x_bipush hm rfl (v := nI 7) (by decide) ?_
        refine x_icmp_ge hm rfl (t := 39) rfl (fun h3 => ?_) (fun h3 => ?_)
        · refine x_iconst hm rfl (v := nI 0) (by decide) ?_
          refine x_iret hm rfl rfl (by first | rfl | exact bI_nar | decide) ?_
          exact ⟨_, rfl, rfl, by first | exact Or.inl rfl | exact Or.inr rfl⟩
        · obtain ⟨z, hz, rfl⟩ := lt_k (by decide) hx0 h3
          refine x_iload_n hm rfl rfl ?_
          refine x_iload_n hm rfl rfl ?_
          refine x_icmp_ne hm rfl (t := 27) rfl (fun h4 => ?_) (fun h4 => ?_)
          · refine x_gets hm rfl ?_
            refine x_iload_n hm rfl rfl ?_
            refine x_iald hm rfl (lK hz) ?_
            refine x_istore_n hm rfl rfl ?_
            refine x_iinc hm rfl rfl (v := nI 1) (by decide) rfl ?_
            rw [jI_add]
            refine x_goto hm rfl (t := 4) rfl ?_
            exact ih _ _ (by omega) (by omega)
          · refine x_iconst hm rfl (v := nI 1) (by decide) ?_
            refine x_iret hm rfl rfl (by first | rfl | exact bI_nar | decide) ?_
            exact ⟨_, rfl, rfl, by first | exact Or.inl rfl | exact Or.inr rfl⟩
end CA
