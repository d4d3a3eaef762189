section CU
variable {X : mSc} {Q : Option Value → mHp → Prop} {M : mM}
theorem l109 {c nt np : Nat} {M0 : mM} {k v3 v4 : Int32} (h8 : np < 8) : ∀ (m i : Nat) (M : mM), 4 - i < m → i ≤ 4 → Cp c nt (np + 1) M0 M → mEv X (QV (fun M' => Cp c nt (np + 1) M0 M')) 109 68 [some (.ref 52), some (.ref 1), some (.int k), some (.int v3), some (.int v4), some (.int (nI np)), some (.int (nI i))] [] (con M) := by
  have hm : mMet 109 = some _ := rfl
  intro m
  induction m with
  | zero =>
    intro i M him hi4 h
    omega
  | succ m ih =>
    intro i M him hi4 h
    refine x_iload hm rfl rfl ?_
    refine x_iconst hm rfl (v := nI 4) (by decide) ?_
    refine x_icmp_ge hm rfl (t := 98) rfl (fun h1 => ?_) (fun h1 => ?_)
    · refine x_ret hm rfl rfl ?_
      exact ⟨_, rfl, rfl, h⟩
    · have hk : i < 4 := Nat.lt_of_not_le fun h => h1 (nI_le h (by omega))
      refine x_aload_n hm rfl rfl ?_
      refine x_getf hm rfl (gR rfl rfl) ?_
      refine x_iconst hm rfl (v := nI 3) (by decide) ?_
      refine x_iload hm rfl rfl ?_
      refine x_iadd hm rfl ?_
      rw [jI_add]
      refine x_aald hm rfl (lQ 3 (Or.inr (Or.inl rfl)) (tF (b := 1) (by decide)) (tFk (by omega)) (by omega) (by decide)) ?_
      refine x_iload hm rfl rfl ?_
      refine x_aload_n hm rfl rfl ?_
      refine x_bipush hm rfl (v := nI 9) (by decide) ?_
      refine x_cVi hm rfl rfl (w111 (by assumption)) (fun v2 M2 r2 => ?_)
      refine x_iast hm rfl (sI (tRowF (b := 1) (by decide) (by omega)) (by omega) (by decide)) ?_
      refine x_iinc hm rfl rfl (v := nI 1) (by decide) rfl ?_
      rw [jI_add]
      refine x_goto hm rfl (t := 68) rfl ?_
      first
        | exact ih _ _ (by omega) (by omega) (by rw [Nat.add_assoc]; exact r2.1.row (by omega) (by omega) (by rw [if_neg (by omega), if_neg (by omega)]; trivial))
        | exact ih _ _ (by omega) (by omega) (by rw [Nat.add_assoc]; exact r5.1.row (by omega) (by omega) (by rw [if_neg (by omega), if_neg (by omega)]; trivial))
        | exact ih _ _ (by omega) (by omega) (by rw [Nat.add_assoc]; exact r4.1.row (by omega) (by omega) (by rw [if_neg (by omega), if_neg (by omega)]; trivial))
        | exact ih _ _ (by omega) (by omega) (by rw [Nat.add_assoc]; exact r3.1.row (by omega) (by omega) (by rw [if_neg (by omega), if_neg (by omega)]; trivial))
        | exact ih _ _ (by omega) (by omega) (by rw [Nat.add_assoc]; exact r1.1.row (by omega) (by omega) (by rw [if_neg (by omega), if_neg (by omega)]; trivial))
end CU
