section CU
variable {X : mSc} {Q : Option Value → mHp → Prop} {M : mM}
theorem v23 {n : Nat} {k p : Int32} {M0 : mM} (h8 : n < 8) : ∀ (m i : Nat), 4 - i < m → i ≤ 4 → mEv X (fun r D => r = some (.int (nI n)) ∧ D = con (lkc M0 n 4)) 23 45 [some (.ref 1), some (.int k), some (.int p), some (.int (nI n)), some (.int (nI i))] [] (con (lkc M0 n i)) := by
  have hm : mMet 23 = some _ := rfl
  intro m
  induction m with
  | zero =>
    intro i him hi4
    omega
  | succ m ih =>
    intro i him hi4
    refine x_iload hm rfl rfl ?_
    refine x_iconst hm rfl (v := nI 4) (by decide) ?_
    refine x_icmp_ge hm rfl (t := 69) rfl (fun h1 => ?_) (fun h1 => ?_)
    · obtain rfl : i = 4 := Nat.le_antisymm hi4 ((jI_le (by decide) (by omega)).mp h1)
      refine x_iload_n hm rfl rfl ?_
      refine x_iret hm rfl rfl (by first | rfl | exact bI_nar | decide) ?_
      exact ⟨rfl, rfl⟩
    · have hk : i < 4 := Nat.lt_of_not_le fun h => h1 (nI_le h (by omega))
      refine x_aload_n hm rfl rfl ?_
      refine x_getf hm rfl (gR rfl rfl) ?_
      refine x_iconst hm rfl (v := nI 3) (by decide) ?_
      refine x_iload hm rfl rfl ?_
      refine x_iadd hm rfl ?_
      rw [jI_add]
      refine x_aald hm rfl (lQ 3 (Or.inr (Or.inl rfl)) (tF (b := 1) (by decide)) (tFk (by omega)) (by omega) (by decide)) ?_
      refine x_iload_n hm rfl rfl ?_
      refine x_iconst hm rfl (v := nI 1) (by decide) ?_
      refine x_iast hm rfl (sI (tRowF (b := 1) (by decide) (by omega)) (by omega) (by decide)) ?_
      refine x_iinc hm rfl rfl (v := nI 1) (by decide) rfl ?_
      rw [jI_add]
      refine x_goto hm rfl (t := 45) rfl ?_
      exact ih (i + 1) (by omega) (by omega)
end CU
