section CA
variable {X : mSc} {Q : Option Value → mHp → Prop} {M : mM} {b : Nat}
theorem l20a (hb : b = 1 ∨ b = 18 ∨ b = 35) {a : Int32} {nb : Nat} (hW : Wf M) (hnb : M b 3 = nI nb) (h8 : nb ≤ 8) : ∀ (n i : Nat) (s g : Int32) (x5 x6 : Option Value), 8 - i < n → i ≤ 8 → mEv X (QE M (fun _ => True)) 20 9 [some (.ref b), some (.int a), some (.int s), some (.int g), some (.int (nI i)), x5, x6] [] (con M) := by
  have hm : mMet 20 = some _ := rfl
  intro n
  induction n with
  | zero =>
    intro i s g x5 x6 hin hi
    omega
  | succ n ih =>
    intro i s g x5 x6 hin hi
    refine x_iload hm rfl rfl ?_
    refine x_bipush hm rfl (v := nI 8) (by decide) ?_
    refine x_icmp_ge hm rfl (t := 90) rfl (fun h1 => ?_) (fun h1 => ?_)
    · refine x_iload_n hm rfl rfl ?_
      refine x_iret hm rfl rfl (by first | rfl | exact bI_nar | decide) ?_
      exact ⟨_, rfl, rfl, trivial⟩
    · have hk : i < 8 := Nat.lt_of_not_le fun h => h1 (nI_le h (by omega))
      refine x_iload_n hm rfl rfl ?_
      refine x_if_eq hm rfl (t := 90) rfl (fun h2 => ?_) (fun h2 => ?_)
      · refine x_iload_n hm rfl rfl ?_
        refine x_iret hm rfl rfl (by first | rfl | exact bI_nar | decide) ?_
        exact ⟨_, rfl, rfl, trivial⟩
      · refine x_iconst hm rfl (v := nI 0) (by decide) ?_
        refine x_istore_n hm rfl rfl ?_
        refine x_iconst hm rfl (v := nI 0) (by decide) ?_
        refine x_istore hm rfl rfl ?_
        exact l20b hb hW hnb h8 (fun s g x5 x6 => ih _ _ _ _ _ (by omega) (by omega)) _ 0 _ _ _ (Nat.lt_succ_self _) (Nat.zero_le _)
theorem t20 (hb : b = 1 ∨ b = 18 ∨ b = 35) {a : Int32} (hW : Wf M) : ∃ v, mT X 20 [.ref b, .int a] (con M) (some (.int v)) (con M) ∧ True := by
  refine te_of (row := _) rfl (Nat.le_of_ble_eq_true rfl) ?_
  have hm : mMet 20 = some _ := rfl
  obtain ⟨nb, h8, hnb⟩ := hW.ct hb
  refine x_iconst hm rfl (v := nI 1) (by decide) ?_
  refine x_iload_n hm rfl rfl ?_
  refine x_ishl hm rfl ?_
  refine x_istore_n hm rfl rfl ?_
  refine x_iconst hm rfl (v := nI 1) (by decide) ?_
  refine x_istore_n hm rfl rfl ?_
  refine x_iconst hm rfl (v := nI 0) (by decide) ?_
  refine x_istore hm rfl rfl ?_
  exact l20a hb hW hnb h8 _ 0 _ _ _ _ (Nat.lt_succ_self _) (Nat.zero_le _)
end CA
