section CA
variable {X : mSc} {Q : Option Value → mHp → Prop} {M : mM} {b : Nat}
theorem t85 (hb : b = 1 ∨ b = 18 ∨ b = 35)  (hW : Wf M) : ∃ v, mT X 85 [.ref b] (con M) (some (.int v)) (con M) ∧ True := by
  refine te_of (row := _) rfl (Nat.le_of_ble_eq_true rfl) ?_
  have hm : mMet 85 = some _ := rfl
  obtain ⟨nb, h8, hnb⟩ := hW.ct hb
  refine x_iconst hm rfl (v := nI 0) (by decide) ?_
  refine x_istore_n hm rfl rfl ?_
  refine x_iconst hm rfl (v := nI 0) (by decide) ?_
  refine x_istore_n hm rfl rfl ?_
  exact l85 hb hnb h8 _ 0 _ (Nat.lt_succ_self _) (Nat.zero_le _)
theorem l67 (hb : b = 1 ∨ b = 18 ∨ b = 35) {p : Nat} {a : Int32} (hW : Wf M) (hp : p < 8) {nb : Nat} (hnb : M b 3 = nI nb) (h8 : nb ≤ 8) : ∀ (n k : Nat) (s : Int32), nb - k < n → k ≤ nb → mEv X (QE M (fun _ => True)) 67 5 [some (.ref b), some (.int (nI p)), some (.int a), some (.int s), some (.int (nI k))] [] (con M) := by
  have hm : mMet 67 = some _ := rfl
  intro n
  induction n with
  | zero =>
    intro k s hkn hkb
    omega
  | succ n ih =>
    intro k s hkn hkb
    refine x_iload hm rfl rfl ?_
    refine x_aload_n hm rfl rfl ?_
    refine x_getf hm rfl (gI (tO hb) rfl) ?_
    rw [hnb]
    refine x_icmp_ge hm rfl (t := 40) rfl (fun h1 => ?_) (fun h1 => ?_)
    · refine x_iload_n hm rfl rfl ?_
      refine x_iret hm rfl rfl (by first | rfl | exact bI_nar | decide) ?_
      exact ⟨_, rfl, rfl, trivial⟩
    · have hk : k < nb := Nat.lt_of_not_le fun h => h1 (nI_le h (by omega))
      refine x_iload_n hm rfl rfl ?_
      refine x_iload hm rfl rfl ?_
      refine x_cSe hm rfl rfl (t21) (fun v2 r2 => ?_)
      refine x_if_eq hm rfl (t := 34) rfl (fun h3 => ?_) (fun h3 => ?_)
      · refine x_iinc hm rfl rfl (v := nI 1) (by decide) rfl ?_
        rw [jI_add]
        refine x_goto hm rfl (t := 5) rfl ?_
        exact ih _ _ (by omega) (by omega)
      · refine x_iload_n hm rfl rfl ?_
        refine x_aload_n hm rfl rfl ?_
        refine x_iconst hm rfl (v := (-1 : Int32)) (by decide) ?_
        refine x_iload_n hm rfl rfl ?_
        refine x_iload hm rfl rfl ?_
        refine x_cVe hm rfl (mCallT hb (by decide) rfl rfl rfl rfl rfl) (t13 hb hW (by omega) (by omega) okM1) (fun v4 r4 => ?_)
        refine x_iadd hm rfl ?_
        refine x_istore_n hm rfl rfl ?_
        refine x_iinc hm rfl rfl (v := nI 1) (by decide) rfl ?_
        rw [jI_add]
        refine x_goto hm rfl (t := 5) rfl ?_
        exact ih _ _ (by omega) (by omega)
end CA
