section CA
variable {X : mSc} {Q : Option Value → mHp → Prop} {M : mM} {b : Nat}
theorem t62 (hb : b = 1 ∨ b = 18 ∨ b = 35) {t : Nat} (ht : t < 8) (hW : Wf M) : ∃ v, mT X 62 [.ref b, .int (nI t)] (con M) (some (.int v)) (con M) ∧ True := by
  refine te_of (row := _) rfl (Nat.le_of_ble_eq_true rfl) ?_
  have hm : mMet 62 = some _ := rfl
  refine x_iconst hm rfl (v := nI 0) (by decide) ?_
  refine x_istore_n hm rfl rfl ?_
  refine x_aload_n hm rfl rfl ?_
  refine x_getf hm rfl (gR (tO hb) rfl) ?_
  refine x_iconst hm rfl (v := nI 5) (by decide) ?_
  refine x_aald hm rfl (by first | exact lQ 3 (Or.inr (Or.inl rfl)) (tI hb) rfl (by omega) (by decide) | exact lQ 3 (Or.inr (Or.inl rfl)) (tF hb) rfl (by omega) (by decide) | exact lQ 3 (Or.inr (Or.inl rfl)) (tI hb) (tIk (by omega)) (by omega) (by decide) | exact lQ 3 (Or.inr (Or.inl rfl)) (tF hb) (tFk (by omega)) (by omega) (by decide)) ?_
  refine x_iload_n hm rfl rfl ?_
  refine x_iald hm rfl (by first | exact lI (tRow hb (by omega)) (by omega) (by decide) | exact lI (tRowI hb (by omega)) (by omega) (by decide) | exact lI (tRowF hb (by omega)) (by omega) (by decide) | exact lI (tSp hb) (by omega) (by decide) | exact lI rfl (by omega) (by decide)) ?_
  refine x_istore_n hm rfl rfl ?_
  exact l62 hb hW _ 0 _ (Nat.lt_succ_self _) (Nat.zero_le _) (hW.chang hb _)
theorem l20b (hb : b = 1 ∨ b = 18 ∨ b = 35) {a : Int32} {i nb : Nat} (hW : Wf M) (hnb : M b 3 = nI nb) (h8 : nb ≤ 8) (hout : ∀ (s g : Int32) (x5 x6 : Option Value), mEv X (QE M (fun _ => True)) 20 9 [some (.ref b), some (.int a), some (.int s), some (.int g), some (.int (nI (i + 1))), x5, x6] [] (con M)) : ∀ (n k : Nat) (s g : Int32) (x6 : Option Value), nb - k < n → k ≤ nb → mEv X (QE M (fun _ => True)) 20 25 [some (.ref b), some (.int a), some (.int s), some (.int g), some (.int (nI i)), some (.int (nI k)), x6] [] (con M) := by
  have hm : mMet 20 = some _ := rfl
  intro n
  induction n with
  | zero =>
    intro k s g x6 hkn hkb
    omega
  | succ n ih =>
    intro k s g x6 hkn hkb
    refine x_iload hm rfl rfl ?_
    refine x_aload_n hm rfl rfl ?_
    refine x_getf hm rfl (gI (tO hb) rfl) ?_
    rw [hnb]
    refine x_icmp_ge hm rfl (t := 84) rfl (fun h1 => ?_) (fun h1 => ?_)
    · refine x_iinc hm rfl rfl (v := nI 1) (by decide) rfl ?_
      rw [jI_add]
      refine x_goto hm rfl (t := 9) rfl ?_
      exact hout _ _ _ _
    · have hk : k < nb := Nat.lt_of_not_le fun h => h1 (nI_le h (by omega))
      refine x_aload_n hm rfl rfl ?_
      refine x_getf hm rfl (gR (tO hb) rfl) ?_
      refine x_iconst hm rfl (v := nI 5) (by decide) ?_
      refine x_aald hm rfl (by first | exact lQ 3 (Or.inr (Or.inl rfl)) (tI hb) rfl (by omega) (by decide) | exact lQ 3 (Or.inr (Or.inl rfl)) (tF hb) rfl (by omega) (by decide) | exact lQ 3 (Or.inr (Or.inl rfl)) (tI hb) (tIk (by omega)) (by omega) (by decide) | exact lQ 3 (Or.inr (Or.inl rfl)) (tF hb) (tFk (by omega)) (by omega) (by decide)) ?_
      refine x_iload hm rfl rfl ?_
      refine x_iald hm rfl (by first | exact lI (tRow hb (by omega)) (by omega) (by decide) | exact lI (tRowI hb (by omega)) (by omega) (by decide) | exact lI (tRowF hb (by omega)) (by omega) (by decide) | exact lI (tSp hb) (by omega) (by decide) | exact lI rfl (by omega) (by decide)) ?_
      refine x_istore hm rfl rfl ?_
      refine x_iload hm rfl rfl ?_
      refine x_iconst hm rfl (v := (-1 : Int32)) (by decide) ?_
      refine x_icmp_eq hm rfl (t := 78) rfl (fun h2 => ?_) (fun h2 => ?_)
      · refine x_iinc hm rfl rfl (v := nI 1) (by decide) rfl ?_
        rw [jI_add]
        refine x_goto hm rfl (t := 25) rfl ?_
        exact ih _ _ _ _ (by omega) (by omega)
      · refine x_iload_n hm rfl rfl ?_
        refine x_iload hm rfl rfl ?_
        refine x_cSe hm rfl rfl (t21) (fun v3 r3 => ?_)
        refine x_if_eq hm rfl (t := 78) rfl (fun h4 => ?_) (fun h4 => ?_)
        · refine x_iinc hm rfl rfl (v := nI 1) (by decide) rfl ?_
          rw [jI_add]
          refine x_goto hm rfl (t := 25) rfl ?_
          exact ih _ _ _ _ (by omega) (by omega)
        · refine x_iload_n hm rfl rfl ?_
          refine x_iload hm rfl rfl ?_
          refine x_cSe hm rfl rfl (t21) (fun v5 r5 => ?_)
          refine x_if_ne hm rfl (t := 78) rfl (fun h6 => ?_) (fun h6 => ?_)
          · refine x_iinc hm rfl rfl (v := nI 1) (by decide) rfl ?_
            rw [jI_add]
            refine x_goto hm rfl (t := 25) rfl ?_
            exact ih _ _ _ _ (by omega) (by omega)
          · refine x_iload_n hm rfl rfl ?_
            refine x_iconst hm rfl (v := nI 1) (by decide) ?_
            refine x_iload hm rfl rfl ?_
            refine x_ishl hm rfl ?_
            refine x_ior hm rfl ?_
            refine x_istore_n hm rfl rfl ?_
            refine x_iconst hm rfl (v := nI 1) (by decide) ?_
            refine x_istore_n hm rfl rfl ?_
            refine x_iinc hm rfl rfl (v := nI 1) (by decide) rfl ?_
            rw [jI_add]
            refine x_goto hm rfl (t := 25) rfl ?_
            exact ih _ _ _ _ (by omega) (by omega)
end CA
