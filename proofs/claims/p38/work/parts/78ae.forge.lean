section FO
variable {X : mSc} {Q : Option Value → mHp → Prop} {M : mM}
theorem e194 {t : Nat} (hI : Inv M) (ht : t < 8) {nb : Nat} (hnb : M 67 1 = nI nb) (h8 : nb ≤ 8) : mT X 194 [.ref 66, .int (nI t)] (con M) (some (.int (nI (wS (Rch (M 67) t) nb)))) (con M) := by
  refine mT.of (row := _) rfl (Nat.le_of_ble_eq_true rfl) ?_
  have hm : mMet 194 = some _ := rfl
  refine x_iconst hm rfl (v := nI 0) (by decide) ?_
  refine x_istore_n hm rfl rfl ?_
  refine x_iconst hm rfl (v := nI 0) (by decide) ?_
  refine x_istore_n hm rfl rfl ?_
  exact m194 hI ht hnb h8 _ 0 (Nat.lt_succ_self _) (Nat.zero_le _)
end FO
