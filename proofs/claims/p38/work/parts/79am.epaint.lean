section EP
variable {X : mSc} {Q : Option Value → mHp → Prop} {M : mM}
theorem g168b {s : Nat} (hs : s < 1024) : mT X 168 [.int (nI s)] (con M) (some (.int (sBits 1024 (nI 0) (nI s)))) (con M) := by
  refine mT.of (row := _) rfl (Nat.le_of_ble_eq_true rfl) ?_
  have hm : mMet 168 = some _ := rfl
  refine x_iconst hm rfl (v := nI 0) (by decide) ?_
  refine x_istore_n hm rfl rfl ?_
  refine x_iload_n hm rfl rfl ?_
  refine x_istore_n hm rfl rfl ?_
  exact m168b _ s _ (Nat.lt_succ_self _) hs 1024 hs
end EP
