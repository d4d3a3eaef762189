section EP
variable {X : mSc} {Q : Option Value → mHp → Prop} {M : mM}
theorem e212 {s t z : Nat} {nt np : Nat} (hW : Wf M) (hnt : M 67 1 = nI nt) (hn8 : nt ≤ 8) (hnp : M 67 2 = nI np) (hp8 : np ≤ 8) (h6 : M 66 6 = -1) (hs : s ≤ 3) (ht : t < 8) (hz : M 77 s = nI z) (hz40 : z ≤ 40) : ∃ v M', mT X 212 [.ref 66, .int (nI s), .int (nI t)] (con M) (some (.int v)) (con M') ∧ v = bI (sFt (fun j => M 78 (40 * s + j)) (-1) nt np t z 0 (M 67) = true) ∧ Kr M M' := by
  refine ti_of (row := _) rfl (Nat.le_of_ble_eq_true rfl) ?_
  have hm : mMet 212 = some _ := rfl
  refine x_aload_n hm rfl rfl ?_
  refine x_getf hm rfl (gR rfl rfl) ?_
  refine x_aload_n hm rfl rfl ?_
  refine x_getf hm rfl (gR rfl rfl) ?_
  refine x_callS hm rfl rfl (t174 rfl rfl (by decide)) ?_
  refine x_iconst hm rfl (v := nI 1) (by decide) ?_
  refine x_istore_n hm rfl rfl ?_
  refine x_iconst hm rfl (v := nI 0) (by decide) ?_
  refine x_istore hm rfl rfl ?_
  exact m212 hW hnt hn8 hnp hp8 h6 hs ht hz hz40 _ 0 _ _ _ (Nat.lt_succ_self _) (Nat.zero_le _) (Or.inl ⟨rfl, rfl⟩) Dy.rf (by have g := Dd.rf (M := cp M 67 69 118); rw [cp_o (by decide)] at g; exact g)
end EP
