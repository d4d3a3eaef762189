section EP
variable {X : mSc} {Q : Option Value → mHp → Prop} {M : mM}
theorem e211 {s p t z w : Nat} {nt np : Nat} (hW : Wf M) (hnt : M 67 1 = nI nt) (hn8 : nt ≤ 8) (hnp : M 67 2 = nI np) (hp8 : np ≤ 8) (h6 : M 66 6 = -1) (hs : s ≤ 3) (hp : p < 8) (ht : t < 8) (hz : M 77 s = nI z) (hz40 : z ≤ 40) (hw : M 67 (14 + 6 * t + 0) = nI w) (hw3 : w ≤ 3) : ∃ v M', mT X 211 [.ref 66, .int (nI s), .int (nI p), .int (nI t)] (con M) (some (.int v)) (con M') ∧ v = nI (sFs (fun j => M 78 (40 * s + j)) (-1) nt np t z (62 + 7 * p + (3 + w)) (M 67) 10) ∧ Kr M M' := by
  refine ti_of (row := _) rfl (Nat.le_of_ble_eq_true rfl) ?_
  have hm : mMet 211 = some _ := rfl
  refine x_iload_n hm rfl rfl ?_
  refine x_iconst hm rfl (v := nI 3) (by decide) ?_
  refine x_aload_n hm rfl rfl ?_
  refine x_iload_n hm rfl rfl ?_
  refine x_iconst hm rfl (v := nI 0) (by decide) ?_
  refine x_callV hm rfl rfl (t143 (by omega) (by omega)) ?_
  rw [hw]
  refine x_iadd hm rfl ?_
  rw [jI_add]
  refine x_callS hm rfl rfl (t142) ?_
  refine x_istore hm rfl rfl ?_
  refine x_aload_n hm rfl rfl ?_
  refine x_getf hm rfl (gR rfl rfl) ?_
  refine x_iload hm rfl rfl ?_
  refine x_iald hm rfl (lI rfl (by omega) (by decide)) ?_
  refine x_istore hm rfl rfl ?_
  refine x_iconst hm rfl (v := nI 0) (by decide) ?_
  refine x_istore hm rfl rfl ?_
  refine x_iconst hm rfl (v := nI 0) (by decide) ?_
  refine x_istore hm rfl rfl ?_
  exact m211 hW hnt hn8 hnp hp8 h6 hs hp ht hz hz40 hw hw3 _ 0 _ (Nat.lt_succ_self _) (Nat.zero_le _) Ky.rf
end EP
