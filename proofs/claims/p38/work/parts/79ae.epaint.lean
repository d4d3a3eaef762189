section EP
variable {X : mSc} {Q : Option Value → mHp → Prop} {M : mM}
theorem e190 {r : Nat → Int32} {nt np s a : Nat} (hW : Wf M) (h67 : M 67 = r) (hnt : r 1 = nI nt) (hn8 : nt ≤ 8) (hnp : r 2 = nI np) (hp8 : np ≤ 8) (h6 : M 66 6 = -1) (hs : s < 256) (ha : a ≤ 1000) : ∃ v M', mT X 190 [.ref 66, .int (nI s), .int (nI a)] (con M) (some (.int v)) (con M') ∧ v = (sThick (pnt s r nt) nt - sThick (sDays (-1) nt np a (pnt s r nt)) nt) ∧ Kp M M' := by
  refine ti_of (row := _) rfl (Nat.le_of_ble_eq_true rfl) ?_
  have hm : mMet 190 = some _ := rfl
  refine x_iconst hm rfl (v := nI 0) (by decide) ?_
  refine x_istore_n hm rfl rfl ?_
  exact m190a hW h67 hnt hn8 hnp hp8 h6 hs ha _ 0 _ (Nat.lt_succ_self _) (Nat.zero_le _) Sf.rf (fun _ _ _ => rfl) h67 (fun u hu => absurd hu (Nat.not_lt_zero _))
end EP
