section EH
variable {X : mSc} {Q : Option Value → mHp → Prop} {M : mM}
theorem e188 {a1 : Int32} {nt np : Nat} (hW : Wf M) (hnt : M 67 1 = nI nt) (hn8 : nt ≤ 8) (hnp : M 67 2 = nI np) (hp8 : np ≤ 8) (h6 : M 66 6 = -1) : ∃ v M', mT X 188 [.ref 66, .int a1] (con M) (some (.int v)) (con M') ∧ v = (qWorst (M 67) nt np a1).1 ∧ Kq M M' ∧ Fq (qWorst (M 67) nt np a1) M M' := by
  refine ti_of (row := _) rfl (Nat.le_of_ble_eq_true rfl) ?_
  have hm : mMet 188 = some _ := rfl
  refine x_iload_n hm rfl rfl ?_
  refine x_iconst hm rfl (v := nI 0) (by decide) ?_
  refine x_bipush hm rfl (v := nI 60) (by decide) ?_
  refine x_callS hm rfl rfl (t133) ?_
  refine x_if_ne hm rfl (t := 17) rfl (fun h1 => ?_) (fun h1 => ?_)
  · obtain ⟨a, ha, rfl⟩ := le_k (by omega) (bI_ne0 h1)
    refine x_iconst hm rfl (v := (-1 : Int32)) (by decide) ?_
    refine x_istore_n hm rfl rfl ?_
    refine x_ldcI hm rfl (v := nI 2147483647) (by decide +kernel) ?_
    refine x_istore_n hm rfl rfl ?_
    refine x_iconst hm rfl (v := nI 0) (by decide) ?_
    refine x_istore hm rfl rfl ?_
    have hq : qWorst (M 67) nt np (nI a) = orN (fo (sWo (M 67) nt np a) np (-1, 2147483647)).1 := by
      unfold qWorst
      rw [if_neg (by assumption)]
      rw [jI_nat (k := a) (by omega)]
    rw [hq]
    exact m188 hW hnt hn8 hnp hp8 h6 (by omega) _ 0 _ _ _ _ (Nat.lt_succ_self _) (Nat.zero_le _) Kz.rf rfl
  · refine x_aload_n hm rfl rfl ?_
    refine x_ldcI hm rfl (v := (-1000001 : Int32)) (by decide +kernel) ?_
    refine x_callV hm rfl rfl (e135 (by decide +kernel)) ?_
    refine x_iret hm rfl rfl (by first | rfl | exact bI_nar | decide) ?_
    have hq : qWorst (M 67) nt np a1 = (-1000001, true) := by
      unfold qWorst
      first
        | rw [if_pos (by assumption)]
    exact ⟨_, _, rfl, rfl, congrArg Prod.fst hq.symm, fndR_kq, by rw [hq]; exact fndR_fq⟩
end EH
