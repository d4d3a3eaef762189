section EH
variable {X : mSc} {Q : Option Value → mHp → Prop} {M : mM}
theorem e176 {a1 : Int32} {nt np : Nat} (hW : Wf M) (hnt : M 67 1 = nI nt) (hn8 : nt ≤ 8) (hnp : M 67 2 = nI np) (hp8 : np ≤ 8) (h6 : M 66 6 = -1) : ∃ v M', mT X 176 [.ref 66, .int a1] (con M) (some (.int v)) (con M') ∧ v = (qLasts (M 67) nt np a1).1 ∧ Kq M M' ∧ Fq (qLasts (M 67) nt np a1) M M' := by
  refine ti_of (row := _) rfl (Nat.le_of_ble_eq_true rfl) ?_
  have hm : mMet 176 = some _ := rfl
  refine x_aload_n hm rfl rfl ?_
  refine x_iload_n hm rfl rfl ?_
  refine x_callV hm rfl rfl (t139) ?_
  rw [hnt]
  refine x_if_ne hm rfl (t := 15) rfl (fun h1 => ?_) (fun h1 => ?_)
  · obtain ⟨t, ht, rfl⟩ := in_k rfl (by omega) (bI_ne0 h1)
    refine x_aload_n hm rfl rfl ?_
    refine x_getf hm rfl (gR rfl rfl) ?_
    refine x_aload_n hm rfl rfl ?_
    refine x_getf hm rfl (gR rfl rfl) ?_
    refine x_callS hm rfl rfl (t174 rfl rfl (by decide)) ?_
    refine x_iconst hm rfl (v := nI 0) (by decide) ?_
    refine x_istore_n hm rfl rfl ?_
    have hq : qLasts (M 67) nt np (nI t) = orN (sLa (-1) nt np t (100 - 0) 0 (sDays (-1) nt np 0 (M 67))) := by
      unfold qLasts
      rw [if_neg (by assumption)]
      rw [jI_nat (k := t) (by omega)]
      rfl
    rw [hq]
    exact m176 hW hnt hn8 hnp hp8 h6 (by omega) _ 0 _ (Nat.lt_succ_self _) (Nat.zero_le _) Dy.rf (by have h := Dd.rf (M := cp M 67 69 118); rw [cp_o (by decide)] at h; exact h)
  · refine x_aload_n hm rfl rfl ?_
    refine x_ldcI hm rfl (v := (-1000001 : Int32)) (by decide +kernel) ?_
    refine x_callV hm rfl rfl (e135 (by decide +kernel)) ?_
    refine x_iret hm rfl rfl (by first | rfl | exact bI_nar | decide) ?_
    have hq : qLasts (M 67) nt np a1 = (-1000001, true) := by
      unfold qLasts
      first
        | rw [if_pos (by assumption)]
    exact ⟨_, _, rfl, rfl, congrArg Prod.fst hq.symm, fndR_kq, by rw [hq]; exact fndR_fq⟩
end EH
