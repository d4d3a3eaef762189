section EH
variable {X : mSc} {Q : Option Value → mHp → Prop} {M : mM}
theorem e192 {a1 a2 : Int32} {nt np : Nat} (hW : Wf M) (hnt : M 67 1 = nI nt) (hn8 : nt ≤ 8) (hnp : M 67 2 = nI np) (hp8 : np ≤ 8) (h6 : M 66 6 = -1) : ∃ v M', mT X 192 [.ref 66, .int a1, .int a2] (con M) (some (.int v)) (con M') ∧ v = (qNeeds (M 67) nt np a1 a2).1 ∧ Kq M M' ∧ Fq (qNeeds (M 67) nt np a1 a2) M M' := by
  refine ti_of (row := _) rfl (Nat.le_of_ble_eq_true rfl) ?_
  have hm : mMet 192 = some _ := rfl
  refine x_aload_n hm rfl rfl ?_
  refine x_iload_n hm rfl rfl ?_
  refine x_callV hm rfl rfl (t139) ?_
  rw [hnt]
  refine x_if_eq hm rfl (t := 18) rfl (fun h1 => ?_) (fun h1 => ?_)
  · refine x_aload_n hm rfl rfl ?_
    refine x_ldcI hm rfl (v := (-1000001 : Int32)) (by decide +kernel) ?_
    refine x_callV hm rfl rfl (e135 (by decide +kernel)) ?_
    refine x_iret hm rfl rfl (by first | rfl | exact bI_nar | decide) ?_
    first
      | (have hq : qNeeds (M 67) nt np a1 a2 = (-1000001, true) := by
           unfold qNeeds
           first
             | rw [if_pos (by assumption)]
         exact ⟨_, _, rfl, rfl, congrArg Prod.fst hq.symm, fndR_kq, by rw [hq]; exact fndR_fq⟩)
      | (have hq : qNeeds (M 67) nt np (nI t) a2 = (-1000001, true) := by
           unfold qNeeds
           first
             | rw [if_pos (by assumption)]
             | rw [if_neg (by assumption), if_pos (by assumption)]
         exact ⟨_, _, rfl, rfl, congrArg Prod.fst hq.symm, fndR_kq, by rw [hq]; exact fndR_fq⟩)
  · obtain ⟨t, ht, rfl⟩ := in_k rfl (by omega) (bI_ne0 h1)
    refine x_iload_n hm rfl rfl ?_
    refine x_iconst hm rfl (v := nI 0) (by decide) ?_
    refine x_bipush hm rfl (v := nI 60) (by decide) ?_
    refine x_callS hm rfl rfl (t133) ?_
    refine x_if_ne hm rfl (t := 25) rfl (fun h2 => ?_) (fun h2 => ?_)
    · obtain ⟨a, ha, rfl⟩ := le_k (by omega) (bI_ne0 h2)
      refine x_aload_n hm rfl rfl ?_
      refine x_iload_n hm rfl rfl ?_
      refine x_iconst hm rfl (v := nI 3) (by decide) ?_
      refine x_callV hm rfl rfl (t143 (by omega) (by omega)) ?_
      refine x_istore_n hm rfl rfl ?_
      refine x_iconst hm rfl (v := (-1 : Int32)) (by decide) ?_
      refine x_istore hm rfl rfl ?_
      refine x_bipush hm rfl (v := nI 9) (by decide) ?_
      refine x_istore hm rfl rfl ?_
      have hq : qNeeds (M 67) nt np (nI t) (nI a) = orN (fo (sNd (M 67) (-1) nt np a t) 10 (-1)) := by
        unfold qNeeds
        rw [if_neg (by assumption), if_neg (by assumption)]
        rw [jI_nat (k := t) (by omega)]
        rw [jI_nat (k := a) (by omega)]
      rw [hq, show (nI 9 : Int32) = nI 10 + (-1) by decide]
      exact m192 hW hnt hn8 hnp hp8 h6 (by omega) (by omega) _ 10 _ _ (Nat.lt_succ_self _) (Nat.le_refl _) Ky.rf rfl
    · refine x_aload_n hm rfl rfl ?_
      refine x_ldcI hm rfl (v := (-1000001 : Int32)) (by decide +kernel) ?_
      refine x_callV hm rfl rfl (e135 (by decide +kernel)) ?_
      refine x_iret hm rfl rfl (by first | rfl | exact bI_nar | decide) ?_
      first
        | (have hq : qNeeds (M 67) nt np a1 a2 = (-1000001, true) := by
             unfold qNeeds
             first
               | rw [if_pos (by assumption)]
           exact ⟨_, _, rfl, rfl, congrArg Prod.fst hq.symm, fndR_kq, by rw [hq]; exact fndR_fq⟩)
        | (have hq : qNeeds (M 67) nt np (nI t) a2 = (-1000001, true) := by
             unfold qNeeds
             first
               | rw [if_pos (by assumption)]
               | rw [if_neg (by assumption), if_pos (by assumption)]
           exact ⟨_, _, rfl, rfl, congrArg Prod.fst hq.symm, fndR_kq, by rw [hq]; exact fndR_fq⟩)
end EH
