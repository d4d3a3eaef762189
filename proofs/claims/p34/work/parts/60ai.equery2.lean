section EH
variable {X : mSc} {Q : Option Value → mHp → Prop} {M : mM}
theorem e181 {a1 a2 : Int32} {nt np : Nat} (hW : Wf M) (hnt : M 67 1 = nI nt) (hn8 : nt ≤ 8) (hnp : M 67 2 = nI np) (hp8 : np ≤ 8) (h6 : M 66 6 = -1) : ∃ v M', mT X 181 [.ref 66, .int a1, .int a2] (con M) (some (.int v)) (con M') ∧ v = (qSees (M 67) nt np a1 a2).1 ∧ Kq M M' ∧ Fq (qSees (M 67) nt np a1 a2) M M' := by
  refine ti_of (row := _) rfl (Nat.le_of_ble_eq_true rfl) ?_
  have hm : mMet 181 = some _ := rfl
  refine x_aload_n hm rfl rfl ?_
  refine x_iload_n hm rfl rfl ?_
  refine x_callV hm rfl rfl (t153) ?_
  rw [hnp]
  refine x_if_eq hm rfl (t := 16) rfl (fun h1 => ?_) (fun h1 => ?_)
  · refine x_aload_n hm rfl rfl ?_
    refine x_ldcI hm rfl (v := (-1000001 : Int32)) (by decide +kernel) ?_
    refine x_callV hm rfl rfl (e135 (by decide +kernel)) ?_
    refine x_iret hm rfl rfl (by first | rfl | exact bI_nar | decide) ?_
    first
      | (have hq : qSees (M 67) nt np a1 a2 = (-1000001, true) := by
           unfold qSees
           first
             | rw [if_pos (by assumption)]
         exact ⟨_, _, rfl, rfl, congrArg Prod.fst hq.symm, fndR_kq, by rw [hq]; exact fndR_fq⟩)
      | (have hq : qSees (M 67) nt np (nI p) a2 = (-1000001, true) := by
           unfold qSees
           first
             | rw [if_pos (by assumption)]
             | rw [if_neg (by assumption), if_pos (by assumption)]
         exact ⟨_, _, rfl, rfl, congrArg Prod.fst hq.symm, fndR_kq, by rw [hq]; exact fndR_fq⟩)
  · obtain ⟨p, hp, rfl⟩ := in_k rfl (by omega) (bI_ne0 h1)
    refine x_aload_n hm rfl rfl ?_
    refine x_iload_n hm rfl rfl ?_
    refine x_callV hm rfl rfl (t139) ?_
    rw [hnt]
    refine x_if_ne hm rfl (t := 23) rfl (fun h2 => ?_) (fun h2 => ?_)
    · obtain ⟨t, ht, rfl⟩ := in_k rfl (by omega) (bI_ne0 h2)
      refine x_aload_n hm rfl rfl ?_
      refine x_iload_n hm rfl rfl ?_
      refine x_iconst hm rfl (v := nI 1) (by decide) ?_
      refine x_callV hm rfl rfl (t141 (by omega) (by omega)) ?_
      refine x_istore_n hm rfl rfl ?_
      refine x_iconst hm rfl (v := nI 0) (by decide) ?_
      refine x_istore hm rfl rfl ?_
      have hq : qSees (M 67) nt np (nI p) (nI t) = sSe (M 67 (14 + 6 * t + 1)) (M 67 (62 + 7 * p + 2)) (16 - 0) 0 (M 67 (62 + 7 * p + 1)) := by
        unfold qSees
        rw [if_neg (by assumption), if_neg (by assumption)]
        rw [jI_nat (k := p) (by omega)]
        rw [jI_nat (k := t) (by omega)]
      rw [hq]
      exact m181 (by omega) (by omega) _ 0 _ (Nat.lt_succ_self _) (Nat.zero_le _)
    · refine x_aload_n hm rfl rfl ?_
      refine x_ldcI hm rfl (v := (-1000001 : Int32)) (by decide +kernel) ?_
      refine x_callV hm rfl rfl (e135 (by decide +kernel)) ?_
      refine x_iret hm rfl rfl (by first | rfl | exact bI_nar | decide) ?_
      first
        | (have hq : qSees (M 67) nt np a1 a2 = (-1000001, true) := by
             unfold qSees
             first
               | rw [if_pos (by assumption)]
           exact ⟨_, _, rfl, rfl, congrArg Prod.fst hq.symm, fndR_kq, by rw [hq]; exact fndR_fq⟩)
        | (have hq : qSees (M 67) nt np (nI p) a2 = (-1000001, true) := by
             unfold qSees
             first
               | rw [if_pos (by assumption)]
               | rw [if_neg (by assumption), if_pos (by assumption)]
           exact ⟨_, _, rfl, rfl, congrArg Prod.fst hq.symm, fndR_kq, by rw [hq]; exact fndR_fq⟩)
end EH
