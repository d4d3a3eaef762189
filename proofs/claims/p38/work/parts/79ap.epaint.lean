section EP
variable {X : mSc} {Q : Option Value → mHp → Prop} {M : mM}
theorem e213 {a1 a2 a3 : Int32} {nt np : Nat} (hW : Wf M) (hnt : M 67 1 = nI nt) (hn8 : nt ≤ 8) (hnp : M 67 2 = nI np) (hp8 : np ≤ 8) (hV : Vs nt np (M 67)) (h6 : M 66 6 = -1) : ∃ v M', mT X 213 [.ref 66, .int a1, .int a2, .int a3] (con M) (some (.int v)) (con M') ∧ v = (qLikes (lk M a1) (M 77) (M 78) (M 67) nt np a1 a2 a3).1 ∧ Kq M M' ∧ Fq (qLikes (lk M a1) (M 77) (M 78) (M 67) nt np a1 a2 a3) M M' := by
  refine ti_of (row := _) rfl (Nat.le_of_ble_eq_true rfl) ?_
  have hm : mMet 213 = some _ := rfl
  refine x_aload_n hm rfl rfl ?_
  refine x_iload_n hm rfl rfl ?_
  refine x_callV hm rfl rfl (t209) ?_
  refine x_if_eq hm rfl (t := 18) rfl (fun h1 => ?_) (fun h1 => ?_)
  · have hl0 : lk M a1 = 0 := h1
    obtain ⟨s, hs, rfl⟩ := lk_k h1
    refine x_aload_n hm rfl rfl ?_
    refine x_iload_n hm rfl rfl ?_
    refine x_callV hm rfl rfl (t153) ?_
    rw [hnp]
    refine x_if_eq hm rfl (t := 34) rfl (fun h2 => ?_) (fun h2 => ?_)
    · refine x_aload_n hm rfl rfl ?_
      refine x_ldcI hm rfl (v := (-1000001 : Int32)) (by decide +kernel) ?_
      refine x_callV hm rfl rfl (e135 (by first | decide | exact lk_fd h1)) ?_
      refine x_iret hm rfl rfl (by first | rfl | exact bI_nar | decide) ?_
      first
        | (have hq : qLikes (lk M (nI s)) (M 77) (M 78) (M 67) nt np (nI s) a2 a3 = (-1000001, true) := by
             unfold qLikes
             first
               | rw [if_pos (by assumption)]
               | rw [if_neg (fun z => z (by assumption)), if_pos (by assumption)]
               | rw [if_neg (fun z => z (by assumption)), if_neg (by assumption), if_pos (by assumption)]
           exact ⟨_, _, rfl, rfl, congrArg Prod.fst hq.symm, fndR_kq, by rw [hq]; exact fndR_fq⟩)
        | (have hq : qLikes (lk M (nI s)) (M 77) (M 78) (M 67) nt np (nI s) (nI p) a3 = (-1000001, true) := by
             unfold qLikes
             first
               | rw [if_pos (by assumption)]
               | rw [if_neg (fun z => z (by assumption)), if_pos (by assumption)]
               | rw [if_neg (fun z => z (by assumption)), if_neg (by assumption), if_pos (by assumption)]
           exact ⟨_, _, rfl, rfl, congrArg Prod.fst hq.symm, fndR_kq, by rw [hq]; exact fndR_fq⟩)
    · obtain ⟨p, hp, rfl⟩ := in_k rfl (by omega) (bI_ne0 h2)
      refine x_aload_n hm rfl rfl ?_
      refine x_iload_n hm rfl rfl ?_
      refine x_callV hm rfl rfl (t139) ?_
      rw [hnt]
      refine x_if_ne hm rfl (t := 41) rfl (fun h3 => ?_) (fun h3 => ?_)
      · obtain ⟨t, ht, rfl⟩ := in_k rfl (by omega) (bI_ne0 h3)
        obtain ⟨z, hz40, hz⟩ := ok5 (show okx 5 (M 77 s) from hW 77 s)
        obtain ⟨w, hw3, hw⟩ := hV.sort ht
        refine x_aload_n hm rfl rfl ?_
        refine x_iload_n hm rfl rfl ?_
        refine x_iload_n hm rfl rfl ?_
        refine x_iload_n hm rfl rfl ?_
        refine x_cVi hm rfl rfl (e211 hW hnt hn8 hnp hp8 h6 hs (by omega) (by omega) hz hz40 hw hw3) (fun v4 M4 r4 => ?_)
        have hv := r4.1
        subst hv
        have hsN : sFs (fun j => M 78 (40 * s + j)) (-1) nt np t z (62 + 7 * p + (3 + w)) (M 67) 10 < 1024 := wS_lt2 (Nat.le_refl _)
        refine x_istore hm rfl rfl ?_
        refine x_iconst hm rfl (v := nI 0) (by decide) ?_
        refine x_istore hm rfl rfl ?_
        have hq : qLikes (lk M (nI s)) (M 77) (M 78) (M 67) nt np (nI s) (nI p) (nI t) = sLk (sFs (fun j => M 78 (40 * s + j)) (-1) nt np t z (62 + 7 * p + (3 + w)) (M 67) 10) 10 0 := by
          unfold qLikes
          rw [if_neg (fun z => z (by assumption)), if_neg (by assumption), if_neg (by assumption)]
          rw [jI_nat (k := s) (by omega)]
          rw [jI_nat (k := p) (by omega)]
          rw [jI_nat (k := t) (by omega)]
          rw [hz, hw, jI_nat (k := z) (by omega), jI_nat (k := w) (by omega)]
        rw [hq]
        exact m213 hsN r4.2 _ 0 (Nat.lt_succ_self _) (Nat.zero_le _) rfl
      · refine x_aload_n hm rfl rfl ?_
        refine x_ldcI hm rfl (v := (-1000001 : Int32)) (by decide +kernel) ?_
        refine x_callV hm rfl rfl (e135 (by first | decide | exact lk_fd h1)) ?_
        refine x_iret hm rfl rfl (by first | rfl | exact bI_nar | decide) ?_
        first
          | (have hq : qLikes (lk M (nI s)) (M 77) (M 78) (M 67) nt np (nI s) a2 a3 = (-1000001, true) := by
               unfold qLikes
               first
                 | rw [if_pos (by assumption)]
                 | rw [if_neg (fun z => z (by assumption)), if_pos (by assumption)]
                 | rw [if_neg (fun z => z (by assumption)), if_neg (by assumption), if_pos (by assumption)]
             exact ⟨_, _, rfl, rfl, congrArg Prod.fst hq.symm, fndR_kq, by rw [hq]; exact fndR_fq⟩)
          | (have hq : qLikes (lk M (nI s)) (M 77) (M 78) (M 67) nt np (nI s) (nI p) a3 = (-1000001, true) := by
               unfold qLikes
               first
                 | rw [if_pos (by assumption)]
                 | rw [if_neg (fun z => z (by assumption)), if_pos (by assumption)]
                 | rw [if_neg (fun z => z (by assumption)), if_neg (by assumption), if_pos (by assumption)]
             exact ⟨_, _, rfl, rfl, congrArg Prod.fst hq.symm, fndR_kq, by rw [hq]; exact fndR_fq⟩)
  · refine x_aload_n hm rfl rfl ?_
    refine x_aload_n hm rfl rfl ?_
    refine x_iload_n hm rfl rfl ?_
    refine x_callV hm rfl rfl (t209) ?_
    refine x_callV hm rfl rfl (e135 (by first | decide | exact lk_fd h1)) ?_
    refine x_iret hm rfl rfl (by first | rfl | exact bI_nar | decide) ?_
    have hq : qLikes (lk M a1) (M 77) (M 78) (M 67) nt np a1 a2 a3 = (lk M a1, true) := by
      unfold qLikes
      first
        | rw [if_pos (by assumption)]
        | rw [if_neg (fun z => z (by assumption)), if_pos (by assumption)]
        | rw [if_neg (fun z => z (by assumption)), if_neg (by assumption), if_pos (by assumption)]
    exact ⟨_, _, rfl, rfl, congrArg Prod.fst hq.symm, fndR_kq, by rw [hq]; exact fndR_fq⟩
end EP
