/-! ===== which calls of the reference tell a finding ===== -/
section TF
variable {X : mSc} {M : mM} {nt np : Nat} {r : Nat → Int32} {c k6 : Int32}
theorem fR132 {a1 a2 : Int32} (hI : Inv M) (h67 : M 67 = r) (hG : Gd nt np r) (h6 : M 66 6 = -1) (hz : ∀ s, s < 4 → ∃ k, k ≤ 40 ∧ M 77 s = nI k) (hct : M 66 9 = c) (hk6 : M 66 3 = k6) : ∀ o D, mT X 132 [.ref 66, .int a1, .int a2] (con M) o D → qR M (kThing nt a1 a2) o D := by
  have hV := hG.2.2.1
  have hn8 := hV.1
  have hp8 := hV.2.1
  have hW := hI.1
  have hnt : M 67 1 = nI nt := (congrFun h67 1).trans hG.1
  have hnp : M 67 2 = nI np := (congrFun h67 2).trans hG.2.1
  refine al_of (Q := qR M (kThing nt a1 a2)) (row := _) rfl ?_
  have hm : mMet 132 = some _ := rfl
  refine y_iload_n hm rfl rfl ?_
  refine y_iconst hm rfl (v := nI 0) (by decide) ?_
  refine y_iconst hm rfl (v := nI 3) (by decide) ?_
  refine y_callS hm rfl rfl (t133) ?_
  refine y_if_eq hm rfl (t := 16) rfl (fun h1 => ?_) (fun h1 => ?_)
  · refine y_aload_n hm rfl rfl ?_
    refine y_ldcI hm rfl (v := (-1000001 : Int32)) (by decide) ?_
    refine y_callV hm rfl rfl (e135 (by decide)) ?_
    refine y_iret hm rfl rfl (by first | rfl | exact bI_nar | decide) ?_
    first
      | (exact tR (by unfold kThing; rw [if_pos (by assumption)]))
      | (exact tR (by unfold kThing; rw [if_neg (by assumption), if_pos (by assumption)]))
  · refine y_iload_n hm rfl rfl ?_
    refine y_callS hm rfl rfl (t134) ?_
    refine y_if_ne hm rfl (t := 23) rfl (fun h2 => ?_) (fun h2 => ?_)
    · refine y_aload_n hm rfl rfl ?_
      refine y_getf hm rfl (gR rfl rfl) ?_
      refine y_iconst hm rfl (v := nI 1) (by decide) ?_
      refine y_iald hm rfl (lI rfl (by omega) (by decide)) ?_
      rw [hnt]
      refine y_bipush hm rfl (v := nI 8) (by decide) ?_
      refine y_icmp_ne hm rfl (t := 43) rfl (fun h3 => ?_) (fun h3 => ?_)
      · have hne : ¬ nt = 8 := fun e => h3 (by rw [e])
        exact bodyR (fun pc => (Nat.ble 43 pc && Nat.ble pc 51) || Nat.beq pc 54) (by unfold kThing; rw [if_neg (by assumption), if_neg (by assumption), if_neg (by assumption)]) (by decide +kernel) rfl rfl rfl
      · have heq : nt = 8 := jI_inj (by omega) (by decide) h3
        refine y_aload_n hm rfl rfl ?_
        refine y_ldcI hm rfl (v := (-1000002 : Int32)) (by decide) ?_
        refine y_callV hm rfl rfl (e135 (by decide)) ?_
        refine y_goto hm rfl (t := 54) rfl ?_
        refine y_iret hm rfl rfl (by first | rfl | exact bI_nar | decide) ?_
        exact tR (by unfold kThing; rw [if_neg (by assumption), if_neg (by assumption), if_pos (by assumption)])
    · refine y_aload_n hm rfl rfl ?_
      refine y_ldcI hm rfl (v := (-1000001 : Int32)) (by decide) ?_
      refine y_callV hm rfl rfl (e135 (by decide)) ?_
      refine y_iret hm rfl rfl (by first | rfl | exact bI_nar | decide) ?_
      first
        | (exact tR (by unfold kThing; rw [if_pos (by assumption)]))
        | (exact tR (by unfold kThing; rw [if_neg (by assumption), if_pos (by assumption)]))
theorem fR138 {a1 a2 : Int32} (hI : Inv M) (h67 : M 67 = r) (hG : Gd nt np r) (h6 : M 66 6 = -1) (hz : ∀ s, s < 4 → ∃ k, k ≤ 40 ∧ M 77 s = nI k) (hct : M 66 9 = c) (hk6 : M 66 3 = k6) : ∀ o D, mT X 138 [.ref 66, .int a1, .int a2] (con M) o D → qR M (kThO nt a1 a2) o D := by
  have hV := hG.2.2.1
  have hn8 := hV.1
  have hp8 := hV.2.1
  have hW := hI.1
  have hnt : M 67 1 = nI nt := (congrFun h67 1).trans hG.1
  have hnp : M 67 2 = nI np := (congrFun h67 2).trans hG.2.1
  refine al_of (Q := qR M (kThO nt a1 a2)) (row := _) rfl ?_
  have hm : mMet 138 = some _ := rfl
  refine y_aload_n hm rfl rfl ?_
  refine y_iload_n hm rfl rfl ?_
  refine y_callV hm rfl rfl (t139) ?_
  rw [hnt]
  refine y_if_eq hm rfl (t := 18) rfl (fun h1 => ?_) (fun h1 => ?_)
  · refine y_aload_n hm rfl rfl ?_
    refine y_ldcI hm rfl (v := (-1000001 : Int32)) (by decide) ?_
    refine y_callV hm rfl rfl (e135 (by decide)) ?_
    refine y_iret hm rfl rfl (by first | rfl | exact bI_nar | decide) ?_
    first
      | (exact tR (by unfold kThO; rw [if_pos (by assumption)]))
      | (exact tR (by unfold kThO; rw [if_neg (by assumption), if_pos (by assumption)]))
  · refine y_iload_n hm rfl rfl ?_
    refine y_iconst hm rfl (v := nI 0) (by decide) ?_
    refine y_bipush hm rfl (v := nI 6) (by decide) ?_
    refine y_callS hm rfl rfl (t133) ?_
    refine y_if_ne hm rfl (t := 25) rfl (fun h2 => ?_) (fun h2 => ?_)
    · exact bodyR (fun pc => Nat.ble 25 pc) (by unfold kThO; rw [if_neg (by assumption), if_neg (by assumption)]) (by decide +kernel) rfl rfl rfl
    · refine y_aload_n hm rfl rfl ?_
      refine y_ldcI hm rfl (v := (-1000001 : Int32)) (by decide) ?_
      refine y_callV hm rfl rfl (e135 (by decide)) ?_
      refine y_iret hm rfl rfl (by first | rfl | exact bI_nar | decide) ?_
      first
        | (exact tR (by unfold kThO; rw [if_pos (by assumption)]))
        | (exact tR (by unfold kThO; rw [if_neg (by assumption), if_pos (by assumption)]))
theorem fR149 {a1 a2 a3 : Int32} (hI : Inv M) (h67 : M 67 = r) (hG : Gd nt np r) (h6 : M 66 6 = -1) (hz : ∀ s, s < 4 → ∃ k, k ≤ 40 ∧ M 77 s = nI k) (hct : M 66 9 = c) (hk6 : M 66 3 = k6) : ∀ o D, mT X 149 [.ref 66, .int a1, .int a2, .int a3] (con M) o D → qR M (kForge r nt np a1 a2 a3) o D := by
  have hV := hG.2.2.1
  have hn8 := hV.1
  have hp8 := hV.2.1
  have hW := hI.1
  have hnt : M 67 1 = nI nt := (congrFun h67 1).trans hG.1
  have hnp : M 67 2 = nI np := (congrFun h67 2).trans hG.2.1
  refine al_of (Q := qR M (kForge r nt np a1 a2 a3)) (row := _) rfl ?_
  have hm : mMet 149 = some _ := rfl
  refine y_aload_n hm rfl rfl ?_
  refine y_iload_n hm rfl rfl ?_
  refine y_callV hm rfl rfl (t139) ?_
  rw [hnt]
  refine y_if_eq hm rfl (t := 18) rfl (fun h1 => ?_) (fun h1 => ?_)
  · refine y_aload_n hm rfl rfl ?_
    refine y_ldcI hm rfl (v := (-1000001 : Int32)) (by decide) ?_
    refine y_callV hm rfl rfl (e135 (by decide)) ?_
    refine y_iret hm rfl rfl (by first | rfl | exact bI_nar | decide) ?_
    first
      | (exact tR (by unfold kForge; rw [if_pos (by assumption)]))
      | (exact tR (by unfold kForge; rw [if_neg (by assumption), if_pos (by assumption)]))
  · obtain ⟨t, ht, rfl⟩ := in_k rfl (by omega) (bI_ne0 h1)
    refine y_aload_n hm rfl rfl ?_
    refine y_iload_n hm rfl rfl ?_
    refine y_iload_n hm rfl rfl ?_
    refine y_iload_n hm rfl rfl ?_
    refine y_callV hm rfl rfl (g150 hnt hnp) ?_
    refine y_if_ne hm rfl (t := 25) rfl (fun h2 => ?_) (fun h2 => ?_)
    · have hmf := bI_ne0 h2
      have hz9 : bI (mayF nt np (nI t) a2 a3) ≠ 0 := h2
      obtain ⟨f, hf, rfl⟩ := mayF_f hmf
      refine y_iload_n hm rfl rfl ?_
      refine y_iconst hm rfl (v := nI 5) (by decide) ?_
      refine y_icmp_ne hm rfl (t := 50) rfl (fun h3 => ?_) (fun h3 => ?_)
      · have hnc : ¬ fgC r (nI t) (nI f) a3 := fun z => h3 z.1
        exact bodyR (fun pc => Nat.ble 50 pc) (by unfold kForge; rw [if_neg (by assumption), if_neg (by assumption), if_neg hnc]) (by decide +kernel) rfl rfl rfl
      · obtain rfl : f = 5 := jI_inj (by omega) (by decide) h3
        refine y_iload_n hm rfl rfl ?_
        refine y_if_lt hm rfl (t := 50) rfl (fun h4 => ?_) (fun h4 => ?_)
        · have hnc : ¬ fgC r (nI t) (nI 5) a3 := fun z => (((mayF_5 rfl).mpr hmf).resolve_left z.2.1).1.1 |> fun g => absurd h4 (Int32.not_lt.mpr g)
          exact bodyR (fun pc => Nat.ble 50 pc) (by unfold kForge; rw [if_neg (by assumption), if_neg (by assumption), if_neg hnc]) (by decide +kernel) rfl rfl rfl
        · have hv5 := ((mayF_5 rfl).mpr hmf).resolve_left fun e => h4 (by rw [e]; decide)
          obtain ⟨w9, hw, rfl⟩ := in_k rfl (by omega) hv5.1
          refine y_aload_n hm rfl rfl ?_
          refine y_iload_n hm rfl rfl ?_
          refine y_iload_n hm rfl rfl ?_
          refine y_cVe hm rfl rfl (e154 hI hnt hn8 hw (by omega)) (fun v5 r5 => ?_)
          rw [h67] at r5
          refine y_if_eq hm rfl (t := 50) rfl (fun h6 => ?_) (fun h6 => ?_)
          · have hnc : ¬ fgC r (nI t) (nI 5) (nI w9) := fun z => by
              have z3 := z.2.2
              rw [jI_nat (by omega), jI_nat (by omega)] at z3
              exact r5.elim (fun q => absurd (q.2.symm.trans h6) (by decide)) (fun q => q.1 z3)
            exact bodyR (fun pc => Nat.ble 50 pc) (by unfold kForge; rw [if_neg (by assumption), if_neg (by assumption), if_neg hnc]) (by decide +kernel) rfl rfl rfl
          · have hcy : fgC r (nI t) (nI 5) (nI w9) := ⟨rfl, fun q => absurd (Int32.not_lt.mp (jI_nn (show w9 < 2147483648 by omega))) (by rw [q]; decide), by rw [jI_nat (by omega), jI_nat (by omega)]; exact (r5.resolve_right fun q => h6 q.2).1⟩
            refine y_aload_n hm rfl rfl ?_
            refine y_ldcI hm rfl (v := (-1000005 : Int32)) (by decide) ?_
            refine y_callV hm rfl rfl (e135 (by decide)) ?_
            refine y_iret hm rfl rfl (by first | rfl | exact bI_nar | decide) ?_
            exact tR (by unfold kForge; rw [if_neg (by assumption), if_neg (by assumption), if_pos hcy])
    · refine y_aload_n hm rfl rfl ?_
      refine y_ldcI hm rfl (v := (-1000001 : Int32)) (by decide) ?_
      refine y_callV hm rfl rfl (e135 (by decide)) ?_
      refine y_iret hm rfl rfl (by first | rfl | exact bI_nar | decide) ?_
      first
        | (exact tR (by unfold kForge; rw [if_pos (by assumption)]))
        | (exact tR (by unfold kForge; rw [if_neg (by assumption), if_pos (by assumption)]))
theorem fR156 {a1 a2 : Int32} (hI : Inv M) (h67 : M 67 = r) (hG : Gd nt np r) (h6 : M 66 6 = -1) (hz : ∀ s, s < 4 → ∃ k, k ≤ 40 ∧ M 77 s = nI k) (hct : M 66 9 = c) (hk6 : M 66 3 = k6) : ∀ o D, mT X 156 [.ref 66, .int a1, .int a2] (con M) o D → qR M (kPerson np a1 a2) o D := by
  have hV := hG.2.2.1
  have hn8 := hV.1
  have hp8 := hV.2.1
  have hW := hI.1
  have hnt : M 67 1 = nI nt := (congrFun h67 1).trans hG.1
  have hnp : M 67 2 = nI np := (congrFun h67 2).trans hG.2.1
  refine al_of (Q := qR M (kPerson np a1 a2)) (row := _) rfl ?_
  have hm : mMet 156 = some _ := rfl
  refine y_iload_n hm rfl rfl ?_
  refine y_callS hm rfl rfl (t157) ?_
  refine y_if_eq hm rfl (t := 14) rfl (fun h1 => ?_) (fun h1 => ?_)
  · refine y_aload_n hm rfl rfl ?_
    refine y_ldcI hm rfl (v := (-1000001 : Int32)) (by decide) ?_
    refine y_callV hm rfl rfl (e135 (by decide)) ?_
    refine y_iret hm rfl rfl (by first | rfl | exact bI_nar | decide) ?_
    first
      | (exact tR (by unfold kPerson; rw [if_pos (by assumption)]))
      | (exact tR (by unfold kPerson; rw [if_neg (by assumption), if_pos (by assumption)]))
  · refine y_iload_n hm rfl rfl ?_
    refine y_callS hm rfl rfl (t134) ?_
    refine y_if_ne hm rfl (t := 21) rfl (fun h2 => ?_) (fun h2 => ?_)
    · refine y_aload_n hm rfl rfl ?_
      refine y_getf hm rfl (gR rfl rfl) ?_
      refine y_iconst hm rfl (v := nI 2) (by decide) ?_
      refine y_iald hm rfl (lI rfl (by omega) (by decide)) ?_
      rw [hnp]
      refine y_bipush hm rfl (v := nI 8) (by decide) ?_
      refine y_icmp_ne hm rfl (t := 41) rfl (fun h3 => ?_) (fun h3 => ?_)
      · have hne : ¬ np = 8 := fun e => h3 (by rw [e])
        exact bodyR (fun pc => (Nat.ble 41 pc && Nat.ble pc 45) || Nat.beq pc 48) (by unfold kPerson; rw [if_neg (by assumption), if_neg (by assumption), if_neg (by assumption)]) (by decide +kernel) rfl rfl rfl
      · have heq : np = 8 := jI_inj (by omega) (by decide) h3
        refine y_aload_n hm rfl rfl ?_
        refine y_ldcI hm rfl (v := (-1000002 : Int32)) (by decide) ?_
        refine y_callV hm rfl rfl (e135 (by decide)) ?_
        refine y_goto hm rfl (t := 48) rfl ?_
        refine y_iret hm rfl rfl (by first | rfl | exact bI_nar | decide) ?_
        exact tR (by unfold kPerson; rw [if_neg (by assumption), if_neg (by assumption), if_pos (by assumption)])
    · refine y_aload_n hm rfl rfl ?_
      refine y_ldcI hm rfl (v := (-1000001 : Int32)) (by decide) ?_
      refine y_callV hm rfl rfl (e135 (by decide)) ?_
      refine y_iret hm rfl rfl (by first | rfl | exact bI_nar | decide) ?_
      first
        | (exact tR (by unfold kPerson; rw [if_pos (by assumption)]))
        | (exact tR (by unfold kPerson; rw [if_neg (by assumption), if_pos (by assumption)]))
theorem fR159 {a1 a2 : Int32} (hI : Inv M) (h67 : M 67 = r) (hG : Gd nt np r) (h6 : M 66 6 = -1) (hz : ∀ s, s < 4 → ∃ k, k ≤ 40 ∧ M 77 s = nI k) (hct : M 66 9 = c) (hk6 : M 66 3 = k6) : ∀ o D, mT X 159 [.ref 66, .int a1, .int a2] (con M) o D → qR M (kOf np a1 a2) o D := by
  have hV := hG.2.2.1
  have hn8 := hV.1
  have hp8 := hV.2.1
  have hW := hI.1
  have hnt : M 67 1 = nI nt := (congrFun h67 1).trans hG.1
  have hnp : M 67 2 = nI np := (congrFun h67 2).trans hG.2.1
  refine al_of (Q := qR M (kOf np a1 a2)) (row := _) rfl ?_
  have hm : mMet 159 = some _ := rfl
  refine y_aload_n hm rfl rfl ?_
  refine y_iload_n hm rfl rfl ?_
  refine y_callV hm rfl rfl (t153) ?_
  rw [hnp]
  refine y_if_eq hm rfl (t := 18) rfl (fun h1 => ?_) (fun h1 => ?_)
  · refine y_aload_n hm rfl rfl ?_
    refine y_ldcI hm rfl (v := (-1000001 : Int32)) (by decide) ?_
    refine y_callV hm rfl rfl (e135 (by decide)) ?_
    refine y_iret hm rfl rfl (by first | rfl | exact bI_nar | decide) ?_
    first
      | (exact tR (by unfold kOf; rw [if_pos (by assumption)]))
      | (exact tR (by unfold kOf; rw [if_neg (by assumption), if_pos (by assumption)]))
  · refine y_iload_n hm rfl rfl ?_
    refine y_iconst hm rfl (v := nI 0) (by decide) ?_
    refine y_bipush hm rfl (v := nI 7) (by decide) ?_
    refine y_callS hm rfl rfl (t133) ?_
    refine y_if_ne hm rfl (t := 25) rfl (fun h2 => ?_) (fun h2 => ?_)
    · exact bodyR (fun pc => Nat.ble 25 pc) (by unfold kOf; rw [if_neg (by assumption), if_neg (by assumption)]) (by decide +kernel) rfl rfl rfl
    · refine y_aload_n hm rfl rfl ?_
      refine y_ldcI hm rfl (v := (-1000001 : Int32)) (by decide) ?_
      refine y_callV hm rfl rfl (e135 (by decide)) ?_
      refine y_iret hm rfl rfl (by first | rfl | exact bI_nar | decide) ?_
      first
        | (exact tR (by unfold kOf; rw [if_pos (by assumption)]))
        | (exact tR (by unfold kOf; rw [if_neg (by assumption), if_pos (by assumption)]))
theorem fR161 {a1 a2 a3 : Int32} (hI : Inv M) (h67 : M 67 = r) (hG : Gd nt np r) (h6 : M 66 6 = -1) (hz : ∀ s, s < 4 → ∃ k, k ≤ 40 ∧ M 77 s = nI k) (hct : M 66 9 = c) (hk6 : M 66 3 = k6) : ∀ o D, mT X 161 [.ref 66, .int a1, .int a2, .int a3] (con M) o D → qR M (kChange np a1 a2 a3) o D := by
  have hV := hG.2.2.1
  have hn8 := hV.1
  have hp8 := hV.2.1
  have hW := hI.1
  have hnt : M 67 1 = nI nt := (congrFun h67 1).trans hG.1
  have hnp : M 67 2 = nI np := (congrFun h67 2).trans hG.2.1
  refine al_of (Q := qR M (kChange np a1 a2 a3)) (row := _) rfl ?_
  have hm : mMet 161 = some _ := rfl
  have J52 : ∀ (v4 : Int32) (hv : v4 = bI (mayC a2 a3)), mAl X (qR M (kChange np a1 a2 a3)) 161 52 [some (.ref 66), some (.int a1), some (.int a2), some (.int a3), some (.int v4)] [] (con M) := by
    intro v4 hv
    refine y_aload_n hm rfl rfl ?_
    refine y_iload_n hm rfl rfl ?_
    refine y_callV hm rfl rfl (t153) ?_
    rw [hnp]
    refine y_if_eq hm rfl (t := 78) rfl (fun h1 => ?_) (fun h1 => ?_)
    · refine y_aload_n hm rfl rfl ?_
      refine y_ldcI hm rfl (v := (-1000001 : Int32)) (by decide) ?_
      refine y_callV hm rfl rfl (e135 (by decide)) ?_
      refine y_iret hm rfl rfl (by first | rfl | exact bI_nar | decide) ?_
      first
        | (exact tR (by unfold kChange; rw [if_pos (by assumption)]))
        | (exact tR (by unfold kChange; rw [if_neg (by assumption), if_pos (by assumption)]))
    · refine y_iload hm rfl rfl ?_
      rw [hv]
      refine y_if_eq hm rfl (t := 78) rfl (fun h2 => ?_) (fun h2 => ?_)
      · refine y_aload_n hm rfl rfl ?_
        refine y_ldcI hm rfl (v := (-1000001 : Int32)) (by decide) ?_
        refine y_callV hm rfl rfl (e135 (by decide)) ?_
        refine y_iret hm rfl rfl (by first | rfl | exact bI_nar | decide) ?_
        first
          | (exact tR (by unfold kChange; rw [if_pos (by assumption)]))
          | (exact tR (by unfold kChange; rw [if_neg (by assumption), if_pos (by assumption)]))
      · exact bodyR (fun pc => (Nat.ble 65 pc && Nat.ble pc 75) || Nat.beq pc 84) (by unfold kChange; rw [if_neg (by assumption), if_neg (by assumption)]) (by decide +kernel) rfl rfl rfl
  refine y_iload_n hm rfl rfl ?_
  refine y_if_ne hm rfl (t := 11) rfl (fun h3 => ?_) (fun h3 => ?_)
  · have n0 := h3
    refine y_iload_n hm rfl rfl ?_
    refine y_iconst hm rfl (v := nI 1) (by decide) ?_
    refine y_icmp_eq hm rfl (t := 21) rfl (fun h4 => ?_) (fun h4 => ?_)
    · have hv : bI (nI 0 ≤ a3 ∧ a3 ≤ nI 15) = bI (mayC a2 a3) := bIc (mayC_12 (Or.inl h4))
      refine y_iload_n hm rfl rfl ?_
      refine y_callS hm rfl rfl (t134) ?_
      refine y_goto hm rfl (t := 50) rfl ?_
      refine y_istore hm rfl rfl ?_
      exact J52 _ hv
    · have n1 := h4
      refine y_iload_n hm rfl rfl ?_
      refine y_iconst hm rfl (v := nI 2) (by decide) ?_
      refine y_icmp_ne hm rfl (t := 28) rfl (fun h5 => ?_) (fun h5 => ?_)
      · have n2 := h5
        refine y_iload_n hm rfl rfl ?_
        refine y_iconst hm rfl (v := nI 3) (by decide) ?_
        refine y_bipush hm rfl (v := nI 6) (by decide) ?_
        refine y_callS hm rfl rfl (t133) ?_
        refine y_if_eq hm rfl (t := 49) rfl (fun h6 => ?_) (fun h6 => ?_)
        · have hv : nI 0 = bI (mayC a2 a3) := bI_f fun q => bI_eq0.mp h6 ((mayC_e n0 n1 n2).mp q).1
          refine y_iconst hm rfl (v := nI 0) (by decide) ?_
          refine y_istore hm rfl rfl ?_
          exact J52 _ hv
        · have h36 := bI_ne0 h6
          refine y_iload_n hm rfl rfl ?_
          refine y_callS hm rfl rfl (t152) ?_
          refine y_if_eq hm rfl (t := 49) rfl (fun h7 => ?_) (fun h7 => ?_)
          · have hv : nI 0 = bI (mayC a2 a3) := bI_f fun q => bI_eq0.mp h7 ((mayC_e n0 n1 n2).mp q).2
            refine y_iconst hm rfl (v := nI 0) (by decide) ?_
            refine y_istore hm rfl rfl ?_
            exact J52 _ hv
          · have hv : nI 1 = bI (mayC a2 a3) := bI_t ((mayC_e n0 n1 n2).mpr ⟨h36, bI_ne0 h7⟩)
            refine y_iconst hm rfl (v := nI 1) (by decide) ?_
            refine y_goto hm rfl (t := 50) rfl ?_
            refine y_istore hm rfl rfl ?_
            exact J52 _ hv
      · have hv : bI (nI 0 ≤ a3 ∧ a3 ≤ nI 15) = bI (mayC a2 a3) := bIc (mayC_12 (Or.inr h5))
        refine y_iload_n hm rfl rfl ?_
        refine y_callS hm rfl rfl (t134) ?_
        refine y_goto hm rfl (t := 50) rfl ?_
        refine y_istore hm rfl rfl ?_
        exact J52 _ hv
  · have hv : bI (nI 0 ≤ a3 ∧ a3 ≤ nI 6) = bI (mayC a2 a3) := bIc (mayC_0 h3)
    refine y_iload_n hm rfl rfl ?_
    refine y_callS hm rfl rfl (t157) ?_
    refine y_goto hm rfl (t := 50) rfl ?_
    refine y_istore hm rfl rfl ?_
    exact J52 _ hv
theorem fR162 {a1 a2 : Int32} (hI : Inv M) (h67 : M 67 = r) (hG : Gd nt np r) (h6 : M 66 6 = -1) (hz : ∀ s, s < 4 → ∃ k, k ≤ 40 ∧ M 77 s = nI k) (hct : M 66 9 = c) (hk6 : M 66 3 = k6) : ∀ o D, mT X 162 [.ref 66, .int a1, .int a2] (con M) o D → qR M (kEnvy nt np a1 a2) o D := by
  have hV := hG.2.2.1
  have hn8 := hV.1
  have hp8 := hV.2.1
  have hW := hI.1
  have hnt : M 67 1 = nI nt := (congrFun h67 1).trans hG.1
  have hnp : M 67 2 = nI np := (congrFun h67 2).trans hG.2.1
  refine al_of (Q := qR M (kEnvy nt np a1 a2)) (row := _) rfl ?_
  have hm : mMet 162 = some _ := rfl
  refine y_aload_n hm rfl rfl ?_
  refine y_iload_n hm rfl rfl ?_
  refine y_callV hm rfl rfl (t153) ?_
  rw [hnp]
  refine y_if_eq hm rfl (t := 25) rfl (fun h1 => ?_) (fun h1 => ?_)
  · refine y_aload_n hm rfl rfl ?_
    refine y_ldcI hm rfl (v := (-1000001 : Int32)) (by decide) ?_
    refine y_callV hm rfl rfl (e135 (by decide)) ?_
    refine y_iret hm rfl rfl (by first | rfl | exact bI_nar | decide) ?_
    first
      | (exact tR (by unfold kEnvy; rw [if_pos (by assumption)]))
      | (exact tR (by unfold kEnvy; rw [if_neg (by assumption), if_pos (by assumption)]))
  · refine y_aload_n hm rfl rfl ?_
    refine y_iload_n hm rfl rfl ?_
    refine y_callV hm rfl rfl (t139) ?_
    rw [hnt]
    refine y_if_eq hm rfl (t := 25) rfl (fun h2 => ?_) (fun h2 => ?_)
    · refine y_aload_n hm rfl rfl ?_
      refine y_ldcI hm rfl (v := (-1000001 : Int32)) (by decide) ?_
      refine y_callV hm rfl rfl (e135 (by decide)) ?_
      refine y_iret hm rfl rfl (by first | rfl | exact bI_nar | decide) ?_
      first
        | (exact tR (by unfold kEnvy; rw [if_pos (by assumption)]))
        | (exact tR (by unfold kEnvy; rw [if_neg (by assumption), if_pos (by assumption)]))
    · exact bodyR (fun pc => (Nat.ble 16 pc && Nat.ble pc 22) || Nat.beq pc 31) (by unfold kEnvy; rw [if_neg (by assumption), if_neg (by assumption)]) (by decide +kernel) rfl rfl rfl
theorem fR163 {a1 : Int32} (hI : Inv M) (h67 : M 67 = r) (hG : Gd nt np r) (h6 : M 66 6 = -1) (hz : ∀ s, s < 4 → ∃ k, k ≤ 40 ∧ M 77 s = nI k) (hct : M 66 9 = c) (hk6 : M 66 3 = k6) : ∀ o D, mT X 163 [.ref 66, .int a1] (con M) o D → qR M (kGo r 60 a1) o D := by
  have hV := hG.2.2.1
  have hn8 := hV.1
  have hp8 := hV.2.1
  have hW := hI.1
  have hnt : M 67 1 = nI nt := (congrFun h67 1).trans hG.1
  have hnp : M 67 2 = nI np := (congrFun h67 2).trans hG.2.1
  refine al_of (Q := qR M (kGo r 60 a1)) (row := _) rfl ?_
  have hm : mMet 163 = some _ := rfl
  refine y_iload_n hm rfl rfl ?_
  refine y_iconst hm rfl (v := nI 1) (by decide) ?_
  refine y_bipush hm rfl (v := nI 60) (by decide) ?_
  refine y_callS hm rfl rfl (t133) ?_
  refine y_if_ne hm rfl (t := 17) rfl (fun h1 => ?_) (fun h1 => ?_)
  · refine y_aload_n hm rfl rfl ?_
    refine y_getf hm rfl (gR rfl rfl) ?_
    refine y_iconst hm rfl (v := nI 0) (by decide) ?_
    refine y_iald hm rfl (lI rfl (by omega) (by decide)) ?_
    rw [h67]
    refine y_iload_n hm rfl rfl ?_
    refine y_iadd hm rfl ?_
    refine y_ldcI hm rfl (v := nI 99999) (by decide) ?_
    refine y_icmp_le hm rfl (t := 37) rfl (fun h2 => ?_) (fun h2 => ?_)
    · have hng : ¬ nI 99999 < r 0 + a1 := Int32.not_lt.mpr h2
      exact bodyR (fun pc => Nat.ble 37 pc) (by unfold kGo; rw [if_neg (by assumption), if_neg (by assumption)]) (by decide +kernel) rfl rfl rfl
    · have hps : nI 99999 < r 0 + a1 := Int32.not_le.mp h2
      refine y_aload_n hm rfl rfl ?_
      refine y_ldcI hm rfl (v := (-1000005 : Int32)) (by decide) ?_
      refine y_callV hm rfl rfl (e135 (by decide)) ?_
      refine y_iret hm rfl rfl (by first | rfl | exact bI_nar | decide) ?_
      exact tR (by unfold kGo; rw [if_neg (by assumption), if_pos (by assumption)])
  · refine y_aload_n hm rfl rfl ?_
    refine y_ldcI hm rfl (v := (-1000001 : Int32)) (by decide) ?_
    refine y_callV hm rfl rfl (e135 (by decide)) ?_
    refine y_iret hm rfl rfl (by first | rfl | exact bI_nar | decide) ?_
    exact tR (by unfold kGo; rw [if_pos (by assumption)])
theorem fR214 {a1 : Int32} (hI : Inv M) (h67 : M 67 = r) (hG : Gd nt np r) (h6 : M 66 6 = -1) (hz : ∀ s, s < 4 → ∃ k, k ≤ 40 ∧ M 77 s = nI k) (hct : M 66 9 = c) (hk6 : M 66 3 = k6) : ∀ o D, mT X 214 [.ref 66, .int a1] (con M) o D → qR M (kGo r 20 a1) o D := by
  have hV := hG.2.2.1
  have hn8 := hV.1
  have hp8 := hV.2.1
  have hW := hI.1
  have hnt : M 67 1 = nI nt := (congrFun h67 1).trans hG.1
  have hnp : M 67 2 = nI np := (congrFun h67 2).trans hG.2.1
  refine al_of (Q := qR M (kGo r 20 a1)) (row := _) rfl ?_
  have hm : mMet 214 = some _ := rfl
  refine y_iload_n hm rfl rfl ?_
  refine y_iconst hm rfl (v := nI 1) (by decide) ?_
  refine y_bipush hm rfl (v := nI 20) (by decide) ?_
  refine y_callS hm rfl rfl (t133) ?_
  refine y_if_ne hm rfl (t := 17) rfl (fun h1 => ?_) (fun h1 => ?_)
  · refine y_aload_n hm rfl rfl ?_
    refine y_getf hm rfl (gR rfl rfl) ?_
    refine y_iconst hm rfl (v := nI 0) (by decide) ?_
    refine y_iald hm rfl (lI rfl (by omega) (by decide)) ?_
    rw [h67]
    refine y_iload_n hm rfl rfl ?_
    refine y_iadd hm rfl ?_
    refine y_ldcI hm rfl (v := nI 99999) (by decide) ?_
    refine y_icmp_le hm rfl (t := 37) rfl (fun h2 => ?_) (fun h2 => ?_)
    · have hng : ¬ nI 99999 < r 0 + a1 := Int32.not_lt.mpr h2
      exact bodyR (fun pc => Nat.ble 37 pc) (by unfold kGo; rw [if_neg (by assumption), if_neg (by assumption)]) (by decide +kernel) rfl rfl rfl
    · have hps : nI 99999 < r 0 + a1 := Int32.not_le.mp h2
      refine y_aload_n hm rfl rfl ?_
      refine y_ldcI hm rfl (v := (-1000005 : Int32)) (by decide) ?_
      refine y_callV hm rfl rfl (e135 (by decide)) ?_
      refine y_iret hm rfl rfl (by first | rfl | exact bI_nar | decide) ?_
      exact tR (by unfold kGo; rw [if_neg (by assumption), if_pos (by assumption)])
  · refine y_aload_n hm rfl rfl ?_
    refine y_ldcI hm rfl (v := (-1000001 : Int32)) (by decide) ?_
    refine y_callV hm rfl rfl (e135 (by decide)) ?_
    refine y_iret hm rfl rfl (by first | rfl | exact bI_nar | decide) ?_
    exact tR (by unfold kGo; rw [if_pos (by assumption)])
theorem fR169 {a1 : Int32} (hI : Inv M) (h67 : M 67 = r) (hG : Gd nt np r) (h6 : M 66 6 = -1) (hz : ∀ s, s < 4 → ∃ k, k ≤ 40 ∧ M 77 s = nI k) (hct : M 66 9 = c) (hk6 : M 66 3 = k6) : ∀ o D, mT X 169 [.ref 66, .int a1] (con M) o D → qR M (kOut 4 a1) o D := by
  have hV := hG.2.2.1
  have hn8 := hV.1
  have hp8 := hV.2.1
  have hW := hI.1
  have hnt : M 67 1 = nI nt := (congrFun h67 1).trans hG.1
  have hnp : M 67 2 = nI np := (congrFun h67 2).trans hG.2.1
  refine al_of (Q := qR M (kOut 4 a1)) (row := _) rfl ?_
  have hm : mMet 169 = some _ := rfl
  refine y_iconst hm rfl (v := nI 0) (by decide) ?_
  refine y_istore_n hm rfl rfl ?_
  refine y_iload_n hm rfl rfl ?_
  refine y_ts hm rfl (fun h1 => ⟨124, rfl, ?_⟩) (fun i1 h1 g1 => ?_)
  · refine y_aload_n hm rfl rfl ?_
    refine y_ldcI hm rfl (v := (-1000001 : Int32)) (by decide) ?_
    refine y_callV hm rfl rfl (e135 (by decide)) ?_
    refine y_iret hm rfl rfl (by first | rfl | exact bI_nar | decide) ?_
    exact tR (by unfold kOut; rw [if_pos (by assumption)])
  · have k1 : i1 = 0 ∨ i1 = 1 ∨ i1 = 2 ∨ i1 = 3 ∨ i1 = 4 := by omega
    rcases k1 with rfl | rfl | rfl | rfl | rfl
    · refine ⟨_, 36, rfl, rfl, ?_⟩
      exact bodyR (fun pc => Nat.ble 36 pc && Nat.ble pc 123) (by unfold kOut; rw [if_neg (by omega)]) (by decide +kernel) rfl rfl rfl
    · refine ⟨_, 43, rfl, rfl, ?_⟩
      exact bodyR (fun pc => Nat.ble 36 pc && Nat.ble pc 123) (by unfold kOut; rw [if_neg (by omega)]) (by decide +kernel) rfl rfl rfl
    · refine ⟨_, 48, rfl, rfl, ?_⟩
      exact bodyR (fun pc => Nat.ble 36 pc && Nat.ble pc 123) (by unfold kOut; rw [if_neg (by omega)]) (by decide +kernel) rfl rfl rfl
    · refine ⟨_, 53, rfl, rfl, ?_⟩
      exact bodyR (fun pc => Nat.ble 36 pc && Nat.ble pc 123) (by unfold kOut; rw [if_neg (by omega)]) (by decide +kernel) rfl rfl rfl
    · refine ⟨_, 81, rfl, rfl, ?_⟩
      exact bodyR (fun pc => Nat.ble 36 pc && Nat.ble pc 123) (by unfold kOut; rw [if_neg (by omega)]) (by decide +kernel) rfl rfl rfl
theorem fR243 {a1 : Int32} (hI : Inv M) (h67 : M 67 = r) (hG : Gd nt np r) (h6 : M 66 6 = -1) (hz : ∀ s, s < 4 → ∃ k, k ≤ 40 ∧ M 77 s = nI k) (hct : M 66 9 = c) (hk6 : M 66 3 = k6) : ∀ o D, mT X 243 [.ref 66, .int a1] (con M) o D → qR M (kOut 7 a1) o D := by
  have hV := hG.2.2.1
  have hn8 := hV.1
  have hp8 := hV.2.1
  have hW := hI.1
  have hnt : M 67 1 = nI nt := (congrFun h67 1).trans hG.1
  have hnp : M 67 2 = nI np := (congrFun h67 2).trans hG.2.1
  refine al_of (Q := qR M (kOut 7 a1)) (row := _) rfl ?_
  have hm : mMet 243 = some _ := rfl
  refine y_iconst hm rfl (v := nI 0) (by decide) ?_
  refine y_istore_n hm rfl rfl ?_
  refine y_iload_n hm rfl rfl ?_
  refine y_ts hm rfl (fun h1 => ⟨129, rfl, ?_⟩) (fun i1 h1 g1 => ?_)
  · refine y_aload_n hm rfl rfl ?_
    refine y_ldcI hm rfl (v := (-1000001 : Int32)) (by decide) ?_
    refine y_callV hm rfl rfl (e135 (by decide)) ?_
    refine y_iret hm rfl rfl (by first | rfl | exact bI_nar | decide) ?_
    exact tR (by unfold kOut; rw [if_pos (by assumption)])
  · have k1 : i1 = 0 ∨ i1 = 1 ∨ i1 = 2 ∨ i1 = 3 ∨ i1 = 4 ∨ i1 = 5 ∨ i1 = 6 ∨ i1 = 7 := by omega
    rcases k1 with rfl | rfl | rfl | rfl | rfl | rfl | rfl | rfl
    · refine ⟨_, 48, rfl, rfl, ?_⟩
      exact bodyR (fun pc => Nat.ble 48 pc && Nat.ble pc 128) (by unfold kOut; rw [if_neg (by omega)]) (by decide +kernel) rfl rfl rfl
    · refine ⟨_, 55, rfl, rfl, ?_⟩
      exact bodyR (fun pc => Nat.ble 48 pc && Nat.ble pc 128) (by unfold kOut; rw [if_neg (by omega)]) (by decide +kernel) rfl rfl rfl
    · refine ⟨_, 62, rfl, rfl, ?_⟩
      exact bodyR (fun pc => Nat.ble 48 pc && Nat.ble pc 128) (by unfold kOut; rw [if_neg (by omega)]) (by decide +kernel) rfl rfl rfl
    · refine ⟨_, 69, rfl, rfl, ?_⟩
      exact bodyR (fun pc => Nat.ble 48 pc && Nat.ble pc 128) (by unfold kOut; rw [if_neg (by omega)]) (by decide +kernel) rfl rfl rfl
    · refine ⟨_, 77, rfl, rfl, ?_⟩
      exact bodyR (fun pc => Nat.ble 48 pc && Nat.ble pc 128) (by unfold kOut; rw [if_neg (by omega)]) (by decide +kernel) rfl rfl rfl
    · refine ⟨_, 82, rfl, rfl, ?_⟩
      exact bodyR (fun pc => Nat.ble 48 pc && Nat.ble pc 128) (by unfold kOut; rw [if_neg (by omega)]) (by decide +kernel) rfl rfl rfl
    · refine ⟨_, 87, rfl, rfl, ?_⟩
      exact bodyR (fun pc => Nat.ble 48 pc && Nat.ble pc 128) (by unfold kOut; rw [if_neg (by omega)]) (by decide +kernel) rfl rfl rfl
    · refine ⟨_, 94, rfl, rfl, ?_⟩
      exact bodyR (fun pc => Nat.ble 48 pc && Nat.ble pc 128) (by unfold kOut; rw [if_neg (by omega)]) (by decide +kernel) rfl rfl rfl
theorem fR193 {a1 : Int32} (hI : Inv M) (h67 : M 67 = r) (hG : Gd nt np r) (h6 : M 66 6 = -1) (hz : ∀ s, s < 4 → ∃ k, k ≤ 40 ∧ M 77 s = nI k) (hct : M 66 9 = c) (hk6 : M 66 3 = k6) : ∀ o D, mT X 193 [.ref 66, .int a1] (con M) o D → qR M (kT nt a1) o D := by
  have hV := hG.2.2.1
  have hn8 := hV.1
  have hp8 := hV.2.1
  have hW := hI.1
  have hnt : M 67 1 = nI nt := (congrFun h67 1).trans hG.1
  have hnp : M 67 2 = nI np := (congrFun h67 2).trans hG.2.1
  refine al_of (Q := qR M (kT nt a1)) (row := _) rfl ?_
  have hm : mMet 193 = some _ := rfl
  refine y_aload_n hm rfl rfl ?_
  refine y_iload_n hm rfl rfl ?_
  refine y_callV hm rfl rfl (t139) ?_
  rw [hnt]
  refine y_if_eq hm rfl (t := 16) rfl (fun h1 => ?_) (fun h1 => ?_)
  · refine y_aload_n hm rfl rfl ?_
    refine y_ldcI hm rfl (v := (-1000001 : Int32)) (by decide) ?_
    refine y_callV hm rfl rfl (e135 (by decide)) ?_
    refine y_iret hm rfl rfl (by first | rfl | exact bI_nar | decide) ?_
    exact tR (by unfold kT; rw [if_pos (by assumption)])
  · exact bodyR (fun pc => (Nat.ble 8 pc && Nat.ble pc 13) || Nat.beq pc 22) (by unfold kT; rw [if_neg (by assumption)]) (by decide +kernel) rfl rfl rfl
theorem fR195 {a1 : Int32} (hI : Inv M) (h67 : M 67 = r) (hG : Gd nt np r) (h6 : M 66 6 = -1) (hz : ∀ s, s < 4 → ∃ k, k ≤ 40 ∧ M 77 s = nI k) (hct : M 66 9 = c) (hk6 : M 66 3 = k6) : ∀ o D, mT X 195 [.ref 66, .int a1] (con M) o D → qR M (kT nt a1) o D := by
  have hV := hG.2.2.1
  have hn8 := hV.1
  have hp8 := hV.2.1
  have hW := hI.1
  have hnt : M 67 1 = nI nt := (congrFun h67 1).trans hG.1
  have hnp : M 67 2 = nI np := (congrFun h67 2).trans hG.2.1
  refine al_of (Q := qR M (kT nt a1)) (row := _) rfl ?_
  have hm : mMet 195 = some _ := rfl
  refine y_aload_n hm rfl rfl ?_
  refine y_iload_n hm rfl rfl ?_
  refine y_callV hm rfl rfl (t139) ?_
  rw [hnt]
  refine y_if_ne hm rfl (t := 15) rfl (fun h1 => ?_) (fun h1 => ?_)
  · exact bodyR (fun pc => Nat.ble 15 pc) (by unfold kT; rw [if_neg (by assumption)]) (by decide +kernel) rfl rfl rfl
  · refine y_aload_n hm rfl rfl ?_
    refine y_ldcI hm rfl (v := (-1000001 : Int32)) (by decide) ?_
    refine y_callV hm rfl rfl (e135 (by decide)) ?_
    refine y_iret hm rfl rfl (by first | rfl | exact bI_nar | decide) ?_
    exact tR (by unfold kT; rw [if_pos (by assumption)])
theorem fR198 {a1 a2 : Int32} (hI : Inv M) (h67 : M 67 = r) (hG : Gd nt np r) (h6 : M 66 6 = -1) (hz : ∀ s, s < 4 → ∃ k, k ≤ 40 ∧ M 77 s = nI k) (hct : M 66 9 = c) (hk6 : M 66 3 = k6) : ∀ o D, mT X 198 [.ref 66, .int a1, .int a2] (con M) o D → qR M (kWorth nt np a1 a2) o D := by
  have hV := hG.2.2.1
  have hn8 := hV.1
  have hp8 := hV.2.1
  have hW := hI.1
  have hnt : M 67 1 = nI nt := (congrFun h67 1).trans hG.1
  have hnp : M 67 2 = nI np := (congrFun h67 2).trans hG.2.1
  refine al_of (Q := qR M (kWorth nt np a1 a2)) (row := _) rfl ?_
  have hm : mMet 198 = some _ := rfl
  refine y_aload_n hm rfl rfl ?_
  refine y_iload_n hm rfl rfl ?_
  refine y_callV hm rfl rfl (t153) ?_
  rw [hnp]
  refine y_if_eq hm rfl (t := 25) rfl (fun h1 => ?_) (fun h1 => ?_)
  · refine y_aload_n hm rfl rfl ?_
    refine y_ldcI hm rfl (v := (-1000001 : Int32)) (by decide) ?_
    refine y_callV hm rfl rfl (e135 (by decide)) ?_
    refine y_iret hm rfl rfl (by first | rfl | exact bI_nar | decide) ?_
    first
      | (exact tR (by unfold kWorth; rw [if_pos (by assumption)]))
      | (exact tR (by unfold kWorth; rw [if_neg (by assumption), if_pos (by assumption)]))
  · refine y_aload_n hm rfl rfl ?_
    refine y_iload_n hm rfl rfl ?_
    refine y_callV hm rfl rfl (t199 hnt hn8) ?_
    refine y_if_eq hm rfl (t := 25) rfl (fun h2 => ?_) (fun h2 => ?_)
    · refine y_aload_n hm rfl rfl ?_
      refine y_ldcI hm rfl (v := (-1000001 : Int32)) (by decide) ?_
      refine y_callV hm rfl rfl (e135 (by decide)) ?_
      refine y_iret hm rfl rfl (by first | rfl | exact bI_nar | decide) ?_
      first
        | (exact tR (by unfold kWorth; rw [if_pos (by assumption)]))
        | (exact tR (by unfold kWorth; rw [if_neg (by assumption), if_pos (by assumption)]))
    · exact bodyR (fun pc => (Nat.ble 16 pc && Nat.ble pc 22) || Nat.beq pc 31) (by unfold kWorth; rw [if_neg (by assumption), if_neg (by assumption)]) (by decide +kernel) rfl rfl rfl
theorem fR204 {a1 a2 a3 : Int32} (hI : Inv M) (h67 : M 67 = r) (hG : Gd nt np r) (h6 : M 66 6 = -1) (hz : ∀ s, s < 4 → ∃ k, k ≤ 40 ∧ M 77 s = nI k) (hct : M 66 9 = c) (hk6 : M 66 3 = k6) : ∀ o D, mT X 204 [.ref 66, .int a1, .int a2, .int a3] (con M) o D → qR M (kCD nt np a1 a2 a3) o D := by
  have hV := hG.2.2.1
  have hn8 := hV.1
  have hp8 := hV.2.1
  have hW := hI.1
  have hnt : M 67 1 = nI nt := (congrFun h67 1).trans hG.1
  have hnp : M 67 2 = nI np := (congrFun h67 2).trans hG.2.1
  refine al_of (Q := qR M (kCD nt np a1 a2 a3)) (row := _) rfl ?_
  have hm : mMet 204 = some _ := rfl
  refine y_aload_n hm rfl rfl ?_
  refine y_iload_n hm rfl rfl ?_
  refine y_iload_n hm rfl rfl ?_
  refine y_iload_n hm rfl rfl ?_
  refine y_callV hm rfl rfl (gr202 hnt hn8 hnp) ?_
  refine y_if_eq hm rfl (t := 20) rfl (fun h1 => ?_) (fun h1 => ?_)
  · refine y_aload_n hm rfl rfl ?_
    refine y_ldcI hm rfl (v := (-1000001 : Int32)) (by decide) ?_
    refine y_callV hm rfl rfl (e135 (by decide)) ?_
    refine y_iret hm rfl rfl (by first | rfl | exact bI_nar | decide) ?_
    exact tR (by unfold kCD; rw [if_pos (by assumption)])
  · exact bodyR (fun pc => (Nat.ble 10 pc && Nat.ble pc 17) || Nat.beq pc 26) (by unfold kCD; rw [if_neg (by assumption)]) (by decide +kernel) rfl rfl rfl
theorem fR206 {a1 a2 a3 : Int32} (hI : Inv M) (h67 : M 67 = r) (hG : Gd nt np r) (h6 : M 66 6 = -1) (hz : ∀ s, s < 4 → ∃ k, k ≤ 40 ∧ M 77 s = nI k) (hct : M 66 9 = c) (hk6 : M 66 3 = k6) : ∀ o D, mT X 206 [.ref 66, .int a1, .int a2, .int a3] (con M) o D → qR M (kCD nt np a1 a2 a3) o D := by
  have hV := hG.2.2.1
  have hn8 := hV.1
  have hp8 := hV.2.1
  have hW := hI.1
  have hnt : M 67 1 = nI nt := (congrFun h67 1).trans hG.1
  have hnp : M 67 2 = nI np := (congrFun h67 2).trans hG.2.1
  refine al_of (Q := qR M (kCD nt np a1 a2 a3)) (row := _) rfl ?_
  have hm : mMet 206 = some _ := rfl
  refine y_aload_n hm rfl rfl ?_
  refine y_iload_n hm rfl rfl ?_
  refine y_iload_n hm rfl rfl ?_
  refine y_iload_n hm rfl rfl ?_
  refine y_callV hm rfl rfl (gr202 hnt hn8 hnp) ?_
  refine y_if_ne hm rfl (t := 17) rfl (fun h1 => ?_) (fun h1 => ?_)
  · exact bodyR (fun pc => Nat.ble 17 pc) (by unfold kCD; rw [if_neg (by assumption)]) (by decide +kernel) rfl rfl rfl
  · refine y_aload_n hm rfl rfl ?_
    refine y_ldcI hm rfl (v := (-1000001 : Int32)) (by decide) ?_
    refine y_callV hm rfl rfl (e135 (by decide)) ?_
    refine y_iret hm rfl rfl (by first | rfl | exact bI_nar | decide) ?_
    exact tR (by unfold kCD; rw [if_pos (by assumption)])
theorem fR216 {a1 a2 : Int32} (hI : Inv M) (h67 : M 67 = r) (hG : Gd nt np r) (h6 : M 66 6 = -1) (hz : ∀ s, s < 4 → ∃ k, k ≤ 40 ∧ M 77 s = nI k) (hct : M 66 9 = c) (hk6 : M 66 3 = k6) : ∀ o D, mT X 216 [.ref 66, .int a1, .int a2] (con M) o D → qR M (kOdds a1 a2) o D := by
  have hV := hG.2.2.1
  have hn8 := hV.1
  have hp8 := hV.2.1
  have hW := hI.1
  have hnt : M 67 1 = nI nt := (congrFun h67 1).trans hG.1
  have hnp : M 67 2 = nI np := (congrFun h67 2).trans hG.2.1
  refine al_of (Q := qR M (kOdds a1 a2)) (row := _) rfl ?_
  have hm : mMet 216 = some _ := rfl
  refine y_iload_n hm rfl rfl ?_
  refine y_iconst hm rfl (v := nI 0) (by decide) ?_
  refine y_bipush hm rfl (v := nI 14) (by decide) ?_
  refine y_callS hm rfl rfl (t133) ?_
  refine y_if_eq hm rfl (t := 19) rfl (fun h1 => ?_) (fun h1 => ?_)
  · refine y_aload_n hm rfl rfl ?_
    refine y_ldcI hm rfl (v := (-1000001 : Int32)) (by decide) ?_
    refine y_callV hm rfl rfl (e135 (by decide)) ?_
    refine y_i2l hm rfl ?_
    refine y_lret hm rfl rfl ?_
    first
      | (exact tR (by unfold kOdds; rw [if_pos (by assumption)]))
      | (exact tR (by unfold kOdds; rw [if_neg (by assumption), if_pos (by assumption)]))
  · refine y_iload_n hm rfl rfl ?_
    refine y_iconst hm rfl (v := nI 0) (by decide) ?_
    refine y_iconst hm rfl (v := nI 1) (by decide) ?_
    refine y_callS hm rfl rfl (t133) ?_
    refine y_if_ne hm rfl (t := 27) rfl (fun h2 => ?_) (fun h2 => ?_)
    · exact bodyR (fun pc => Nat.ble 27 pc) (by unfold kOdds; rw [if_neg (by assumption), if_neg (by assumption)]) (by decide +kernel) rfl rfl rfl
    · refine y_aload_n hm rfl rfl ?_
      refine y_ldcI hm rfl (v := (-1000001 : Int32)) (by decide) ?_
      refine y_callV hm rfl rfl (e135 (by decide)) ?_
      refine y_i2l hm rfl ?_
      refine y_lret hm rfl rfl ?_
      first
        | (exact tR (by unfold kOdds; rw [if_pos (by assumption)]))
        | (exact tR (by unfold kOdds; rw [if_neg (by assumption), if_pos (by assumption)]))
theorem fR218 {a1 a2 : Int32} (hI : Inv M) (h67 : M 67 = r) (hG : Gd nt np r) (h6 : M 66 6 = -1) (hz : ∀ s, s < 4 → ∃ k, k ≤ 40 ∧ M 77 s = nI k) (hct : M 66 9 = c) (hk6 : M 66 3 = k6) : ∀ o D, mT X 218 [.ref 66, .int a1, .int a2] (con M) o D → qR M (kFeed c a1 a2) o D := by
  have hV := hG.2.2.1
  have hn8 := hV.1
  have hp8 := hV.2.1
  have hW := hI.1
  have hnt : M 67 1 = nI nt := (congrFun h67 1).trans hG.1
  have hnp : M 67 2 = nI np := (congrFun h67 2).trans hG.2.1
  refine al_of (Q := qR M (kFeed c a1 a2)) (row := _) rfl ?_
  have hm : mMet 218 = some _ := rfl
  refine y_iload_n hm rfl rfl ?_
  refine y_iconst hm rfl (v := nI 1) (by decide) ?_
  refine y_iconst hm rfl (v := nI 4) (by decide) ?_
  refine y_callS hm rfl rfl (t133) ?_
  refine y_if_ne hm rfl (t := 16) rfl (fun h1 => ?_) (fun h1 => ?_)
  · refine y_aload_n hm rfl rfl ?_
    refine y_getf hm rfl (gI rfl rfl) ?_
    rw [hct]
    refine y_iload_n hm rfl rfl ?_
    refine y_iadd hm rfl ?_
    refine y_bipush hm rfl (v := nI 120) (by decide) ?_
    refine y_icmp_le hm rfl (t := 34) rfl (fun h2 => ?_) (fun h2 => ?_)
    · have hng : ¬ nI 120 < c + a2 := Int32.not_lt.mpr h2
      exact bodyR (fun pc => Nat.ble 34 pc) (by unfold kFeed; rw [if_neg (by assumption), if_neg (by assumption)]) (by decide +kernel) rfl rfl rfl
    · have hps : nI 120 < c + a2 := Int32.not_le.mp h2
      refine y_aload_n hm rfl rfl ?_
      refine y_ldcI hm rfl (v := (-1000002 : Int32)) (by decide) ?_
      refine y_callV hm rfl rfl (e135 (by decide)) ?_
      refine y_iret hm rfl rfl (by first | rfl | exact bI_nar | decide) ?_
      exact tR (by unfold kFeed; rw [if_neg (by assumption), if_pos (by assumption)])
  · refine y_aload_n hm rfl rfl ?_
    refine y_ldcI hm rfl (v := (-1000001 : Int32)) (by decide) ?_
    refine y_callV hm rfl rfl (e135 (by decide)) ?_
    refine y_iret hm rfl rfl (by first | rfl | exact bI_nar | decide) ?_
    exact tR (by unfold kFeed; rw [if_pos (by assumption)])
theorem fR231 {a1 a2 : Int32} (hI : Inv M) (h67 : M 67 = r) (hG : Gd nt np r) (h6 : M 66 6 = -1) (hz : ∀ s, s < 4 → ∃ k, k ≤ 40 ∧ M 77 s = nI k) (hct : M 66 9 = c) (hk6 : M 66 3 = k6) : ∀ o D, mT X 231 [.ref 66, .int a1, .int a2] (con M) o D → qR M (kHold np a1 a2) o D := by
  have hV := hG.2.2.1
  have hn8 := hV.1
  have hp8 := hV.2.1
  have hW := hI.1
  have hnt : M 67 1 = nI nt := (congrFun h67 1).trans hG.1
  have hnp : M 67 2 = nI np := (congrFun h67 2).trans hG.2.1
  refine al_of (Q := qR M (kHold np a1 a2)) (row := _) rfl ?_
  have hm : mMet 231 = some _ := rfl
  refine y_iload_n hm rfl rfl ?_
  refine y_callS hm rfl rfl (t232) ?_
  refine y_if_eq hm rfl (t := 20) rfl (fun h1 => ?_) (fun h1 => ?_)
  · refine y_aload_n hm rfl rfl ?_
    refine y_ldcI hm rfl (v := (-1000001 : Int32)) (by decide) ?_
    refine y_callV hm rfl rfl (e135 (by decide)) ?_
    refine y_iret hm rfl rfl (by first | rfl | exact bI_nar | decide) ?_
    first
      | (exact tR (by unfold kHold; rw [if_pos (by assumption)]))
      | (exact tR (by unfold kHold; rw [if_neg (by assumption), if_neg (by assumption), if_pos (by assumption)]))
  · refine y_iload_n hm rfl rfl ?_
    refine y_iconst hm rfl (v := (-1 : Int32)) (by decide) ?_
    refine y_icmp_eq hm rfl (t := 27) rfl (fun h2 => ?_) (fun h2 => ?_)
    · first
        | (exact bodyR (fun pc => Nat.ble 27 pc) (by unfold kHold; rw [if_neg (by assumption), if_pos (by assumption)]) (by decide +kernel) rfl rfl rfl)
        | (exact bodyR (fun pc => Nat.ble 27 pc) (by unfold kHold; rw [if_neg (by assumption), if_neg (by assumption), if_neg (by assumption)]) (by decide +kernel) rfl rfl rfl)
    · refine y_aload_n hm rfl rfl ?_
      refine y_iload_n hm rfl rfl ?_
      refine y_callV hm rfl rfl (t153) ?_
      rw [hnp]
      refine y_if_ne hm rfl (t := 27) rfl (fun h3 => ?_) (fun h3 => ?_)
      · first
          | (exact bodyR (fun pc => Nat.ble 27 pc) (by unfold kHold; rw [if_neg (by assumption), if_pos (by assumption)]) (by decide +kernel) rfl rfl rfl)
          | (exact bodyR (fun pc => Nat.ble 27 pc) (by unfold kHold; rw [if_neg (by assumption), if_neg (by assumption), if_neg (by assumption)]) (by decide +kernel) rfl rfl rfl)
      · refine y_aload_n hm rfl rfl ?_
        refine y_ldcI hm rfl (v := (-1000001 : Int32)) (by decide) ?_
        refine y_callV hm rfl rfl (e135 (by decide)) ?_
        refine y_iret hm rfl rfl (by first | rfl | exact bI_nar | decide) ?_
        first
          | (exact tR (by unfold kHold; rw [if_pos (by assumption)]))
          | (exact tR (by unfold kHold; rw [if_neg (by assumption), if_neg (by assumption), if_pos (by assumption)]))
theorem fR233 {a1 a2 : Int32} (hI : Inv M) (h67 : M 67 = r) (hG : Gd nt np r) (h6 : M 66 6 = -1) (hz : ∀ s, s < 4 → ∃ k, k ≤ 40 ∧ M 77 s = nI k) (hct : M 66 9 = c) (hk6 : M 66 3 = k6) : ∀ o D, mT X 233 [.ref 66, .int a1, .int a2] (con M) o D → qR M (kAs r a1 a2) o D := by
  have hV := hG.2.2.1
  have hn8 := hV.1
  have hp8 := hV.2.1
  have hW := hI.1
  have hnt : M 67 1 = nI nt := (congrFun h67 1).trans hG.1
  have hnp : M 67 2 = nI np := (congrFun h67 2).trans hG.2.1
  refine al_of (Q := qR M (kAs r a1 a2)) (row := _) rfl ?_
  have hm : mMet 233 = some _ := rfl
  refine y_iload_n hm rfl rfl ?_
  refine y_callS hm rfl rfl (t232) ?_
  refine y_if_eq hm rfl (t := 14) rfl (fun h1 => ?_) (fun h1 => ?_)
  · refine y_aload_n hm rfl rfl ?_
    refine y_ldcI hm rfl (v := (-1000001 : Int32)) (by decide) ?_
    refine y_callV hm rfl rfl (e135 (by decide)) ?_
    refine y_iret hm rfl rfl (by first | rfl | exact bI_nar | decide) ?_
    first
      | (exact tR (by unfold kAs; rw [if_pos (by assumption)]))
      | (exact tR (by unfold kAs; rw [if_neg (by assumption), if_pos (by assumption)]))
  · obtain ⟨s, hs, rfl⟩ := le_k (by omega) (bI_ne0 h1)
    refine y_iload_n hm rfl rfl ?_
    refine y_callS hm rfl rfl (t157) ?_
    refine y_if_ne hm rfl (t := 21) rfl (fun h2 => ?_) (fun h2 => ?_)
    · refine y_aload_n hm rfl rfl ?_
      refine y_getf hm rfl (gR rfl rfl) ?_
      refine y_iconst hm rfl (v := nI 4) (by decide) ?_
      refine y_iload_n hm rfl rfl ?_
      refine y_iadd hm rfl ?_
      rw [jI_add]
      refine y_iald hm rfl (lI rfl (by omega) (by decide)) ?_
      rw [h67]
      refine y_istore_n hm rfl rfl ?_
      refine y_iload_n hm rfl rfl ?_
      refine y_if_ge hm rfl (t := 41) rfl (fun h3 => ?_) (fun h3 => ?_)
      · have ny : ¬ r (4 + s) = -1 := fun e => absurd h3 (by rw [e]; decide)
        obtain ⟨p, hp, ep⟩ := (hG.2.2.2.2.1 s (by omega)).resolve_left ny
        rw [ep]
        obtain ⟨kd, hkd, ekd⟩ := hV.kind hp
        refine y_aload_n hm rfl rfl ?_
        refine y_iload_n hm rfl rfl ?_
        refine y_iconst hm rfl (v := nI 0) (by decide) ?_
        refine y_callV hm rfl rfl (t141 (by omega) (by omega)) ?_
        rw [h67]
        refine y_iload_n hm rfl rfl ?_
        refine y_callS hm rfl rfl (e147) ?_
        refine y_if_eq hm rfl (t := 58) rfl (fun h4 => ?_) (fun h4 => ?_)
        · have nu9 := bI_eq0.mp h4
          refine y_aload_n hm rfl rfl ?_
          refine y_ldc_wI hm rfl (v := (-1000003 : Int32)) (by decide) ?_
          refine y_callV hm rfl rfl (e135 (by decide)) ?_
          refine y_iret hm rfl rfl (by first | rfl | exact bI_nar | decide) ?_
          first
            | (have q9 := yu
               exact nR (by unfold kAs; rw [if_neg (by assumption), if_neg (by assumption), jI_nat (k := s) (by omega), if_neg ny, ep, jI_nat (k := p) (by omega), if_pos yu]))
            | (have q9 := nu9
               exact tR (by unfold kAs; rw [if_neg (by assumption), if_neg (by assumption), jI_nat (k := s) (by omega), if_neg ny, ep, jI_nat (k := p) (by omega), if_neg nu9]))
        · have yu := bI_ne0 h4
          refine y_iload_n hm rfl rfl ?_
          refine y_goto hm rfl (t := 65) rfl ?_
          refine y_iret hm rfl rfl (by first | rfl | exact bI_nar | decide) ?_
          first
            | (have q9 := yu
               exact nR (by unfold kAs; rw [if_neg (by assumption), if_neg (by assumption), jI_nat (k := s) (by omega), if_neg ny, ep, jI_nat (k := p) (by omega), if_pos yu]))
            | (have q9 := nu9
               exact tR (by unfold kAs; rw [if_neg (by assumption), if_neg (by assumption), jI_nat (k := s) (by omega), if_neg ny, ep, jI_nat (k := p) (by omega), if_neg nu9]))
      · have ym : r (4 + s) = -1 := (hG.2.2.2.2.1 s (by omega)).resolve_right fun ⟨p, hp, e⟩ => h3 (by rw [e]; exact Int32.not_lt.mp (jI_nn (by omega)))
        refine y_aload_n hm rfl rfl ?_
        refine y_ldcI hm rfl (v := (-1000006 : Int32)) (by decide) ?_
        refine y_callV hm rfl rfl (e135 (by decide)) ?_
        refine y_iret hm rfl rfl (by first | rfl | exact bI_nar | decide) ?_
        exact tR (by unfold kAs; rw [if_neg (by assumption), if_neg (by assumption), jI_nat (k := s) (by omega), if_pos ym])
    · refine y_aload_n hm rfl rfl ?_
      refine y_ldcI hm rfl (v := (-1000001 : Int32)) (by decide) ?_
      refine y_callV hm rfl rfl (e135 (by decide)) ?_
      refine y_iret hm rfl rfl (by first | rfl | exact bI_nar | decide) ?_
      first
        | (exact tR (by unfold kAs; rw [if_pos (by assumption)]))
        | (exact tR (by unfold kAs; rw [if_neg (by assumption), if_pos (by assumption)]))
theorem fR234 {a1 a2 a3 : Int32} (hI : Inv M) (h67 : M 67 = r) (hG : Gd nt np r) (h6 : M 66 6 = -1) (hz : ∀ s, s < 4 → ∃ k, k ≤ 40 ∧ M 77 s = nI k) (hct : M 66 9 = c) (hk6 : M 66 3 = k6) : ∀ o D, mT X 234 [.ref 66, .int a1, .int a2, .int a3] (con M) o D → qR M (kSheet a1 a2 a3) o D := by
  have hV := hG.2.2.1
  have hn8 := hV.1
  have hp8 := hV.2.1
  have hW := hI.1
  have hnt : M 67 1 = nI nt := (congrFun h67 1).trans hG.1
  have hnp : M 67 2 = nI np := (congrFun h67 2).trans hG.2.1
  refine al_of (Q := qR M (kSheet a1 a2 a3)) (row := _) rfl ?_
  have hm : mMet 234 = some _ := rfl
  refine y_iload_n hm rfl rfl ?_
  refine y_callS hm rfl rfl (t210) ?_
  refine y_if_eq hm rfl (t := 29) rfl (fun h1 => ?_) (fun h1 => ?_)
  · refine y_aload_n hm rfl rfl ?_
    refine y_ldcI hm rfl (v := (-1000001 : Int32)) (by decide) ?_
    refine y_callV hm rfl rfl (e135 (by decide)) ?_
    refine y_iret hm rfl rfl (by first | rfl | exact bI_nar | decide) ?_
    first
      | (exact tR (by unfold kSheet; rw [if_pos h1]))
      | (exact tR (by unfold kSheet; rw [if_neg h1, if_pos (okb_f (by assumption) (by assumption) (by assumption) (by assumption))]))
  · refine y_iload_n hm rfl rfl ?_
    refine y_if_eq hm rfl (t := 36) rfl (fun h2 => ?_) (fun h2 => ?_)
    · have hb := okb_t (Or.inl h2)
      refine y_iload_n hm rfl rfl ?_
      refine y_if_ge hm rfl (t := 48) rfl (fun h3 => ?_) (fun h3 => ?_)
      · have hn0 := h3
        refine y_iload_n hm rfl rfl ?_
        refine y_bipush hm rfl (v := nI 40) (by decide) ?_
        refine y_icmp_le hm rfl (t := 61) rfl (fun h4 => ?_) (fun h4 => ?_)
        · have hn4 := h4
          exact bodyR (fun pc => Nat.ble 61 pc) (by unfold kSheet; rw [if_neg h1, if_neg hb, if_pos hn0, if_pos hn4]) (by decide +kernel) rfl rfl rfl
        · have hn4 := h4
          refine y_aload_n hm rfl rfl ?_
          refine y_ldcI hm rfl (v := (-1000001 : Int32)) (by decide) ?_
          refine y_callV hm rfl rfl (e135 (by decide)) ?_
          refine y_iret hm rfl rfl (by first | rfl | exact bI_nar | decide) ?_
          exact tR (by unfold kSheet; rw [if_neg h1, if_neg hb, if_pos hn0, if_neg hn4])
      · have hn0 := h3
        refine y_aload_n hm rfl rfl ?_
        refine y_ldc_wI hm rfl (v := (-1000007 : Int32)) (by decide) ?_
        refine y_callV hm rfl rfl (e135 (by decide)) ?_
        refine y_iret hm rfl rfl (by first | rfl | exact bI_nar | decide) ?_
        exact tR (by unfold kSheet; rw [if_neg h1, if_neg hb, if_neg hn0])
    · refine y_iload_n hm rfl rfl ?_
      refine y_bipush hm rfl (v := nI 8) (by decide) ?_
      refine y_icmp_eq hm rfl (t := 36) rfl (fun h5 => ?_) (fun h5 => ?_)
      · have hb := okb_t (Or.inr (Or.inl h5))
        refine y_iload_n hm rfl rfl ?_
        refine y_if_ge hm rfl (t := 48) rfl (fun h6 => ?_) (fun h6 => ?_)
        · have hn0 := h6
          refine y_iload_n hm rfl rfl ?_
          refine y_bipush hm rfl (v := nI 40) (by decide) ?_
          refine y_icmp_le hm rfl (t := 61) rfl (fun h7 => ?_) (fun h7 => ?_)
          · have hn4 := h7
            exact bodyR (fun pc => Nat.ble 61 pc) (by unfold kSheet; rw [if_neg h1, if_neg hb, if_pos hn0, if_pos hn4]) (by decide +kernel) rfl rfl rfl
          · have hn4 := h7
            refine y_aload_n hm rfl rfl ?_
            refine y_ldcI hm rfl (v := (-1000001 : Int32)) (by decide) ?_
            refine y_callV hm rfl rfl (e135 (by decide)) ?_
            refine y_iret hm rfl rfl (by first | rfl | exact bI_nar | decide) ?_
            exact tR (by unfold kSheet; rw [if_neg h1, if_neg hb, if_pos hn0, if_neg hn4])
        · have hn0 := h6
          refine y_aload_n hm rfl rfl ?_
          refine y_ldc_wI hm rfl (v := (-1000007 : Int32)) (by decide) ?_
          refine y_callV hm rfl rfl (e135 (by decide)) ?_
          refine y_iret hm rfl rfl (by first | rfl | exact bI_nar | decide) ?_
          exact tR (by unfold kSheet; rw [if_neg h1, if_neg hb, if_neg hn0])
      · refine y_iload_n hm rfl rfl ?_
        refine y_bipush hm rfl (v := nI 16) (by decide) ?_
        refine y_icmp_eq hm rfl (t := 36) rfl (fun h8 => ?_) (fun h8 => ?_)
        · have hb := okb_t (Or.inr (Or.inr (Or.inl h8)))
          refine y_iload_n hm rfl rfl ?_
          refine y_if_ge hm rfl (t := 48) rfl (fun h9 => ?_) (fun h9 => ?_)
          · have hn0 := h9
            refine y_iload_n hm rfl rfl ?_
            refine y_bipush hm rfl (v := nI 40) (by decide) ?_
            refine y_icmp_le hm rfl (t := 61) rfl (fun h10 => ?_) (fun h10 => ?_)
            · have hn4 := h10
              exact bodyR (fun pc => Nat.ble 61 pc) (by unfold kSheet; rw [if_neg h1, if_neg hb, if_pos hn0, if_pos hn4]) (by decide +kernel) rfl rfl rfl
            · have hn4 := h10
              refine y_aload_n hm rfl rfl ?_
              refine y_ldcI hm rfl (v := (-1000001 : Int32)) (by decide) ?_
              refine y_callV hm rfl rfl (e135 (by decide)) ?_
              refine y_iret hm rfl rfl (by first | rfl | exact bI_nar | decide) ?_
              exact tR (by unfold kSheet; rw [if_neg h1, if_neg hb, if_pos hn0, if_neg hn4])
          · have hn0 := h9
            refine y_aload_n hm rfl rfl ?_
            refine y_ldc_wI hm rfl (v := (-1000007 : Int32)) (by decide) ?_
            refine y_callV hm rfl rfl (e135 (by decide)) ?_
            refine y_iret hm rfl rfl (by first | rfl | exact bI_nar | decide) ?_
            exact tR (by unfold kSheet; rw [if_neg h1, if_neg hb, if_neg hn0])
        · refine y_iload_n hm rfl rfl ?_
          refine y_bipush hm rfl (v := nI 32) (by decide) ?_
          refine y_icmp_eq hm rfl (t := 36) rfl (fun h11 => ?_) (fun h11 => ?_)
          · have hb := okb_t (Or.inr (Or.inr (Or.inr h11)))
            refine y_iload_n hm rfl rfl ?_
            refine y_if_ge hm rfl (t := 48) rfl (fun h12 => ?_) (fun h12 => ?_)
            · have hn0 := h12
              refine y_iload_n hm rfl rfl ?_
              refine y_bipush hm rfl (v := nI 40) (by decide) ?_
              refine y_icmp_le hm rfl (t := 61) rfl (fun h13 => ?_) (fun h13 => ?_)
              · have hn4 := h13
                exact bodyR (fun pc => Nat.ble 61 pc) (by unfold kSheet; rw [if_neg h1, if_neg hb, if_pos hn0, if_pos hn4]) (by decide +kernel) rfl rfl rfl
              · have hn4 := h13
                refine y_aload_n hm rfl rfl ?_
                refine y_ldcI hm rfl (v := (-1000001 : Int32)) (by decide) ?_
                refine y_callV hm rfl rfl (e135 (by decide)) ?_
                refine y_iret hm rfl rfl (by first | rfl | exact bI_nar | decide) ?_
                exact tR (by unfold kSheet; rw [if_neg h1, if_neg hb, if_pos hn0, if_neg hn4])
            · have hn0 := h12
              refine y_aload_n hm rfl rfl ?_
              refine y_ldc_wI hm rfl (v := (-1000007 : Int32)) (by decide) ?_
              refine y_callV hm rfl rfl (e135 (by decide)) ?_
              refine y_iret hm rfl rfl (by first | rfl | exact bI_nar | decide) ?_
              exact tR (by unfold kSheet; rw [if_neg h1, if_neg hb, if_neg hn0])
          · refine y_aload_n hm rfl rfl ?_
            refine y_ldcI hm rfl (v := (-1000001 : Int32)) (by decide) ?_
            refine y_callV hm rfl rfl (e135 (by decide)) ?_
            refine y_iret hm rfl rfl (by first | rfl | exact bI_nar | decide) ?_
            first
              | (exact tR (by unfold kSheet; rw [if_pos h1]))
              | (exact tR (by unfold kSheet; rw [if_neg h1, if_pos (okb_f (by assumption) (by assumption) (by assumption) (by assumption))]))
theorem fR235 {a1 a2 a3 : Int32} (hI : Inv M) (h67 : M 67 = r) (hG : Gd nt np r) (h6 : M 66 6 = -1) (hz : ∀ s, s < 4 → ∃ k, k ≤ 40 ∧ M 77 s = nI k) (hct : M 66 9 = c) (hk6 : M 66 3 = k6) : ∀ o D, mT X 235 [.ref 66, .int a1, .int a2, .int a3] (con M) o D → qR M (kWrite (M 76) (M 77) a1 a2) o D := by
  have hV := hG.2.2.1
  have hn8 := hV.1
  have hp8 := hV.2.1
  have hW := hI.1
  have hnt : M 67 1 = nI nt := (congrFun h67 1).trans hG.1
  have hnp : M 67 2 = nI np := (congrFun h67 2).trans hG.2.1
  refine al_of (Q := qR M (kWrite (M 76) (M 77) a1 a2)) (row := _) rfl ?_
  have hm : mMet 235 = some _ := rfl
  refine y_iload_n hm rfl rfl ?_
  refine y_callS hm rfl rfl (t210) ?_
  refine y_if_ne hm rfl (t := 14) rfl (fun h1 => ?_) (fun h1 => ?_)
  · obtain ⟨s, hs, hs3⟩ := le_k (by omega) (bI_ne0 h1)
    subst hs3
    obtain ⟨k, hk, hzk⟩ := hz s (by omega)
    refine y_aload_n hm rfl rfl ?_
    refine y_getf hm rfl (gR rfl rfl) ?_
    refine y_iload_n hm rfl rfl ?_
    refine y_iald hm rfl (lI rfl (by omega) (by decide)) ?_
    refine y_if_ne hm rfl (t := 30) rfl (fun h2 => ?_) (fun h2 => ?_)
    · have hlk : lkS (M 76) (nI s) = 0 := lkS_c (w := M 76) hs h2
      refine y_iload_n hm rfl rfl ?_
      refine y_iconst hm rfl (v := nI 0) (by decide) ?_
      refine y_aload_n hm rfl rfl ?_
      refine y_getf hm rfl (gR rfl rfl) ?_
      refine y_iload_n hm rfl rfl ?_
      refine y_iald hm rfl (lI rfl (by omega) (by decide)) ?_
      refine y_iconst hm rfl (v := nI 1) (by decide) ?_
      refine y_isub hm rfl ?_
      refine y_callS hm rfl rfl (t133) ?_
      refine y_if_ne hm rfl (t := 53) rfl (fun h3 => ?_) (fun h3 => ?_)
      · exact bodyR (fun pc => Nat.ble 53 pc) (by unfold kWrite; rw [if_neg (not_not_intro hlk), jI_nat (by omega), if_neg (by assumption)]) (by decide +kernel) rfl rfl rfl
      · refine y_aload_n hm rfl rfl ?_
        refine y_ldcI hm rfl (v := (-1000001 : Int32)) (by decide) ?_
        refine y_callV hm rfl rfl (e135 (by decide)) ?_
        refine y_iret hm rfl rfl (by first | rfl | exact bI_nar | decide) ?_
        exact tR (by unfold kWrite; rw [if_neg (not_not_intro hlk), jI_nat (by omega), if_pos (by assumption)])
    · have hlk := lkS_b (w := M 76) hs h2
      refine y_aload_n hm rfl rfl ?_
      refine y_ldcI hm rfl (v := (-1000006 : Int32)) (by decide) ?_
      refine y_callV hm rfl rfl (e135 (by decide)) ?_
      refine y_iret hm rfl rfl (by first | rfl | exact bI_nar | decide) ?_
      exact tR (by unfold kWrite; rw [if_pos (by rw [hlk]; decide), hlk])
  · have hlk := lkS_a (w := M 76) h1
    refine y_aload_n hm rfl rfl ?_
    refine y_ldcI hm rfl (v := (-1000001 : Int32)) (by decide) ?_
    refine y_callV hm rfl rfl (e135 (by decide)) ?_
    refine y_iret hm rfl rfl (by first | rfl | exact bI_nar | decide) ?_
    exact tR (by unfold kWrite; rw [if_pos (by rw [hlk]; decide), hlk])
theorem fR238 {a1 : Int32} (hI : Inv M) (h67 : M 67 = r) (hG : Gd nt np r) (h6 : M 66 6 = -1) (hz : ∀ s, s < 4 → ∃ k, k ≤ 40 ∧ M 77 s = nI k) (hct : M 66 9 = c) (hk6 : M 66 3 = k6) : ∀ o D, mT X 238 [.ref 66, .int a1] (con M) o D → qR M (kLoad (M 76) a1) o D := by
  have hV := hG.2.2.1
  have hn8 := hV.1
  have hp8 := hV.2.1
  have hW := hI.1
  have hnt : M 67 1 = nI nt := (congrFun h67 1).trans hG.1
  have hnp : M 67 2 = nI np := (congrFun h67 2).trans hG.2.1
  refine al_of (Q := qR M (kLoad (M 76) a1)) (row := _) rfl ?_
  have hm : mMet 238 = some _ := rfl
  refine y_aload_n hm rfl rfl ?_
  refine y_iload_n hm rfl rfl ?_
  refine y_callV hm rfl rfl (t209) ?_
  refine y_if_eq hm rfl (t := 18) rfl (fun h1 => ?_) (fun h1 => ?_)
  · exact bodyR (fun pc => Nat.ble 18 pc) (by unfold kLoad; rw [lk_eq, if_neg (not_not_intro h1)]) (by decide +kernel) rfl rfl rfl
  · refine y_aload_n hm rfl rfl ?_
    refine y_aload_n hm rfl rfl ?_
    refine y_iload_n hm rfl rfl ?_
    refine y_callV hm rfl rfl (t209) ?_
    refine y_callV hm rfl rfl (e135 (lk_fd h1)) ?_
    refine y_iret hm rfl rfl (by first | rfl | exact bI_nar | decide) ?_
    exact tR (by unfold kLoad; rw [lk_eq, if_pos h1])
theorem fR239 {a1 : Int32} (hI : Inv M) (h67 : M 67 = r) (hG : Gd nt np r) (h6 : M 66 6 = -1) (hz : ∀ s, s < 4 → ∃ k, k ≤ 40 ∧ M 77 s = nI k) (hct : M 66 9 = c) (hk6 : M 66 3 = k6) : ∀ o D, mT X 239 [.ref 66, .int a1] (con M) o D → qR M (kLoad (M 76) a1) o D := by
  have hV := hG.2.2.1
  have hn8 := hV.1
  have hp8 := hV.2.1
  have hW := hI.1
  have hnt : M 67 1 = nI nt := (congrFun h67 1).trans hG.1
  have hnp : M 67 2 = nI np := (congrFun h67 2).trans hG.2.1
  refine al_of (Q := qR M (kLoad (M 76) a1)) (row := _) rfl ?_
  have hm : mMet 239 = some _ := rfl
  refine y_aload_n hm rfl rfl ?_
  refine y_iload_n hm rfl rfl ?_
  refine y_callV hm rfl rfl (t209) ?_
  refine y_if_eq hm rfl (t := 18) rfl (fun h1 => ?_) (fun h1 => ?_)
  · exact bodyR (fun pc => Nat.ble 18 pc) (by unfold kLoad; rw [lk_eq, if_neg (not_not_intro h1)]) (by decide +kernel) rfl rfl rfl
  · refine y_aload_n hm rfl rfl ?_
    refine y_aload_n hm rfl rfl ?_
    refine y_iload_n hm rfl rfl ?_
    refine y_callV hm rfl rfl (t209) ?_
    refine y_callV hm rfl rfl (e135 (lk_fd h1)) ?_
    refine y_iret hm rfl rfl (by first | rfl | exact bI_nar | decide) ?_
    exact tR (by unfold kLoad; rw [lk_eq, if_pos h1])
theorem fR237 {a1 a2 a3 a4 a5 : Int32} (hI : Inv M) (h67 : M 67 = r) (hG : Gd nt np r) (h6 : M 66 6 = -1) (hz : ∀ s, s < 4 → ∃ k, k ≤ 40 ∧ M 77 s = nI k) (hct : M 66 9 = c) (hk6 : M 66 3 = k6) : ∀ o D, mT X 237 [.ref 66, .int a1, .int a2, .int a3, .int a4, .int a5] (con M) o D → qR M (kCopy (M 76) (M 77) a1 a2 a3 a4 a5) o D := by
  have hV := hG.2.2.1
  have hn8 := hV.1
  have hp8 := hV.2.1
  have hW := hI.1
  have hnt : M 67 1 = nI nt := (congrFun h67 1).trans hG.1
  have hnp : M 67 2 = nI np := (congrFun h67 2).trans hG.2.1
  refine al_of (Q := qR M (kCopy (M 76) (M 77) a1 a2 a3 a4 a5)) (row := _) rfl ?_
  have hm : mMet 237 = some _ := rfl
  refine y_iload_n hm rfl rfl ?_
  refine y_callS hm rfl rfl (t210) ?_
  refine y_if_eq hm rfl (t := 14) rfl (fun h1 => ?_) (fun h1 => ?_)
  · refine y_aload_n hm rfl rfl ?_
    refine y_ldcI hm rfl (v := (-1000001 : Int32)) (by decide) ?_
    refine y_callV hm rfl rfl (e135 (by decide)) ?_
    refine y_iret hm rfl rfl (by first | rfl | exact bI_nar | decide) ?_
    first
      | (exact tR (by unfold kCopy; rw [if_pos h1]))
      | (exact tR (by unfold kCopy; rw [if_neg h1, if_pos (by assumption)]))
  · obtain ⟨s, hs, hs3⟩ := le_k (by omega) (bI_ne0 h1)
    subst hs3
    refine y_iload_n hm rfl rfl ?_
    refine y_callS hm rfl rfl (t210) ?_
    refine y_if_ne hm rfl (t := 21) rfl (fun h2 => ?_) (fun h2 => ?_)
    · have hh3 := h2
      obtain ⟨t, ht, ht3⟩ := le_k (by omega) (bI_ne0 hh3)
      subst ht3
      obtain ⟨ls, hls, hzs⟩ := hz s (by omega)
      obtain ⟨lu, hlu, hzu⟩ := hz t (by omega)
      refine y_aload_n hm rfl rfl ?_
      refine y_getf hm rfl (gR rfl rfl) ?_
      refine y_iload_n hm rfl rfl ?_
      refine y_iald hm rfl (lI rfl (by omega) (by decide)) ?_
      refine y_if_eq hm rfl (t := 39) rfl (fun h3 => ?_) (fun h3 => ?_)
      · have ws : M 76 s = 0 := h3
        refine y_aload_n hm rfl rfl ?_
        refine y_ldcI hm rfl (v := (-1000006 : Int32)) (by decide) ?_
        refine y_callV hm rfl rfl (e135 (by decide)) ?_
        refine y_iret hm rfl rfl (by first | rfl | exact bI_nar | decide) ?_
        first
          | (exact tR (by unfold kCopy; rw [if_neg h1, if_neg hh3, jI_nat (by omega), jI_nat (by omega), if_pos ws]))
          | (exact tR (by unfold kCopy; rw [if_neg h1, if_neg hh3, jI_nat (by omega), jI_nat (by omega), if_neg ws, if_pos wu]))
      · have ws : ¬ M 76 s = 0 := h3
        refine y_aload_n hm rfl rfl ?_
        refine y_getf hm rfl (gR rfl rfl) ?_
        refine y_iload_n hm rfl rfl ?_
        refine y_iald hm rfl (lI rfl (by omega) (by decide)) ?_
        refine y_if_ne hm rfl (t := 46) rfl (fun h4 => ?_) (fun h4 => ?_)
        · have wu : ¬ M 76 t = 0 := h4
          refine y_aload_n hm rfl rfl ?_
          refine y_getf hm rfl (gR rfl rfl) ?_
          refine y_iload_n hm rfl rfl ?_
          refine y_iald hm rfl (lI rfl (by omega) (by decide)) ?_
          refine y_aload_n hm rfl rfl ?_
          refine y_getf hm rfl (gR rfl rfl) ?_
          refine y_iload_n hm rfl rfl ?_
          refine y_iald hm rfl (lI rfl (by omega) (by decide)) ?_
          refine y_icmp_eq hm rfl (t := 69) rfl (fun h5 => ?_) (fun h5 => ?_)
          · have we : M 76 s = M 76 t := h5
            refine y_iload_n hm rfl rfl ?_
            refine y_if_lt hm rfl (t := 118) rfl (fun h6 => ?_) (fun h6 => ?_)
            · have hbad : ¬ (hsP (M 77 s) a2 a5 ∧ hsP (M 77 t) a4 a5) := fun q => Int32.not_le.mpr h6 q.1.1
              refine y_aload_n hm rfl rfl ?_
              refine y_ldcI hm rfl (v := (-1000001 : Int32)) (by decide) ?_
              refine y_callV hm rfl rfl (e135 (by decide)) ?_
              refine y_iret hm rfl rfl (by first | rfl | exact bI_nar | decide) ?_
              exact tR (by unfold kCopy; rw [if_neg h1, if_neg hh3, jI_nat (by omega), jI_nat (by omega), if_neg ws, if_neg wu, if_neg (not_not_intro we), if_pos hbad])
            · have pi := h6
              refine y_iload hm rfl rfl ?_
              refine y_if_lt hm rfl (t := 118) rfl (fun h7 => ?_) (fun h7 => ?_)
              · have hbad : ¬ (hsP (M 77 s) a2 a5 ∧ hsP (M 77 t) a4 a5) := fun q => Int32.not_le.mpr h7 q.2.1
                refine y_aload_n hm rfl rfl ?_
                refine y_ldcI hm rfl (v := (-1000001 : Int32)) (by decide) ?_
                refine y_callV hm rfl rfl (e135 (by decide)) ?_
                refine y_iret hm rfl rfl (by first | rfl | exact bI_nar | decide) ?_
                exact tR (by unfold kCopy; rw [if_neg h1, if_neg hh3, jI_nat (by omega), jI_nat (by omega), if_neg ws, if_neg wu, if_neg (not_not_intro we), if_pos hbad])
              · have pj := h7
                refine y_iload hm rfl rfl ?_
                refine y_if_lt hm rfl (t := 118) rfl (fun h8 => ?_) (fun h8 => ?_)
                · have hbad : ¬ (hsP (M 77 s) a2 a5 ∧ hsP (M 77 t) a4 a5) := fun q => Int32.not_le.mpr h8 q.1.2.1
                  refine y_aload_n hm rfl rfl ?_
                  refine y_ldcI hm rfl (v := (-1000001 : Int32)) (by decide) ?_
                  refine y_callV hm rfl rfl (e135 (by decide)) ?_
                  refine y_iret hm rfl rfl (by first | rfl | exact bI_nar | decide) ?_
                  exact tR (by unfold kCopy; rw [if_neg h1, if_neg hh3, jI_nat (by omega), jI_nat (by omega), if_neg ws, if_neg wu, if_neg (not_not_intro we), if_pos hbad])
                · obtain ⟨i, hi, hi3⟩ := jI_of pi
                  obtain ⟨j, hj, hj3⟩ := jI_of pj
                  obtain ⟨n, hn, hn3⟩ := jI_of h8
                  subst hi3
                  subst hj3
                  subst hn3
                  refine y_iload_n hm rfl rfl ?_
                  refine y_i2l hm rfl ?_
                  refine y_iload hm rfl rfl ?_
                  refine y_i2l hm rfl ?_
                  refine y_ladd hm rfl ?_
                  refine y_aload_n hm rfl rfl ?_
                  refine y_getf hm rfl (gR rfl rfl) ?_
                  refine y_iload_n hm rfl rfl ?_
                  refine y_iald hm rfl (lI rfl (by omega) (by decide)) ?_
                  rw [hzs]
                  refine y_i2l hm rfl ?_
                  refine y_lcmp hm rfl ?_
                  refine y_if_gt hm rfl (t := 118) rfl (fun h9 => ?_) (fun h9 => ?_)
                  · have hbad : ¬ (hsP (M 77 s) (nI i) (nI n) ∧ hsP (M 77 t) (nI j) (nI n)) := fun q => Int32.not_lt.mpr (cpr hi hn hls ((hsP_iff hi hn hls).mp (by rw [← hzs]; exact q.1))) h9
                    refine y_aload_n hm rfl rfl ?_
                    refine y_ldcI hm rfl (v := (-1000001 : Int32)) (by decide) ?_
                    refine y_callV hm rfl rfl (e135 (by decide)) ?_
                    refine y_iret hm rfl rfl (by first | rfl | exact bI_nar | decide) ?_
                    exact tR (by unfold kCopy; rw [if_neg h1, if_neg hh3, jI_nat (by omega), jI_nat (by omega), if_neg ws, if_neg wu, if_neg (not_not_intro we), if_pos hbad])
                  · have g1 := cpg hi hn hls h9
                    refine y_iload hm rfl rfl ?_
                    refine y_i2l hm rfl ?_
                    refine y_iload hm rfl rfl ?_
                    refine y_i2l hm rfl ?_
                    refine y_ladd hm rfl ?_
                    refine y_aload_n hm rfl rfl ?_
                    refine y_getf hm rfl (gR rfl rfl) ?_
                    refine y_iload_n hm rfl rfl ?_
                    refine y_iald hm rfl (lI rfl (by omega) (by decide)) ?_
                    rw [hzu]
                    refine y_i2l hm rfl ?_
                    refine y_lcmp hm rfl ?_
                    refine y_if_le hm rfl (t := 125) rfl (fun h10 => ?_) (fun h10 => ?_)
                    · have g2 := cpl hj hn hlu h10
                      exact bodyR (fun pc => Nat.ble 125 pc) (by unfold kCopy; rw [if_neg h1, if_neg hh3, jI_nat (by omega), jI_nat (by omega), if_neg ws, if_neg wu, if_neg (not_not_intro we), if_neg (not_not_intro (And.intro (by rw [hzs]; exact (hsP_iff hi hn hls).mpr g1) (by rw [hzu]; exact (hsP_iff hj hn hlu).mpr g2)))]) (by decide +kernel) rfl rfl rfl
                    · have hbad : ¬ (hsP (M 77 s) (nI i) (nI n) ∧ hsP (M 77 t) (nI j) (nI n)) := fun q => h10 (cpr hj hn hlu ((hsP_iff hj hn hlu).mp (by rw [← hzu]; exact q.2)))
                      refine y_aload_n hm rfl rfl ?_
                      refine y_ldcI hm rfl (v := (-1000001 : Int32)) (by decide) ?_
                      refine y_callV hm rfl rfl (e135 (by decide)) ?_
                      refine y_iret hm rfl rfl (by first | rfl | exact bI_nar | decide) ?_
                      exact tR (by unfold kCopy; rw [if_neg h1, if_neg hh3, jI_nat (by omega), jI_nat (by omega), if_neg ws, if_neg wu, if_neg (not_not_intro we), if_pos hbad])
          · have we : ¬ M 76 s = M 76 t := h5
            refine y_aload_n hm rfl rfl ?_
            refine y_ldc_wI hm rfl (v := (-1000003 : Int32)) (by decide) ?_
            refine y_callV hm rfl rfl (e135 (by decide)) ?_
            refine y_iret hm rfl rfl (by first | rfl | exact bI_nar | decide) ?_
            exact tR (by unfold kCopy; rw [if_neg h1, if_neg hh3, jI_nat (by omega), jI_nat (by omega), if_neg ws, if_neg wu, if_pos we])
        · have wu : M 76 t = 0 := h4
          refine y_aload_n hm rfl rfl ?_
          refine y_ldcI hm rfl (v := (-1000006 : Int32)) (by decide) ?_
          refine y_callV hm rfl rfl (e135 (by decide)) ?_
          refine y_iret hm rfl rfl (by first | rfl | exact bI_nar | decide) ?_
          first
            | (exact tR (by unfold kCopy; rw [if_neg h1, if_neg hh3, jI_nat (by omega), jI_nat (by omega), if_pos ws]))
            | (exact tR (by unfold kCopy; rw [if_neg h1, if_neg hh3, jI_nat (by omega), jI_nat (by omega), if_neg ws, if_pos wu]))
    · refine y_aload_n hm rfl rfl ?_
      refine y_ldcI hm rfl (v := (-1000001 : Int32)) (by decide) ?_
      refine y_callV hm rfl rfl (e135 (by decide)) ?_
      refine y_iret hm rfl rfl (by first | rfl | exact bI_nar | decide) ?_
      first
        | (exact tR (by unfold kCopy; rw [if_pos h1]))
        | (exact tR (by unfold kCopy; rw [if_neg h1, if_pos (by assumption)]))
theorem fR241 (hI : Inv M) (h67 : M 67 = r) (hG : Gd nt np r) (h6 : M 66 6 = -1) (hz : ∀ s, s < 4 → ∃ k, k ≤ 40 ∧ M 77 s = nI k) (hct : M 66 9 = c) (hk6 : M 66 3 = k6) : ∀ o D, mT X 241 [.ref 66] (con M) o D → qR M (kUndo k6) o D := by
  have hV := hG.2.2.1
  have hn8 := hV.1
  have hp8 := hV.2.1
  have hW := hI.1
  have hnt : M 67 1 = nI nt := (congrFun h67 1).trans hG.1
  have hnp : M 67 2 = nI np := (congrFun h67 2).trans hG.2.1
  refine al_of (Q := qR M (kUndo k6)) (row := _) rfl ?_
  have hm : mMet 241 = some _ := rfl
  refine y_aload_n hm rfl rfl ?_
  refine y_getf hm rfl (gI rfl rfl) ?_
  rw [hk6]
  refine y_if_ne hm rfl (t := 14) rfl (fun h1 => ?_) (fun h1 => ?_)
  · exact bodyR (fun pc => Nat.ble 14 pc) (by unfold kUndo; rw [if_neg (by assumption)]) (by decide +kernel) rfl rfl rfl
  · refine y_aload_n hm rfl rfl ?_
    refine y_ldcI hm rfl (v := (-1000004 : Int32)) (by decide) ?_
    refine y_callV hm rfl rfl (e135 (by decide)) ?_
    refine y_iret hm rfl rfl (by first | rfl | exact bI_nar | decide) ?_
    exact tR (by unfold kUndo; rw [if_pos (by assumption)])
theorem fR197 (hI : Inv M) (h67 : M 67 = r) (hG : Gd nt np r) (h6 : M 66 6 = -1) (hz : ∀ s, s < 4 → ∃ k, k ≤ 40 ∧ M 77 s = nI k) (hct : M 66 9 = c) (hk6 : M 66 3 = k6) : ∀ o D, mT X 197 [.ref 66] (con M) o D → qR M (kZ) o D := by
  have hV := hG.2.2.1
  have hn8 := hV.1
  have hp8 := hV.2.1
  have hW := hI.1
  have hnt : M 67 1 = nI nt := (congrFun h67 1).trans hG.1
  have hnp : M 67 2 = nI np := (congrFun h67 2).trans hG.2.1
  refine al_of (Q := qR M (kZ)) (row := _) rfl ?_
  have hm : mMet 197 = some _ := rfl
  exact bodyR (fun _ => true) rfl (by decide +kernel) rfl rfl rfl
theorem fR207 (hI : Inv M) (h67 : M 67 = r) (hG : Gd nt np r) (h6 : M 66 6 = -1) (hz : ∀ s, s < 4 → ∃ k, k ≤ 40 ∧ M 77 s = nI k) (hct : M 66 9 = c) (hk6 : M 66 3 = k6) : ∀ o D, mT X 207 [.ref 66] (con M) o D → qR M (kZ) o D := by
  have hV := hG.2.2.1
  have hn8 := hV.1
  have hp8 := hV.2.1
  have hW := hI.1
  have hnt : M 67 1 = nI nt := (congrFun h67 1).trans hG.1
  have hnp : M 67 2 = nI np := (congrFun h67 2).trans hG.2.1
  refine al_of (Q := qR M (kZ)) (row := _) rfl ?_
  have hm : mMet 207 = some _ := rfl
  exact bodyR (fun _ => true) rfl (by decide +kernel) rfl rfl rfl
theorem fR217 {a1 : Int32} (hI : Inv M) (h67 : M 67 = r) (hG : Gd nt np r) (h6 : M 66 6 = -1) (hz : ∀ s, s < 4 → ∃ k, k ≤ 40 ∧ M 77 s = nI k) (hct : M 66 9 = c) (hk6 : M 66 3 = k6) : ∀ o D, mT X 217 [.ref 66, .int a1] (con M) o D → qR M (kZ) o D := by
  have hV := hG.2.2.1
  have hn8 := hV.1
  have hp8 := hV.2.1
  have hW := hI.1
  have hnt : M 67 1 = nI nt := (congrFun h67 1).trans hG.1
  have hnp : M 67 2 = nI np := (congrFun h67 2).trans hG.2.1
  refine al_of (Q := qR M (kZ)) (row := _) rfl ?_
  have hm : mMet 217 = some _ := rfl
  exact bodyR (fun _ => true) rfl (by decide +kernel) rfl rfl rfl
theorem fR219 (hI : Inv M) (h67 : M 67 = r) (hG : Gd nt np r) (h6 : M 66 6 = -1) (hz : ∀ s, s < 4 → ∃ k, k ≤ 40 ∧ M 77 s = nI k) (hct : M 66 9 = c) (hk6 : M 66 3 = k6) : ∀ o D, mT X 219 [.ref 66] (con M) o D → qR M (kZ) o D := by
  have hV := hG.2.2.1
  have hn8 := hV.1
  have hp8 := hV.2.1
  have hW := hI.1
  have hnt : M 67 1 = nI nt := (congrFun h67 1).trans hG.1
  have hnp : M 67 2 = nI np := (congrFun h67 2).trans hG.2.1
  refine al_of (Q := qR M (kZ)) (row := _) rfl ?_
  have hm : mMet 219 = some _ := rfl
  exact bodyR (fun _ => true) rfl (by decide +kernel) rfl rfl rfl
theorem fR220 (hI : Inv M) (h67 : M 67 = r) (hG : Gd nt np r) (h6 : M 66 6 = -1) (hz : ∀ s, s < 4 → ∃ k, k ≤ 40 ∧ M 77 s = nI k) (hct : M 66 9 = c) (hk6 : M 66 3 = k6) : ∀ o D, mT X 220 [.ref 66] (con M) o D → qR M (kZ) o D := by
  have hV := hG.2.2.1
  have hn8 := hV.1
  have hp8 := hV.2.1
  have hW := hI.1
  have hnt : M 67 1 = nI nt := (congrFun h67 1).trans hG.1
  have hnp : M 67 2 = nI np := (congrFun h67 2).trans hG.2.1
  refine al_of (Q := qR M (kZ)) (row := _) rfl ?_
  have hm : mMet 220 = some _ := rfl
  exact bodyR (fun _ => true) rfl (by decide +kernel) rfl rfl rfl
theorem fR240 (hI : Inv M) (h67 : M 67 = r) (hG : Gd nt np r) (h6 : M 66 6 = -1) (hz : ∀ s, s < 4 → ∃ k, k ≤ 40 ∧ M 77 s = nI k) (hct : M 66 9 = c) (hk6 : M 66 3 = k6) : ∀ o D, mT X 240 [.ref 66] (con M) o D → qR M (kZ) o D := by
  have hV := hG.2.2.1
  have hn8 := hV.1
  have hp8 := hV.2.1
  have hW := hI.1
  have hnt : M 67 1 = nI nt := (congrFun h67 1).trans hG.1
  have hnp : M 67 2 = nI np := (congrFun h67 2).trans hG.2.1
  refine al_of (Q := qR M (kZ)) (row := _) rfl ?_
  have hm : mMet 240 = some _ := rfl
  exact bodyR (fun _ => true) rfl (by decide +kernel) rfl rfl rfl
theorem fR242 (hI : Inv M) (h67 : M 67 = r) (hG : Gd nt np r) (h6 : M 66 6 = -1) (hz : ∀ s, s < 4 → ∃ k, k ≤ 40 ∧ M 77 s = nI k) (hct : M 66 9 = c) (hk6 : M 66 3 = k6) : ∀ o D, mT X 242 [.ref 66] (con M) o D → qR M (kZ) o D := by
  have hV := hG.2.2.1
  have hn8 := hV.1
  have hp8 := hV.2.1
  have hW := hI.1
  have hnt : M 67 1 = nI nt := (congrFun h67 1).trans hG.1
  have hnp : M 67 2 = nI np := (congrFun h67 2).trans hG.2.1
  refine al_of (Q := qR M (kZ)) (row := _) rfl ?_
  have hm : mMet 242 = some _ := rfl
  exact bodyR (fun _ => true) rfl (by decide +kernel) rfl rfl rfl
end TF
