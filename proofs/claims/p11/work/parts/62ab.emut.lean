section EJ
variable {X : mSc} {Q : Option Value → mHp → Prop} {M : mM} {nt np : Nat} {r : Nat → Int32}
theorem g22 {a1 a2 : Int32} (hR : Rel 1 nt np M r) (hn8 : nt ≤ 8) (hp8 : np ≤ 8) : ∃ v M', mT X 22 [.ref 0, .int a1, .int a2] (con M) (some (.int v)) (con M') ∧ Tq (fPerson nt np r a1 a2) v M M' := by
  refine ti_of (row := _) rfl (Nat.le_of_ble_eq_true rfl) ?_
  have hm : mMet 22 = some _ := rfl
  refine x_iload_n hm rfl rfl ?_
  refine x_iconst hm rfl (v := nI 0) (by decide) ?_
  refine x_bipush hm rfl (v := nI 6) (by decide) ?_
  refine x_callS hm rfl rfl (t6) ?_
  refine x_if_eq hm rfl (t := 20) rfl (fun h1 => ?_) (fun h1 => ?_)
  · refine x_aload_n hm rfl rfl ?_
    refine x_ldcI hm rfl (v := (-1000001 : Int32)) (by decide +kernel) ?_
    refine x_cVi hm rfl rfl (t7 (by decide +kernel)) (fun v2 M2 r2 => ?_)
    refine x_iret hm rfl rfl (by first | rfl | exact bI_nar | decide) ?_
    first
      | (have hq : fPerson nt np r a1 a2 = (-1000001, nt, np, r) := by
           unfold fPerson
           rw [if_pos (by assumption)]
         exact ⟨_, _, rfl, rfl, by rw [hq]; exact ⟨r2.1, hR.bq r2.2⟩⟩)
      | (have hq : fPerson nt np r a1 a2 = (-1000001, nt, np, r) := by
           unfold fPerson
           rw [if_neg (by assumption), if_pos (by assumption)]
         exact ⟨_, _, rfl, rfl, by rw [hq]; exact ⟨r2.1, hR.bq r2.2⟩⟩)
      | (have hq : fPerson nt np r a1 a2 = (-1000001, nt, np, r) := by
           unfold fPerson
           rw [if_pos (by assumption)]
         exact ⟨_, _, rfl, rfl, by rw [hq]; exact ⟨r1.1, hR.bq r1.2⟩⟩)
      | (have hq : fPerson nt np r a1 a2 = (-1000001, nt, np, r) := by
           unfold fPerson
           rw [if_pos (by assumption)]
         exact ⟨_, _, rfl, rfl, by rw [hq]; exact ⟨r3.1, hR.bq r3.2⟩⟩)
      | (have hq : fPerson nt np r a1 a2 = (-1000001, nt, np, r) := by
           unfold fPerson
           rw [if_pos (by assumption)]
         exact ⟨_, _, rfl, rfl, by rw [hq]; exact ⟨r4.1, hR.bq r4.2⟩⟩)
      | (have hq : fPerson nt np r a1 a2 = (-1000001, nt, np, r) := by
           unfold fPerson
           rw [if_pos (by assumption)]
         exact ⟨_, _, rfl, rfl, by rw [hq]; exact ⟨r5.1, hR.bq r5.2⟩⟩)
      | (have hq : fPerson nt np r a1 a2 = (-1000001, nt, np, r) := by
           unfold fPerson
           rw [if_pos (by assumption)]
         exact ⟨_, _, rfl, rfl, by rw [hq]; exact ⟨r6.1, hR.bq r6.2⟩⟩)
      | (have hq : fPerson nt np r a1 a2 = (-1000001, nt, np, r) := by
           unfold fPerson
           rw [if_pos (by assumption)]
         exact ⟨_, _, rfl, rfl, by rw [hq]; exact ⟨r7.1, hR.bq r7.2⟩⟩)
      | (have hq : fPerson nt np r a1 a2 = (-1000001, nt, np, r) := by
           unfold fPerson
           rw [if_pos (by assumption)]
         exact ⟨_, _, rfl, rfl, by rw [hq]; exact ⟨r8.1, hR.bq r8.2⟩⟩)
      | (have hq : fPerson nt np r a1 a2 = (-1000001, nt, np, r) := by
           unfold fPerson
           rw [if_neg (by assumption), if_pos (by assumption)]
         exact ⟨_, _, rfl, rfl, by rw [hq]; exact ⟨r1.1, hR.bq r1.2⟩⟩)
      | (have hq : fPerson nt np r a1 a2 = (-1000001, nt, np, r) := by
           unfold fPerson
           rw [if_neg (by assumption), if_pos (by assumption)]
         exact ⟨_, _, rfl, rfl, by rw [hq]; exact ⟨r3.1, hR.bq r3.2⟩⟩)
      | (have hq : fPerson nt np r a1 a2 = (-1000001, nt, np, r) := by
           unfold fPerson
           rw [if_neg (by assumption), if_pos (by assumption)]
         exact ⟨_, _, rfl, rfl, by rw [hq]; exact ⟨r4.1, hR.bq r4.2⟩⟩)
      | (have hq : fPerson nt np r a1 a2 = (-1000001, nt, np, r) := by
           unfold fPerson
           rw [if_neg (by assumption), if_pos (by assumption)]
         exact ⟨_, _, rfl, rfl, by rw [hq]; exact ⟨r5.1, hR.bq r5.2⟩⟩)
      | (have hq : fPerson nt np r a1 a2 = (-1000001, nt, np, r) := by
           unfold fPerson
           rw [if_neg (by assumption), if_pos (by assumption)]
         exact ⟨_, _, rfl, rfl, by rw [hq]; exact ⟨r6.1, hR.bq r6.2⟩⟩)
      | (have hq : fPerson nt np r a1 a2 = (-1000001, nt, np, r) := by
           unfold fPerson
           rw [if_neg (by assumption), if_pos (by assumption)]
         exact ⟨_, _, rfl, rfl, by rw [hq]; exact ⟨r7.1, hR.bq r7.2⟩⟩)
      | (have hq : fPerson nt np r a1 a2 = (-1000001, nt, np, r) := by
           unfold fPerson
           rw [if_neg (by assumption), if_pos (by assumption)]
         exact ⟨_, _, rfl, rfl, by rw [hq]; exact ⟨r8.1, hR.bq r8.2⟩⟩)
  · refine x_iload_n hm rfl rfl ?_
    refine x_iconst hm rfl (v := nI 0) (by decide) ?_
    refine x_bipush hm rfl (v := nI 15) (by decide) ?_
    refine x_callS hm rfl rfl (t6) ?_
    refine x_if_ne hm rfl (t := 27) rfl (fun h3 => ?_) (fun h3 => ?_)
    · refine x_aload_n hm rfl rfl ?_
      refine x_getf hm rfl (gR rfl rfl) ?_
      refine x_getf hm rfl (gI rfl rfl) ?_
      rw [hR.2.1]
      refine x_bipush hm rfl (v := nI 8) (by decide) ?_
      refine x_icmp_lt hm rfl (t := 46) rfl (fun h4 => ?_) (fun h4 => ?_)
      · have hlt : np < 8 := (jI_lt (by omega) (by decide)).mp h4
        have hne : ¬ np = 8 := by omega
        refine x_aload_n hm rfl rfl ?_
        refine x_getf hm rfl (gR rfl rfl) ?_
        refine x_iload_n hm rfl rfl ?_
        refine x_iload_n hm rfl rfl ?_
        refine x_callV hm rfl rfl (u23 hR.2.1 hlt) ?_
        refine x_iret hm rfl rfl (by first | rfl | exact bI_nar | decide) ?_
        have hq : fPerson nt np r a1 a2 = (nI np, nt, np + 1, joinR r np a1 a2 (nI 1) (nI 1) (nI 1) (nI 1) (nI 1)) := by
          unfold fPerson
          rw [if_neg (by assumption), if_neg (by assumption), if_neg (by assumption)]
        exact ⟨_, _, rfl, rfl, by rw [hq]; exact ⟨rfl, (joinC_rel hR hn8 hlt).tm joinC_fr.1 joinC_fr.2⟩⟩
      · have heq : np = 8 := Nat.le_antisymm hp8 (Nat.le_of_not_lt fun h => h4 ((jI_lt (by omega) (by decide)).mpr h))
        refine x_aload_n hm rfl rfl ?_
        refine x_ldcI hm rfl (v := (-1000002 : Int32)) (by decide +kernel) ?_
        refine x_cVi hm rfl rfl (t7 (by decide +kernel)) (fun v5 M5 r5 => ?_)
        refine x_iret hm rfl rfl (by first | rfl | exact bI_nar | decide) ?_
        first
          | (have hq : fPerson nt np r a1 a2 = (-1000002, nt, np, r) := by
               unfold fPerson
               rw [if_neg (by assumption), if_neg (by assumption), if_pos (by assumption)]
             exact ⟨_, _, rfl, rfl, by rw [hq]; exact ⟨r5.1, hR.bq r5.2⟩⟩)
          | (have hq : fPerson nt np r a1 a2 = (-1000002, nt, np, r) := by
               unfold fPerson
               rw [if_neg (by assumption), if_neg (by assumption), if_pos (by assumption)]
             exact ⟨_, _, rfl, rfl, by rw [hq]; exact ⟨r1.1, hR.bq r1.2⟩⟩)
          | (have hq : fPerson nt np r a1 a2 = (-1000002, nt, np, r) := by
               unfold fPerson
               rw [if_neg (by assumption), if_neg (by assumption), if_pos (by assumption)]
             exact ⟨_, _, rfl, rfl, by rw [hq]; exact ⟨r2.1, hR.bq r2.2⟩⟩)
          | (have hq : fPerson nt np r a1 a2 = (-1000002, nt, np, r) := by
               unfold fPerson
               rw [if_neg (by assumption), if_neg (by assumption), if_pos (by assumption)]
             exact ⟨_, _, rfl, rfl, by rw [hq]; exact ⟨r3.1, hR.bq r3.2⟩⟩)
          | (have hq : fPerson nt np r a1 a2 = (-1000002, nt, np, r) := by
               unfold fPerson
               rw [if_neg (by assumption), if_neg (by assumption), if_pos (by assumption)]
             exact ⟨_, _, rfl, rfl, by rw [hq]; exact ⟨r4.1, hR.bq r4.2⟩⟩)
          | (have hq : fPerson nt np r a1 a2 = (-1000002, nt, np, r) := by
               unfold fPerson
               rw [if_neg (by assumption), if_neg (by assumption), if_pos (by assumption)]
             exact ⟨_, _, rfl, rfl, by rw [hq]; exact ⟨r6.1, hR.bq r6.2⟩⟩)
          | (have hq : fPerson nt np r a1 a2 = (-1000002, nt, np, r) := by
               unfold fPerson
               rw [if_neg (by assumption), if_neg (by assumption), if_pos (by assumption)]
             exact ⟨_, _, rfl, rfl, by rw [hq]; exact ⟨r7.1, hR.bq r7.2⟩⟩)
          | (have hq : fPerson nt np r a1 a2 = (-1000002, nt, np, r) := by
               unfold fPerson
               rw [if_neg (by assumption), if_neg (by assumption), if_pos (by assumption)]
             exact ⟨_, _, rfl, rfl, by rw [hq]; exact ⟨r8.1, hR.bq r8.2⟩⟩)
    · refine x_aload_n hm rfl rfl ?_
      refine x_ldcI hm rfl (v := (-1000001 : Int32)) (by decide +kernel) ?_
      refine x_cVi hm rfl rfl (t7 (by decide +kernel)) (fun v6 M6 r6 => ?_)
      refine x_iret hm rfl rfl (by first | rfl | exact bI_nar | decide) ?_
      first
        | (have hq : fPerson nt np r a1 a2 = (-1000001, nt, np, r) := by
             unfold fPerson
             rw [if_pos (by assumption)]
           exact ⟨_, _, rfl, rfl, by rw [hq]; exact ⟨r6.1, hR.bq r6.2⟩⟩)
        | (have hq : fPerson nt np r a1 a2 = (-1000001, nt, np, r) := by
             unfold fPerson
             rw [if_neg (by assumption), if_pos (by assumption)]
           exact ⟨_, _, rfl, rfl, by rw [hq]; exact ⟨r6.1, hR.bq r6.2⟩⟩)
        | (have hq : fPerson nt np r a1 a2 = (-1000001, nt, np, r) := by
             unfold fPerson
             rw [if_pos (by assumption)]
           exact ⟨_, _, rfl, rfl, by rw [hq]; exact ⟨r1.1, hR.bq r1.2⟩⟩)
        | (have hq : fPerson nt np r a1 a2 = (-1000001, nt, np, r) := by
             unfold fPerson
             rw [if_pos (by assumption)]
           exact ⟨_, _, rfl, rfl, by rw [hq]; exact ⟨r2.1, hR.bq r2.2⟩⟩)
        | (have hq : fPerson nt np r a1 a2 = (-1000001, nt, np, r) := by
             unfold fPerson
             rw [if_pos (by assumption)]
           exact ⟨_, _, rfl, rfl, by rw [hq]; exact ⟨r3.1, hR.bq r3.2⟩⟩)
        | (have hq : fPerson nt np r a1 a2 = (-1000001, nt, np, r) := by
             unfold fPerson
             rw [if_pos (by assumption)]
           exact ⟨_, _, rfl, rfl, by rw [hq]; exact ⟨r4.1, hR.bq r4.2⟩⟩)
        | (have hq : fPerson nt np r a1 a2 = (-1000001, nt, np, r) := by
             unfold fPerson
             rw [if_pos (by assumption)]
           exact ⟨_, _, rfl, rfl, by rw [hq]; exact ⟨r5.1, hR.bq r5.2⟩⟩)
        | (have hq : fPerson nt np r a1 a2 = (-1000001, nt, np, r) := by
             unfold fPerson
             rw [if_pos (by assumption)]
           exact ⟨_, _, rfl, rfl, by rw [hq]; exact ⟨r7.1, hR.bq r7.2⟩⟩)
        | (have hq : fPerson nt np r a1 a2 = (-1000001, nt, np, r) := by
             unfold fPerson
             rw [if_pos (by assumption)]
           exact ⟨_, _, rfl, rfl, by rw [hq]; exact ⟨r8.1, hR.bq r8.2⟩⟩)
        | (have hq : fPerson nt np r a1 a2 = (-1000001, nt, np, r) := by
             unfold fPerson
             rw [if_neg (by assumption), if_pos (by assumption)]
           exact ⟨_, _, rfl, rfl, by rw [hq]; exact ⟨r1.1, hR.bq r1.2⟩⟩)
        | (have hq : fPerson nt np r a1 a2 = (-1000001, nt, np, r) := by
             unfold fPerson
             rw [if_neg (by assumption), if_pos (by assumption)]
           exact ⟨_, _, rfl, rfl, by rw [hq]; exact ⟨r2.1, hR.bq r2.2⟩⟩)
        | (have hq : fPerson nt np r a1 a2 = (-1000001, nt, np, r) := by
             unfold fPerson
             rw [if_neg (by assumption), if_pos (by assumption)]
           exact ⟨_, _, rfl, rfl, by rw [hq]; exact ⟨r3.1, hR.bq r3.2⟩⟩)
        | (have hq : fPerson nt np r a1 a2 = (-1000001, nt, np, r) := by
             unfold fPerson
             rw [if_neg (by assumption), if_pos (by assumption)]
           exact ⟨_, _, rfl, rfl, by rw [hq]; exact ⟨r4.1, hR.bq r4.2⟩⟩)
        | (have hq : fPerson nt np r a1 a2 = (-1000001, nt, np, r) := by
             unfold fPerson
             rw [if_neg (by assumption), if_pos (by assumption)]
           exact ⟨_, _, rfl, rfl, by rw [hq]; exact ⟨r5.1, hR.bq r5.2⟩⟩)
        | (have hq : fPerson nt np r a1 a2 = (-1000001, nt, np, r) := by
             unfold fPerson
             rw [if_neg (by assumption), if_pos (by assumption)]
           exact ⟨_, _, rfl, rfl, by rw [hq]; exact ⟨r7.1, hR.bq r7.2⟩⟩)
        | (have hq : fPerson nt np r a1 a2 = (-1000001, nt, np, r) := by
             unfold fPerson
             rw [if_neg (by assumption), if_pos (by assumption)]
           exact ⟨_, _, rfl, rfl, by rw [hq]; exact ⟨r8.1, hR.bq r8.2⟩⟩)
theorem g86 {a1 : Int32} (hR : Rel 1 nt np M r) (hn8 : nt ≤ 8) (hp8 : np ≤ 8) : ∃ v M', mT X 86 [.ref 0, .int a1] (con M) (some (.int v)) (con M') ∧ Tq (fSeed nt np r a1) v M M' := by
  refine ti_of (row := _) rfl (Nat.le_of_ble_eq_true rfl) ?_
  have hm : mMet 86 = some _ := rfl
  refine x_aload_n hm rfl rfl ?_
  refine x_getf hm rfl (gR rfl rfl) ?_
  refine x_getf hm rfl (gI rfl rfl) ?_
  refine x_istore_n hm rfl rfl ?_
  refine x_aload_n hm rfl rfl ?_
  refine x_getf hm rfl (gR rfl rfl) ?_
  refine x_iload_n hm rfl rfl ?_
  refine x_putf hm rfl (pI rfl rfl (by decide) (by first | exact mFit_int | rfl | decide) rfl) ?_
  refine x_iload_n hm rfl rfl ?_
  refine x_iret hm rfl rfl (by first | rfl | exact bI_nar | decide) ?_
  exact ⟨_, _, rfl, rfl, hR.2.2.2.1, hR.pz.tm (mpn (by omega)) (fun a ha => mpo (by omega))⟩
theorem g114 {a1 a2 : Int32} (hR : Rel 1 nt np M r) (hn8 : nt ≤ 8) (hp8 : np ≤ 8) : ∃ v M', mT X 114 [.ref 0, .int a1, .int a2] (con M) (some (.int v)) (con M') ∧ Tq (fHold nt np r a1 a2) v M M' := by
  refine ti_of (row := _) rfl (Nat.le_of_ble_eq_true rfl) ?_
  have hm : mMet 114 = some _ := rfl
  refine x_iload_n hm rfl rfl ?_
  refine x_iconst hm rfl (v := nI 0) (by decide) ?_
  refine x_bipush hm rfl (v := nI 9) (by decide) ?_
  refine x_callS hm rfl rfl (t6) ?_
  refine x_if_eq hm rfl (t := 26) rfl (fun h1 => ?_) (fun h1 => ?_)
  · refine x_aload_n hm rfl rfl ?_
    refine x_ldcI hm rfl (v := (-1000001 : Int32)) (by decide +kernel) ?_
    refine x_cVi hm rfl rfl (t7 (by decide +kernel)) (fun v2 M2 r2 => ?_)
    refine x_iret hm rfl rfl (by first | rfl | exact bI_nar | decide) ?_
    first
      | (have hq : fHold nt np r a1 a2 = (-1000001, nt, np, r) := by
           unfold fHold
           rw [if_pos (by assumption)]
         exact ⟨_, _, rfl, rfl, by rw [hq]; exact ⟨r2.1, hR.bq r2.2⟩⟩)
      | (have hq : fHold nt np r (nI s) a2 = (-1000001, nt, np, r) := by
           unfold fHold
           rw [if_neg (by assumption), if_neg (by assumption), if_pos (by assumption)]
         exact ⟨_, _, rfl, rfl, by rw [hq]; exact ⟨r2.1, hR.bq r2.2⟩⟩)
      | (have hq : fHold nt np r a1 a2 = (-1000001, nt, np, r) := by
           unfold fHold
           rw [if_pos (by assumption)]
         exact ⟨_, _, rfl, rfl, by rw [hq]; exact ⟨r1.1, hR.bq r1.2⟩⟩)
      | (have hq : fHold nt np r a1 a2 = (-1000001, nt, np, r) := by
           unfold fHold
           rw [if_pos (by assumption)]
         exact ⟨_, _, rfl, rfl, by rw [hq]; exact ⟨r3.1, hR.bq r3.2⟩⟩)
      | (have hq : fHold nt np r a1 a2 = (-1000001, nt, np, r) := by
           unfold fHold
           rw [if_pos (by assumption)]
         exact ⟨_, _, rfl, rfl, by rw [hq]; exact ⟨r4.1, hR.bq r4.2⟩⟩)
      | (have hq : fHold nt np r a1 a2 = (-1000001, nt, np, r) := by
           unfold fHold
           rw [if_pos (by assumption)]
         exact ⟨_, _, rfl, rfl, by rw [hq]; exact ⟨r5.1, hR.bq r5.2⟩⟩)
      | (have hq : fHold nt np r a1 a2 = (-1000001, nt, np, r) := by
           unfold fHold
           rw [if_pos (by assumption)]
         exact ⟨_, _, rfl, rfl, by rw [hq]; exact ⟨r6.1, hR.bq r6.2⟩⟩)
      | (have hq : fHold nt np r a1 a2 = (-1000001, nt, np, r) := by
           unfold fHold
           rw [if_pos (by assumption)]
         exact ⟨_, _, rfl, rfl, by rw [hq]; exact ⟨r7.1, hR.bq r7.2⟩⟩)
      | (have hq : fHold nt np r a1 a2 = (-1000001, nt, np, r) := by
           unfold fHold
           rw [if_pos (by assumption)]
         exact ⟨_, _, rfl, rfl, by rw [hq]; exact ⟨r8.1, hR.bq r8.2⟩⟩)
      | (have hq : fHold nt np r (nI s) a2 = (-1000001, nt, np, r) := by
           unfold fHold
           rw [if_neg (by assumption), if_neg (by assumption), if_pos (by assumption)]
         exact ⟨_, _, rfl, rfl, by rw [hq]; exact ⟨r1.1, hR.bq r1.2⟩⟩)
      | (have hq : fHold nt np r (nI s) a2 = (-1000001, nt, np, r) := by
           unfold fHold
           rw [if_neg (by assumption), if_neg (by assumption), if_pos (by assumption)]
         exact ⟨_, _, rfl, rfl, by rw [hq]; exact ⟨r3.1, hR.bq r3.2⟩⟩)
      | (have hq : fHold nt np r (nI s) a2 = (-1000001, nt, np, r) := by
           unfold fHold
           rw [if_neg (by assumption), if_neg (by assumption), if_pos (by assumption)]
         exact ⟨_, _, rfl, rfl, by rw [hq]; exact ⟨r4.1, hR.bq r4.2⟩⟩)
      | (have hq : fHold nt np r (nI s) a2 = (-1000001, nt, np, r) := by
           unfold fHold
           rw [if_neg (by assumption), if_neg (by assumption), if_pos (by assumption)]
         exact ⟨_, _, rfl, rfl, by rw [hq]; exact ⟨r5.1, hR.bq r5.2⟩⟩)
      | (have hq : fHold nt np r (nI s) a2 = (-1000001, nt, np, r) := by
           unfold fHold
           rw [if_neg (by assumption), if_neg (by assumption), if_pos (by assumption)]
         exact ⟨_, _, rfl, rfl, by rw [hq]; exact ⟨r6.1, hR.bq r6.2⟩⟩)
      | (have hq : fHold nt np r (nI s) a2 = (-1000001, nt, np, r) := by
           unfold fHold
           rw [if_neg (by assumption), if_neg (by assumption), if_pos (by assumption)]
         exact ⟨_, _, rfl, rfl, by rw [hq]; exact ⟨r7.1, hR.bq r7.2⟩⟩)
      | (have hq : fHold nt np r (nI s) a2 = (-1000001, nt, np, r) := by
           unfold fHold
           rw [if_neg (by assumption), if_neg (by assumption), if_pos (by assumption)]
         exact ⟨_, _, rfl, rfl, by rw [hq]; exact ⟨r8.1, hR.bq r8.2⟩⟩)
  · obtain ⟨s, hs, rfl⟩ := le_k (by omega) (bI_ne0 h1)
    refine x_iload_n hm rfl rfl ?_
    refine x_iconst hm rfl (v := (-1 : Int32)) (by decide) ?_
    refine x_icmp_eq hm rfl (t := 33) rfl (fun h3 => ?_) (fun h3 => ?_)
    · refine x_aload_n hm rfl rfl ?_
      refine x_getf hm rfl (gR rfl rfl) ?_
      refine x_getf hm rfl (gR rfl rfl) ?_
      refine x_iload_n hm rfl rfl ?_
      refine x_iload_n hm rfl rfl ?_
      refine x_iast hm rfl (sI rfl (by omega) (by decide)) ?_
      refine x_iconst hm rfl (v := nI 1) (by decide) ?_
      refine x_iret hm rfl rfl (by first | rfl | exact bI_nar | decide) ?_
      first
        | (have hq : fHold nt np r (nI s) a2 = (nI 1, nt, np, put1 r (4 + (nI s).toNatClampNeg) a2) := by
             unfold fHold
             rw [if_neg (by assumption), if_pos (by assumption)]
           exact ⟨_, _, rfl, rfl, by rw [hq]; exact ⟨rfl, (by rw [jI_nat (by omega)]; exact hR.ps (by omega) : Rel 1 nt np _ _).tm (mpn (by omega)) (fun a ha => mpo (by omega))⟩⟩)
        | (have hq : fHold nt np r (nI s) a2 = (nI 1, nt, np, put1 r (4 + (nI s).toNatClampNeg) a2) := by
             unfold fHold
             rw [if_neg (by assumption), if_neg (by assumption), if_neg (by assumption)]
           exact ⟨_, _, rfl, rfl, by rw [hq]; exact ⟨rfl, (by rw [jI_nat (by omega)]; exact hR.ps (by omega) : Rel 1 nt np _ _).tm (mpn (by omega)) (fun a ha => mpo (by omega))⟩⟩)
    · refine x_aload_n hm rfl rfl ?_
      refine x_getf hm rfl (gR rfl rfl) ?_
      refine x_iload_n hm rfl rfl ?_
      refine x_callV hm rfl rfl (t19 (by decide)) ?_
      rw [hR.2.1]
      refine x_if_ne hm rfl (t := 33) rfl (fun h4 => ?_) (fun h4 => ?_)
      · refine x_aload_n hm rfl rfl ?_
        refine x_getf hm rfl (gR rfl rfl) ?_
        refine x_getf hm rfl (gR rfl rfl) ?_
        refine x_iload_n hm rfl rfl ?_
        refine x_iload_n hm rfl rfl ?_
        refine x_iast hm rfl (sI rfl (by omega) (by decide)) ?_
        refine x_iconst hm rfl (v := nI 1) (by decide) ?_
        refine x_iret hm rfl rfl (by first | rfl | exact bI_nar | decide) ?_
        first
          | (have hq : fHold nt np r (nI s) a2 = (nI 1, nt, np, put1 r (4 + (nI s).toNatClampNeg) a2) := by
               unfold fHold
               rw [if_neg (by assumption), if_pos (by assumption)]
             exact ⟨_, _, rfl, rfl, by rw [hq]; exact ⟨rfl, (by rw [jI_nat (by omega)]; exact hR.ps (by omega) : Rel 1 nt np _ _).tm (mpn (by omega)) (fun a ha => mpo (by omega))⟩⟩)
          | (have hq : fHold nt np r (nI s) a2 = (nI 1, nt, np, put1 r (4 + (nI s).toNatClampNeg) a2) := by
               unfold fHold
               rw [if_neg (by assumption), if_neg (by assumption), if_neg (by assumption)]
             exact ⟨_, _, rfl, rfl, by rw [hq]; exact ⟨rfl, (by rw [jI_nat (by omega)]; exact hR.ps (by omega) : Rel 1 nt np _ _).tm (mpn (by omega)) (fun a ha => mpo (by omega))⟩⟩)
      · refine x_aload_n hm rfl rfl ?_
        refine x_ldcI hm rfl (v := (-1000001 : Int32)) (by decide +kernel) ?_
        refine x_cVi hm rfl rfl (t7 (by decide +kernel)) (fun v5 M5 r5 => ?_)
        refine x_iret hm rfl rfl (by first | rfl | exact bI_nar | decide) ?_
        first
          | (have hq : fHold nt np r a1 a2 = (-1000001, nt, np, r) := by
               unfold fHold
               rw [if_pos (by assumption)]
             exact ⟨_, _, rfl, rfl, by rw [hq]; exact ⟨r5.1, hR.bq r5.2⟩⟩)
          | (have hq : fHold nt np r (nI s) a2 = (-1000001, nt, np, r) := by
               unfold fHold
               rw [if_neg (by assumption), if_neg (by assumption), if_pos (by assumption)]
             exact ⟨_, _, rfl, rfl, by rw [hq]; exact ⟨r5.1, hR.bq r5.2⟩⟩)
          | (have hq : fHold nt np r a1 a2 = (-1000001, nt, np, r) := by
               unfold fHold
               rw [if_pos (by assumption)]
             exact ⟨_, _, rfl, rfl, by rw [hq]; exact ⟨r1.1, hR.bq r1.2⟩⟩)
          | (have hq : fHold nt np r a1 a2 = (-1000001, nt, np, r) := by
               unfold fHold
               rw [if_pos (by assumption)]
             exact ⟨_, _, rfl, rfl, by rw [hq]; exact ⟨r2.1, hR.bq r2.2⟩⟩)
          | (have hq : fHold nt np r a1 a2 = (-1000001, nt, np, r) := by
               unfold fHold
               rw [if_pos (by assumption)]
             exact ⟨_, _, rfl, rfl, by rw [hq]; exact ⟨r3.1, hR.bq r3.2⟩⟩)
          | (have hq : fHold nt np r a1 a2 = (-1000001, nt, np, r) := by
               unfold fHold
               rw [if_pos (by assumption)]
             exact ⟨_, _, rfl, rfl, by rw [hq]; exact ⟨r4.1, hR.bq r4.2⟩⟩)
          | (have hq : fHold nt np r a1 a2 = (-1000001, nt, np, r) := by
               unfold fHold
               rw [if_pos (by assumption)]
             exact ⟨_, _, rfl, rfl, by rw [hq]; exact ⟨r6.1, hR.bq r6.2⟩⟩)
          | (have hq : fHold nt np r a1 a2 = (-1000001, nt, np, r) := by
               unfold fHold
               rw [if_pos (by assumption)]
             exact ⟨_, _, rfl, rfl, by rw [hq]; exact ⟨r7.1, hR.bq r7.2⟩⟩)
          | (have hq : fHold nt np r a1 a2 = (-1000001, nt, np, r) := by
               unfold fHold
               rw [if_pos (by assumption)]
             exact ⟨_, _, rfl, rfl, by rw [hq]; exact ⟨r8.1, hR.bq r8.2⟩⟩)
          | (have hq : fHold nt np r (nI s) a2 = (-1000001, nt, np, r) := by
               unfold fHold
               rw [if_neg (by assumption), if_neg (by assumption), if_pos (by assumption)]
             exact ⟨_, _, rfl, rfl, by rw [hq]; exact ⟨r1.1, hR.bq r1.2⟩⟩)
          | (have hq : fHold nt np r (nI s) a2 = (-1000001, nt, np, r) := by
               unfold fHold
               rw [if_neg (by assumption), if_neg (by assumption), if_pos (by assumption)]
             exact ⟨_, _, rfl, rfl, by rw [hq]; exact ⟨r2.1, hR.bq r2.2⟩⟩)
          | (have hq : fHold nt np r (nI s) a2 = (-1000001, nt, np, r) := by
               unfold fHold
               rw [if_neg (by assumption), if_neg (by assumption), if_pos (by assumption)]
             exact ⟨_, _, rfl, rfl, by rw [hq]; exact ⟨r3.1, hR.bq r3.2⟩⟩)
          | (have hq : fHold nt np r (nI s) a2 = (-1000001, nt, np, r) := by
               unfold fHold
               rw [if_neg (by assumption), if_neg (by assumption), if_pos (by assumption)]
             exact ⟨_, _, rfl, rfl, by rw [hq]; exact ⟨r4.1, hR.bq r4.2⟩⟩)
          | (have hq : fHold nt np r (nI s) a2 = (-1000001, nt, np, r) := by
               unfold fHold
               rw [if_neg (by assumption), if_neg (by assumption), if_pos (by assumption)]
             exact ⟨_, _, rfl, rfl, by rw [hq]; exact ⟨r6.1, hR.bq r6.2⟩⟩)
          | (have hq : fHold nt np r (nI s) a2 = (-1000001, nt, np, r) := by
               unfold fHold
               rw [if_neg (by assumption), if_neg (by assumption), if_pos (by assumption)]
             exact ⟨_, _, rfl, rfl, by rw [hq]; exact ⟨r7.1, hR.bq r7.2⟩⟩)
          | (have hq : fHold nt np r (nI s) a2 = (-1000001, nt, np, r) := by
               unfold fHold
               rw [if_neg (by assumption), if_neg (by assumption), if_pos (by assumption)]
             exact ⟨_, _, rfl, rfl, by rw [hq]; exact ⟨r8.1, hR.bq r8.2⟩⟩)
end EJ
