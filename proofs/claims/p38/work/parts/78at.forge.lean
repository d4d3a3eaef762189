section FO
variable {X : mSc} {Q : Option Value → mHp → Prop} {M : mM}
variable {nt np : Nat} {r : Nat → Int32}
theorem g17 {a1 a2 a3 : Int32} (hR : Rel 1 nt np M r) (hn8 : nt ≤ 8) (hp8 : np ≤ 8) (hV : Vs nt np r) : ∃ v M', mT X 17 [.ref 0, .int a1, .int a2, .int a3] (con M) (some (.int v)) (con M') ∧ Tq (fForge nt np r a1 a2 a3) v M M' := by
  refine ti_of (row := _) rfl (Nat.le_of_ble_eq_true rfl) ?_
  have hm : mMet 17 = some _ := rfl
  refine x_aload_n hm rfl rfl ?_
  refine x_getf hm rfl (gR rfl rfl) ?_
  refine x_iload_n hm rfl rfl ?_
  refine x_callV hm rfl rfl (t10 (by decide)) ?_
  rw [hR.1]
  refine x_if_eq hm rfl (t := 21) rfl (fun h1 => ?_) (fun h1 => ?_)
  · refine x_aload_n hm rfl rfl ?_
    refine x_ldcI hm rfl (v := (-1000001 : Int32)) (by decide +kernel) ?_
    refine x_cVi hm rfl rfl (t7 (by decide +kernel)) (fun v2 M2 r2 => ?_)
    refine x_iret hm rfl rfl (by first | rfl | exact bI_nar | decide) ?_
    first
      | (have hq : fForge nt np r a1 a2 a3 = (-1000001, nt, np, r) := by
           unfold fForge
           rw [if_pos (by assumption)]
         exact ⟨_, _, rfl, rfl, by rw [hq]; exact ⟨r2.1, hR.bq r2.2⟩⟩)
      | (have hq : fForge nt np r (nI t) a2 a3 = (-1000001, nt, np, r) := by
           unfold fForge
           rw [if_neg (by assumption), if_pos (by assumption)]
         exact ⟨_, _, rfl, rfl, by rw [hq]; exact ⟨r2.1, hR.bq r2.2⟩⟩)
      | (have hq : fForge nt np r a1 a2 a3 = (-1000001, nt, np, r) := by
           unfold fForge
           rw [if_pos (by assumption)]
         exact ⟨_, _, rfl, rfl, by rw [hq]; exact ⟨r1.1, hR.bq r1.2⟩⟩)
      | (have hq : fForge nt np r a1 a2 a3 = (-1000001, nt, np, r) := by
           unfold fForge
           rw [if_pos (by assumption)]
         exact ⟨_, _, rfl, rfl, by rw [hq]; exact ⟨r3.1, hR.bq r3.2⟩⟩)
      | (have hq : fForge nt np r a1 a2 a3 = (-1000001, nt, np, r) := by
           unfold fForge
           rw [if_pos (by assumption)]
         exact ⟨_, _, rfl, rfl, by rw [hq]; exact ⟨r4.1, hR.bq r4.2⟩⟩)
      | (have hq : fForge nt np r a1 a2 a3 = (-1000001, nt, np, r) := by
           unfold fForge
           rw [if_pos (by assumption)]
         exact ⟨_, _, rfl, rfl, by rw [hq]; exact ⟨r5.1, hR.bq r5.2⟩⟩)
      | (have hq : fForge nt np r a1 a2 a3 = (-1000001, nt, np, r) := by
           unfold fForge
           rw [if_pos (by assumption)]
         exact ⟨_, _, rfl, rfl, by rw [hq]; exact ⟨r6.1, hR.bq r6.2⟩⟩)
      | (have hq : fForge nt np r a1 a2 a3 = (-1000001, nt, np, r) := by
           unfold fForge
           rw [if_pos (by assumption)]
         exact ⟨_, _, rfl, rfl, by rw [hq]; exact ⟨r7.1, hR.bq r7.2⟩⟩)
      | (have hq : fForge nt np r a1 a2 a3 = (-1000001, nt, np, r) := by
           unfold fForge
           rw [if_pos (by assumption)]
         exact ⟨_, _, rfl, rfl, by rw [hq]; exact ⟨r8.1, hR.bq r8.2⟩⟩)
      | (have hq : fForge nt np r (nI t) a2 a3 = (-1000001, nt, np, r) := by
           unfold fForge
           rw [if_neg (by assumption), if_pos (by assumption)]
         exact ⟨_, _, rfl, rfl, by rw [hq]; exact ⟨r1.1, hR.bq r1.2⟩⟩)
      | (have hq : fForge nt np r (nI t) a2 a3 = (-1000001, nt, np, r) := by
           unfold fForge
           rw [if_neg (by assumption), if_pos (by assumption)]
         exact ⟨_, _, rfl, rfl, by rw [hq]; exact ⟨r3.1, hR.bq r3.2⟩⟩)
      | (have hq : fForge nt np r (nI t) a2 a3 = (-1000001, nt, np, r) := by
           unfold fForge
           rw [if_neg (by assumption), if_pos (by assumption)]
         exact ⟨_, _, rfl, rfl, by rw [hq]; exact ⟨r4.1, hR.bq r4.2⟩⟩)
      | (have hq : fForge nt np r (nI t) a2 a3 = (-1000001, nt, np, r) := by
           unfold fForge
           rw [if_neg (by assumption), if_pos (by assumption)]
         exact ⟨_, _, rfl, rfl, by rw [hq]; exact ⟨r5.1, hR.bq r5.2⟩⟩)
      | (have hq : fForge nt np r (nI t) a2 a3 = (-1000001, nt, np, r) := by
           unfold fForge
           rw [if_neg (by assumption), if_pos (by assumption)]
         exact ⟨_, _, rfl, rfl, by rw [hq]; exact ⟨r6.1, hR.bq r6.2⟩⟩)
      | (have hq : fForge nt np r (nI t) a2 a3 = (-1000001, nt, np, r) := by
           unfold fForge
           rw [if_neg (by assumption), if_pos (by assumption)]
         exact ⟨_, _, rfl, rfl, by rw [hq]; exact ⟨r7.1, hR.bq r7.2⟩⟩)
      | (have hq : fForge nt np r (nI t) a2 a3 = (-1000001, nt, np, r) := by
           unfold fForge
           rw [if_neg (by assumption), if_pos (by assumption)]
         exact ⟨_, _, rfl, rfl, by rw [hq]; exact ⟨r8.1, hR.bq r8.2⟩⟩)
  · obtain ⟨t, ht, rfl⟩ := in_k rfl (by omega) (bI_ne0 h1)
    refine x_aload_n hm rfl rfl ?_
    refine x_iload_n hm rfl rfl ?_
    refine x_iload_n hm rfl rfl ?_
    refine x_iload_n hm rfl rfl ?_
    refine x_callV hm rfl rfl (g18 hR) ?_
    refine x_if_ne hm rfl (t := 28) rfl (fun h3 => ?_) (fun h3 => ?_)
    · have hmf := bI_ne0 h3
      have hz : bI (mayF nt np (nI t) a2 a3) ≠ 0 := h3
      obtain ⟨f, hf, rfl⟩ := mayF_f hmf
      refine x_iload_n hm rfl rfl ?_
      refine x_iconst hm rfl (v := nI 5) (by decide) ?_
      refine x_icmp_ne hm rfl (t := 60) rfl (fun h4 => ?_) (fun h4 => ?_)
      · have hnc : ¬ fgC r (nI t) (nI f) a3 := fun z => h4 z.1
        refine x_aload_n hm rfl rfl ?_
        refine x_getf hm rfl (gR rfl rfl) ?_
        refine x_getf hm rfl (gR rfl rfl) ?_
        refine x_iload_n hm rfl rfl ?_
        refine x_aald hm rfl (lQ 3 (Or.inr (Or.inl rfl)) (tI (b := 1) (by decide)) (tIk (by omega)) (by omega) (by decide)) ?_
        refine x_iload_n hm rfl rfl ?_
        refine x_iald hm rfl (lI (tRowI (b := 1) (by decide) (by omega)) (by omega) (by decide)) ?_
        refine x_istore hm rfl rfl ?_
        refine x_aload_n hm rfl rfl ?_
        refine x_getf hm rfl (gR rfl rfl) ?_
        refine x_getf hm rfl (gR rfl rfl) ?_
        refine x_iload_n hm rfl rfl ?_
        refine x_aald hm rfl (lQ 3 (Or.inr (Or.inl rfl)) (tI (b := 1) (by decide)) (tIk (by omega)) (by omega) (by decide)) ?_
        refine x_iload_n hm rfl rfl ?_
        refine x_iload_n hm rfl rfl ?_
        refine x_iast hm rfl (sI (tRowI (b := 1) (by decide) (by omega)) (by omega) (by decide)) ?_
        refine x_iload hm rfl rfl ?_
        refine x_iret hm rfl rfl (by first | rfl | exact bI_nar | decide) ?_
        first
          | (have hq : fForge nt np r (nI t) (nI f) a3 = (r (14 + 6 * t + f), nt, np, put1 r (14 + 6 * t + f) a3) := by
               unfold fForge
               rw [if_neg (by assumption), if_neg (by assumption), if_neg hnc]
               rw [jI_nat (k := t) (by omega)]
               rw [jI_nat (k := f) (by omega)]
             exact ⟨_, _, rfl, rfl, by rw [hq]; exact ⟨hR.iron hf ht, (hR.pi hn8 hf ht).tm (mpn (by omega)) (fun a ha => mpo (by omega))⟩⟩)
          | (have hq : fForge nt np r (nI t) (nI 5) a3 = (r (14 + 6 * t + 5), nt, np, put1 r (14 + 6 * t + 5) a3) := by
               unfold fForge
               rw [if_neg (by assumption), if_neg (by assumption), if_neg hnc]
               rw [jI_nat (k := t) (by omega)]
               rw [jI_nat (k := 5) (by omega)]
             exact ⟨_, _, rfl, rfl, by rw [hq]; exact ⟨hR.iron hf ht, (hR.pi hn8 hf ht).tm (mpn (by omega)) (fun a ha => mpo (by omega))⟩⟩)
          | (have hq : fForge nt np r (nI t) (nI 5) (nI w) = (r (14 + 6 * t + 5), nt, np, put1 r (14 + 6 * t + 5) (nI w)) := by
               unfold fForge
               rw [if_neg (by assumption), if_neg (by assumption), if_neg hnc]
               rw [jI_nat (k := t) (by omega)]
               rw [jI_nat (k := 5) (by omega)]
             exact ⟨_, _, rfl, rfl, by rw [hq]; exact ⟨hR.iron hf ht, (hR.pi hn8 hf ht).tm (mpn (by omega)) (fun a ha => mpo (by omega))⟩⟩)
      · obtain rfl : f = 5 := jI_inj (by omega) (by decide) h4
        refine x_iload_n hm rfl rfl ?_
        refine x_iconst hm rfl (v := (-1 : Int32)) (by decide) ?_
        refine x_icmp_eq hm rfl (t := 60) rfl (fun h5 => ?_) (fun h5 => ?_)
        · have hnc : ¬ fgC r (nI t) (nI 5) a3 := fun z => z.2.1 h5
          refine x_aload_n hm rfl rfl ?_
          refine x_getf hm rfl (gR rfl rfl) ?_
          refine x_getf hm rfl (gR rfl rfl) ?_
          refine x_iload_n hm rfl rfl ?_
          refine x_aald hm rfl (lQ 3 (Or.inr (Or.inl rfl)) (tI (b := 1) (by decide)) (tIk (by omega)) (by omega) (by decide)) ?_
          refine x_iload_n hm rfl rfl ?_
          refine x_iald hm rfl (lI (tRowI (b := 1) (by decide) (by omega)) (by omega) (by decide)) ?_
          refine x_istore hm rfl rfl ?_
          refine x_aload_n hm rfl rfl ?_
          refine x_getf hm rfl (gR rfl rfl) ?_
          refine x_getf hm rfl (gR rfl rfl) ?_
          refine x_iload_n hm rfl rfl ?_
          refine x_aald hm rfl (lQ 3 (Or.inr (Or.inl rfl)) (tI (b := 1) (by decide)) (tIk (by omega)) (by omega) (by decide)) ?_
          refine x_iload_n hm rfl rfl ?_
          refine x_iload_n hm rfl rfl ?_
          refine x_iast hm rfl (sI (tRowI (b := 1) (by decide) (by omega)) (by omega) (by decide)) ?_
          refine x_iload hm rfl rfl ?_
          refine x_iret hm rfl rfl (by first | rfl | exact bI_nar | decide) ?_
          first
            | (have hq : fForge nt np r (nI t) (nI f) a3 = (r (14 + 6 * t + f), nt, np, put1 r (14 + 6 * t + f) a3) := by
                 unfold fForge
                 rw [if_neg (by assumption), if_neg (by assumption), if_neg hnc]
                 rw [jI_nat (k := t) (by omega)]
                 rw [jI_nat (k := f) (by omega)]
               exact ⟨_, _, rfl, rfl, by rw [hq]; exact ⟨hR.iron hf ht, (hR.pi hn8 hf ht).tm (mpn (by omega)) (fun a ha => mpo (by omega))⟩⟩)
            | (have hq : fForge nt np r (nI t) (nI 5) a3 = (r (14 + 6 * t + 5), nt, np, put1 r (14 + 6 * t + 5) a3) := by
                 unfold fForge
                 rw [if_neg (by assumption), if_neg (by assumption), if_neg hnc]
                 rw [jI_nat (k := t) (by omega)]
                 rw [jI_nat (k := 5) (by omega)]
               exact ⟨_, _, rfl, rfl, by rw [hq]; exact ⟨hR.iron hf ht, (hR.pi hn8 hf ht).tm (mpn (by omega)) (fun a ha => mpo (by omega))⟩⟩)
            | (have hq : fForge nt np r (nI t) (nI 5) (nI w) = (r (14 + 6 * t + 5), nt, np, put1 r (14 + 6 * t + 5) (nI w)) := by
                 unfold fForge
                 rw [if_neg (by assumption), if_neg (by assumption), if_neg hnc]
                 rw [jI_nat (k := t) (by omega)]
                 rw [jI_nat (k := 5) (by omega)]
               exact ⟨_, _, rfl, rfl, by rw [hq]; exact ⟨hR.iron hf ht, (hR.pi hn8 hf ht).tm (mpn (by omega)) (fun a ha => mpo (by omega))⟩⟩)
        · have hv5 := ((mayF_5 rfl).mpr hmf).resolve_left h5
          obtain ⟨w, hw, rfl⟩ := in_k rfl (by omega) hv5.1
          refine x_aload_n hm rfl rfl ?_
          refine x_getf hm rfl (gR rfl rfl) ?_
          refine x_iload_n hm rfl rfl ?_
          refine x_callV hm rfl rfl (g20 (by decide) hR hV ht) ?_
          refine x_iload_n hm rfl rfl ?_
          refine x_callS hm rfl rfl (g21 (wS_lt hn8) (by omega)) ?_
          refine x_if_eq hm rfl (t := 60) rfl (fun h6 => ?_) (fun h6 => ?_)
          · have hnc : ¬ fgC r (nI t) (nI 5) (nI w) := fun z => by
              have z3 := z.2.2
              rw [jI_nat (by omega), jI_nat (by omega)] at z3
              exact bI_eq0.mp h6 (wS_tb.mpr ⟨hw, z3⟩)
            refine x_aload_n hm rfl rfl ?_
            refine x_getf hm rfl (gR rfl rfl) ?_
            refine x_getf hm rfl (gR rfl rfl) ?_
            refine x_iload_n hm rfl rfl ?_
            refine x_aald hm rfl (lQ 3 (Or.inr (Or.inl rfl)) (tI (b := 1) (by decide)) (tIk (by omega)) (by omega) (by decide)) ?_
            refine x_iload_n hm rfl rfl ?_
            refine x_iald hm rfl (lI (tRowI (b := 1) (by decide) (by omega)) (by omega) (by decide)) ?_
            refine x_istore hm rfl rfl ?_
            refine x_aload_n hm rfl rfl ?_
            refine x_getf hm rfl (gR rfl rfl) ?_
            refine x_getf hm rfl (gR rfl rfl) ?_
            refine x_iload_n hm rfl rfl ?_
            refine x_aald hm rfl (lQ 3 (Or.inr (Or.inl rfl)) (tI (b := 1) (by decide)) (tIk (by omega)) (by omega) (by decide)) ?_
            refine x_iload_n hm rfl rfl ?_
            refine x_iload_n hm rfl rfl ?_
            refine x_iast hm rfl (sI (tRowI (b := 1) (by decide) (by omega)) (by omega) (by decide)) ?_
            refine x_iload hm rfl rfl ?_
            refine x_iret hm rfl rfl (by first | rfl | exact bI_nar | decide) ?_
            first
              | (have hq : fForge nt np r (nI t) (nI f) a3 = (r (14 + 6 * t + f), nt, np, put1 r (14 + 6 * t + f) a3) := by
                   unfold fForge
                   rw [if_neg (by assumption), if_neg (by assumption), if_neg hnc]
                   rw [jI_nat (k := t) (by omega)]
                   rw [jI_nat (k := f) (by omega)]
                 exact ⟨_, _, rfl, rfl, by rw [hq]; exact ⟨hR.iron hf ht, (hR.pi hn8 hf ht).tm (mpn (by omega)) (fun a ha => mpo (by omega))⟩⟩)
              | (have hq : fForge nt np r (nI t) (nI 5) a3 = (r (14 + 6 * t + 5), nt, np, put1 r (14 + 6 * t + 5) a3) := by
                   unfold fForge
                   rw [if_neg (by assumption), if_neg (by assumption), if_neg hnc]
                   rw [jI_nat (k := t) (by omega)]
                   rw [jI_nat (k := 5) (by omega)]
                 exact ⟨_, _, rfl, rfl, by rw [hq]; exact ⟨hR.iron hf ht, (hR.pi hn8 hf ht).tm (mpn (by omega)) (fun a ha => mpo (by omega))⟩⟩)
              | (have hq : fForge nt np r (nI t) (nI 5) (nI w) = (r (14 + 6 * t + 5), nt, np, put1 r (14 + 6 * t + 5) (nI w)) := by
                   unfold fForge
                   rw [if_neg (by assumption), if_neg (by assumption), if_neg hnc]
                   rw [jI_nat (k := t) (by omega)]
                   rw [jI_nat (k := 5) (by omega)]
                 exact ⟨_, _, rfl, rfl, by rw [hq]; exact ⟨hR.iron hf ht, (hR.pi hn8 hf ht).tm (mpn (by omega)) (fun a ha => mpo (by omega))⟩⟩)
          · have hcy : fgC r (nI t) (nI 5) (nI w) := ⟨rfl, fun q => absurd (Int32.not_lt.mp (jI_nn (show w < 2147483648 by omega))) (by rw [q]; decide), by rw [jI_nat (by omega), jI_nat (by omega)]; exact (wS_tb.mp (bI_ne0 h6)).2⟩
            refine x_aload_n hm rfl rfl ?_
            refine x_ldcI hm rfl (v := (-1000005 : Int32)) (by decide +kernel) ?_
            refine x_cVi hm rfl rfl (t7 (by decide +kernel)) (fun v7 M7 r7 => ?_)
            refine x_iret hm rfl rfl (by first | rfl | exact bI_nar | decide) ?_
            have hq : fForge nt np r (nI t) (nI 5) (nI w) = (-1000005, nt, np, r) := by
              unfold fForge
              rw [if_neg (by assumption), if_neg (by assumption), if_pos hcy]
            exact ⟨_, _, rfl, rfl, by rw [hq]; exact ⟨r7.1, hR.bq r7.2⟩⟩
    · refine x_aload_n hm rfl rfl ?_
      refine x_ldcI hm rfl (v := (-1000001 : Int32)) (by decide +kernel) ?_
      refine x_cVi hm rfl rfl (t7 (by decide +kernel)) (fun v8 M8 r8 => ?_)
      refine x_iret hm rfl rfl (by first | rfl | exact bI_nar | decide) ?_
      first
        | (have hq : fForge nt np r a1 a2 a3 = (-1000001, nt, np, r) := by
             unfold fForge
             rw [if_pos (by assumption)]
           exact ⟨_, _, rfl, rfl, by rw [hq]; exact ⟨r8.1, hR.bq r8.2⟩⟩)
        | (have hq : fForge nt np r (nI t) a2 a3 = (-1000001, nt, np, r) := by
             unfold fForge
             rw [if_neg (by assumption), if_pos (by assumption)]
           exact ⟨_, _, rfl, rfl, by rw [hq]; exact ⟨r8.1, hR.bq r8.2⟩⟩)
        | (have hq : fForge nt np r a1 a2 a3 = (-1000001, nt, np, r) := by
             unfold fForge
             rw [if_pos (by assumption)]
           exact ⟨_, _, rfl, rfl, by rw [hq]; exact ⟨r1.1, hR.bq r1.2⟩⟩)
        | (have hq : fForge nt np r a1 a2 a3 = (-1000001, nt, np, r) := by
             unfold fForge
             rw [if_pos (by assumption)]
           exact ⟨_, _, rfl, rfl, by rw [hq]; exact ⟨r2.1, hR.bq r2.2⟩⟩)
        | (have hq : fForge nt np r a1 a2 a3 = (-1000001, nt, np, r) := by
             unfold fForge
             rw [if_pos (by assumption)]
           exact ⟨_, _, rfl, rfl, by rw [hq]; exact ⟨r3.1, hR.bq r3.2⟩⟩)
        | (have hq : fForge nt np r a1 a2 a3 = (-1000001, nt, np, r) := by
             unfold fForge
             rw [if_pos (by assumption)]
           exact ⟨_, _, rfl, rfl, by rw [hq]; exact ⟨r4.1, hR.bq r4.2⟩⟩)
        | (have hq : fForge nt np r a1 a2 a3 = (-1000001, nt, np, r) := by
             unfold fForge
             rw [if_pos (by assumption)]
           exact ⟨_, _, rfl, rfl, by rw [hq]; exact ⟨r5.1, hR.bq r5.2⟩⟩)
        | (have hq : fForge nt np r a1 a2 a3 = (-1000001, nt, np, r) := by
             unfold fForge
             rw [if_pos (by assumption)]
           exact ⟨_, _, rfl, rfl, by rw [hq]; exact ⟨r6.1, hR.bq r6.2⟩⟩)
        | (have hq : fForge nt np r a1 a2 a3 = (-1000001, nt, np, r) := by
             unfold fForge
             rw [if_pos (by assumption)]
           exact ⟨_, _, rfl, rfl, by rw [hq]; exact ⟨r7.1, hR.bq r7.2⟩⟩)
        | (have hq : fForge nt np r (nI t) a2 a3 = (-1000001, nt, np, r) := by
             unfold fForge
             rw [if_neg (by assumption), if_pos (by assumption)]
           exact ⟨_, _, rfl, rfl, by rw [hq]; exact ⟨r1.1, hR.bq r1.2⟩⟩)
        | (have hq : fForge nt np r (nI t) a2 a3 = (-1000001, nt, np, r) := by
             unfold fForge
             rw [if_neg (by assumption), if_pos (by assumption)]
           exact ⟨_, _, rfl, rfl, by rw [hq]; exact ⟨r2.1, hR.bq r2.2⟩⟩)
        | (have hq : fForge nt np r (nI t) a2 a3 = (-1000001, nt, np, r) := by
             unfold fForge
             rw [if_neg (by assumption), if_pos (by assumption)]
           exact ⟨_, _, rfl, rfl, by rw [hq]; exact ⟨r3.1, hR.bq r3.2⟩⟩)
        | (have hq : fForge nt np r (nI t) a2 a3 = (-1000001, nt, np, r) := by
             unfold fForge
             rw [if_neg (by assumption), if_pos (by assumption)]
           exact ⟨_, _, rfl, rfl, by rw [hq]; exact ⟨r4.1, hR.bq r4.2⟩⟩)
        | (have hq : fForge nt np r (nI t) a2 a3 = (-1000001, nt, np, r) := by
             unfold fForge
             rw [if_neg (by assumption), if_pos (by assumption)]
           exact ⟨_, _, rfl, rfl, by rw [hq]; exact ⟨r5.1, hR.bq r5.2⟩⟩)
        | (have hq : fForge nt np r (nI t) a2 a3 = (-1000001, nt, np, r) := by
             unfold fForge
             rw [if_neg (by assumption), if_pos (by assumption)]
           exact ⟨_, _, rfl, rfl, by rw [hq]; exact ⟨r6.1, hR.bq r6.2⟩⟩)
        | (have hq : fForge nt np r (nI t) a2 a3 = (-1000001, nt, np, r) := by
             unfold fForge
             rw [if_neg (by assumption), if_pos (by assumption)]
           exact ⟨_, _, rfl, rfl, by rw [hq]; exact ⟨r7.1, hR.bq r7.2⟩⟩)
end FO
