section EK
variable {X : mSc} {Q : Option Value → mHp → Prop} {M : mM} {nt np : Nat} {r : Nat → Int32}
theorem g161 {a1 a2 a3 : Int32} (h67 : M 67 = r) (hnt : M 67 1 = nI nt) (hn8 : nt ≤ 8) (hnp : M 67 2 = nI np) (hp8 : np ≤ 8) : ∃ v M', mT X 161 [.ref 66, .int a1, .int a2, .int a3] (con M) (some (.int v)) (con M') ∧ Uq (fChange nt np r a1 a2 a3) v M M' := by
  refine ti_of (row := _) rfl (Nat.le_of_ble_eq_true rfl) ?_
  have hm : mMet 161 = some _ := rfl
  have J52 : ∀ (v4 : Int32) (hv : v4 = bI (mayC a2 a3)), mEv X (QI (fun v M' => Uq (fChange nt np r a1 a2 a3) v M M')) 161 52 [some (.ref 66), some (.int a1), some (.int a2), some (.int a3), some (.int v4)] [] (con M) := by
    intro v4 hv
    refine x_aload_n hm rfl rfl ?_
    refine x_iload_n hm rfl rfl ?_
    refine x_callV hm rfl rfl (t153) ?_
    rw [hnp]
    refine x_if_eq hm rfl (t := 78) rfl (fun h1 => ?_) (fun h1 => ?_)
    · refine x_aload_n hm rfl rfl ?_
      refine x_ldcI hm rfl (v := (-1000001 : Int32)) (by decide +kernel) ?_
      refine x_callV hm rfl rfl (e135 (by decide +kernel)) ?_
      refine x_iret hm rfl rfl (by first | rfl | exact bI_nar | decide) ?_
      first
        | (have hq : fChange nt np r a1 a2 a3 = (-1000001, nt, np, r) := by
             unfold fChange
             rw [if_pos (by assumption)]
           exact ⟨_, _, rfl, rfl, by rw [hq]; exact ⟨rfl, fnd_rm h67⟩⟩)
        | (have hq : fChange nt np r (nI p) a2 a3 = (-1000001, nt, np, r) := by
             unfold fChange
             rw [if_neg (by assumption), if_pos (by assumption)]
           exact ⟨_, _, rfl, rfl, by rw [hq]; exact ⟨rfl, fnd_rm h67⟩⟩)
        | (have hq : fChange nt np r (nI p) (nI f) a3 = (r (62 + 7 * p + f), nt, np, put1 r (62 + 7 * p + f) a3) := by
             unfold fChange
             rw [if_neg (by assumption), if_neg (by assumption)]
             rw [jI_nat (k := p) (by omega)]
             rw [jI_nat (k := f) (by omega)]
           exact ⟨_, _, rfl, rfl, by rw [hq]; exact ⟨congrFun h67 _, by rw [← h67]; exact mput67, fun a h _ _ _ => mpo h⟩⟩)
    · obtain ⟨p, hp, rfl⟩ := in_k rfl (by omega) (bI_ne0 h1)
      refine x_iload hm rfl rfl ?_
      rw [hv]
      refine x_if_eq hm rfl (t := 78) rfl (fun h2 => ?_) (fun h2 => ?_)
      · refine x_aload_n hm rfl rfl ?_
        refine x_ldcI hm rfl (v := (-1000001 : Int32)) (by decide +kernel) ?_
        refine x_callV hm rfl rfl (e135 (by decide +kernel)) ?_
        refine x_iret hm rfl rfl (by first | rfl | exact bI_nar | decide) ?_
        first
          | (have hq : fChange nt np r a1 a2 a3 = (-1000001, nt, np, r) := by
               unfold fChange
               rw [if_pos (by assumption)]
             exact ⟨_, _, rfl, rfl, by rw [hq]; exact ⟨rfl, fnd_rm h67⟩⟩)
          | (have hq : fChange nt np r (nI p) a2 a3 = (-1000001, nt, np, r) := by
               unfold fChange
               rw [if_neg (by assumption), if_pos (by assumption)]
             exact ⟨_, _, rfl, rfl, by rw [hq]; exact ⟨rfl, fnd_rm h67⟩⟩)
          | (have hq : fChange nt np r (nI p) (nI f) a3 = (r (62 + 7 * p + f), nt, np, put1 r (62 + 7 * p + f) a3) := by
               unfold fChange
               rw [if_neg (by assumption), if_neg (by assumption)]
               rw [jI_nat (k := p) (by omega)]
               rw [jI_nat (k := f) (by omega)]
             exact ⟨_, _, rfl, rfl, by rw [hq]; exact ⟨congrFun h67 _, by rw [← h67]; exact mput67, fun a h _ _ _ => mpo h⟩⟩)
      · obtain ⟨f, hf, rfl⟩ := mayC_f (bI_ne0 h2)
        refine x_aload_n hm rfl rfl ?_
        refine x_iload_n hm rfl rfl ?_
        refine x_iload_n hm rfl rfl ?_
        refine x_callS hm rfl rfl (t142) ?_
        refine x_iload_n hm rfl rfl ?_
        refine x_callV hm rfl rfl (t155 (by omega)) ?_
        refine x_goto hm rfl (t := 84) rfl ?_
        refine x_iret hm rfl rfl (by first | rfl | exact bI_nar | decide) ?_
        first
          | (have hq : fChange nt np r a1 a2 a3 = (-1000001, nt, np, r) := by
               unfold fChange
               rw [if_pos (by assumption)]
             exact ⟨_, _, rfl, rfl, by rw [hq]; exact ⟨rfl, fnd_rm h67⟩⟩)
          | (have hq : fChange nt np r (nI p) a2 a3 = (-1000001, nt, np, r) := by
               unfold fChange
               rw [if_neg (by assumption), if_pos (by assumption)]
             exact ⟨_, _, rfl, rfl, by rw [hq]; exact ⟨rfl, fnd_rm h67⟩⟩)
          | (have hq : fChange nt np r (nI p) (nI f) a3 = (r (62 + 7 * p + f), nt, np, put1 r (62 + 7 * p + f) a3) := by
               unfold fChange
               rw [if_neg (by assumption), if_neg (by assumption)]
               rw [jI_nat (k := p) (by omega)]
               rw [jI_nat (k := f) (by omega)]
             exact ⟨_, _, rfl, rfl, by rw [hq]; exact ⟨congrFun h67 _, by rw [← h67]; exact mput67, fun a h _ _ _ => mpo h⟩⟩)
  refine x_iload_n hm rfl rfl ?_
  refine x_if_ne hm rfl (t := 11) rfl (fun h3 => ?_) (fun h3 => ?_)
  · have n0 := h3
    refine x_iload_n hm rfl rfl ?_
    refine x_iconst hm rfl (v := nI 1) (by decide) ?_
    refine x_icmp_eq hm rfl (t := 21) rfl (fun h4 => ?_) (fun h4 => ?_)
    · have hv : bI (nI 0 ≤ a3 ∧ a3 ≤ nI 15) = bI (mayC a2 a3) := bIc (mayC_12 (Or.inl h4))
      refine x_iload_n hm rfl rfl ?_
      refine x_callS hm rfl rfl (t134) ?_
      refine x_goto hm rfl (t := 50) rfl ?_
      refine x_istore hm rfl rfl ?_
      exact J52 _ hv
    · have n1 := h4
      refine x_iload_n hm rfl rfl ?_
      refine x_iconst hm rfl (v := nI 2) (by decide) ?_
      refine x_icmp_ne hm rfl (t := 28) rfl (fun h5 => ?_) (fun h5 => ?_)
      · have n2 := h5
        refine x_iload_n hm rfl rfl ?_
        refine x_iconst hm rfl (v := nI 3) (by decide) ?_
        refine x_bipush hm rfl (v := nI 6) (by decide) ?_
        refine x_callS hm rfl rfl (t133) ?_
        refine x_if_eq hm rfl (t := 49) rfl (fun h6 => ?_) (fun h6 => ?_)
        · have hv : nI 0 = bI (mayC a2 a3) := bI_f fun q => bI_eq0.mp h6 ((mayC_e n0 n1 n2).mp q).1
          refine x_iconst hm rfl (v := nI 0) (by decide) ?_
          refine x_istore hm rfl rfl ?_
          exact J52 _ hv
        · have h36 := bI_ne0 h6
          refine x_iload_n hm rfl rfl ?_
          refine x_callS hm rfl rfl (t152) ?_
          refine x_if_eq hm rfl (t := 49) rfl (fun h7 => ?_) (fun h7 => ?_)
          · have hv : nI 0 = bI (mayC a2 a3) := bI_f fun q => bI_eq0.mp h7 ((mayC_e n0 n1 n2).mp q).2
            refine x_iconst hm rfl (v := nI 0) (by decide) ?_
            refine x_istore hm rfl rfl ?_
            exact J52 _ hv
          · have hv : nI 1 = bI (mayC a2 a3) := bI_t ((mayC_e n0 n1 n2).mpr ⟨h36, bI_ne0 h7⟩)
            refine x_iconst hm rfl (v := nI 1) (by decide) ?_
            refine x_goto hm rfl (t := 50) rfl ?_
            refine x_istore hm rfl rfl ?_
            exact J52 _ hv
      · have hv : bI (nI 0 ≤ a3 ∧ a3 ≤ nI 15) = bI (mayC a2 a3) := bIc (mayC_12 (Or.inr h5))
        refine x_iload_n hm rfl rfl ?_
        refine x_callS hm rfl rfl (t134) ?_
        refine x_goto hm rfl (t := 50) rfl ?_
        refine x_istore hm rfl rfl ?_
        exact J52 _ hv
  · have hv : bI (nI 0 ≤ a3 ∧ a3 ≤ nI 6) = bI (mayC a2 a3) := bIc (mayC_0 h3)
    refine x_iload_n hm rfl rfl ?_
    refine x_callS hm rfl rfl (t157) ?_
    refine x_goto hm rfl (t := 50) rfl ?_
    refine x_istore hm rfl rfl ?_
    exact J52 _ hv
theorem g36 {s : Nat} (hs : s < 256) : mT X 36 [.int (nI s)] (con M) (some (.int (sBits 256 (nI 0) (nI s)))) (con M) := by
  refine mT.of (row := _) rfl (Nat.le_of_ble_eq_true rfl) ?_
  have hm : mMet 36 = some _ := rfl
  refine x_iload_n hm rfl rfl ?_
  refine x_iload_n hm rfl rfl ?_
  refine x_iconst hm rfl (v := nI 1) (by decide) ?_
  refine x_iushr hm rfl ?_
  refine x_ldc_wI hm rfl (v := nI 1431655765) (by decide) ?_
  refine x_iand hm rfl ?_
  refine x_isub hm rfl ?_
  refine x_istore_n hm rfl rfl ?_
  refine x_iload_n hm rfl rfl ?_
  refine x_ldc_wI hm rfl (v := nI 858993459) (by decide) ?_
  refine x_iand hm rfl ?_
  refine x_iload_n hm rfl rfl ?_
  refine x_iconst hm rfl (v := nI 2) (by decide) ?_
  refine x_iushr hm rfl ?_
  refine x_ldc_wI hm rfl (v := nI 858993459) (by decide) ?_
  refine x_iand hm rfl ?_
  refine x_iadd hm rfl ?_
  refine x_istore_n hm rfl rfl ?_
  refine x_iload_n hm rfl rfl ?_
  refine x_iload_n hm rfl rfl ?_
  refine x_iconst hm rfl (v := nI 4) (by decide) ?_
  refine x_iushr hm rfl ?_
  refine x_iadd hm rfl ?_
  refine x_ldc_wI hm rfl (v := nI 252645135) (by decide) ?_
  refine x_iand hm rfl ?_
  refine x_istore_n hm rfl rfl ?_
  refine x_iload_n hm rfl rfl ?_
  refine x_iload_n hm rfl rfl ?_
  refine x_bipush hm rfl (v := nI 8) (by decide) ?_
  refine x_iushr hm rfl ?_
  refine x_iadd hm rfl ?_
  refine x_istore_n hm rfl rfl ?_
  refine x_iload_n hm rfl rfl ?_
  refine x_iload_n hm rfl rfl ?_
  refine x_bipush hm rfl (v := nI 16) (by decide) ?_
  refine x_iushr hm rfl ?_
  refine x_iadd hm rfl ?_
  refine x_istore_n hm rfl rfl ?_
  refine x_iload_n hm rfl rfl ?_
  refine x_bipush hm rfl (v := nI 63) (by decide) ?_
  refine x_iand hm rfl ?_
  refine x_iret hm rfl rfl (by first | rfl | exact bI_nar | decide) ?_
  exact qt (congrArg Value.int (bcn_eq s hs))
theorem m168 {a1 : Int32} : ∀ (n k : Nat) (s : Int32), k < n → k < 256 → ∀ f, k < f → mEv X (fun r D => r = some (.int (sBits f s (nI k))) ∧ D = con M) 168 4 [some (.int a1), some (.int s), some (.int (nI k))] [] (con M) := by
  have hm : mMet 168 = some _ := rfl
  intro n
  induction n with
  | zero =>
    intro k s hkn hk f hf
    omega
  | succ n ih =>
    intro k s hkn hk f hf
    obtain ⟨f, rfl⟩ : ∃ g, f = g + 1 := ⟨f - 1, by omega⟩
    obtain ⟨g1, g2, g3⟩ := bits_le k hk
    refine x_iload_n hm rfl rfl ?_
    refine x_if_eq hm rfl (t := 20) rfl (fun h1 => ?_) (fun h1 => ?_)
    · have hq : sBits (f + 1) s (nI k) = s := if_pos h1
      refine x_iload_n hm rfl rfl ?_
      refine x_iret hm rfl rfl (by first | rfl | exact bI_nar | decide) ?_
      exact ⟨by rw [hq], rfl⟩
    · have h0 : ¬ k = 0 := fun e => h1 (by rw [e]; rfl)
      have hq : sBits (f + 1) s (nI k) = sBits f (s + nI 1) (nI k &&& (nI k - nI 1)) := if_neg h1
      refine x_iinc hm rfl rfl (v := nI 1) (by decide) rfl ?_
      refine x_iload_n hm rfl rfl ?_
      refine x_iload_n hm rfl rfl ?_
      refine x_iconst hm rfl (v := nI 1) (by decide) ?_
      refine x_isub hm rfl ?_
      refine x_iand hm rfl ?_
      refine x_istore_n hm rfl rfl ?_
      refine x_goto hm rfl (t := 4) rfl ?_
      rw [hq, ← g2]
      exact ih _ _ (by have := g3 h0; omega) g1 f (by have := g3 h0; omega)
theorem g168 {s : Nat} (hs : s < 256) : mT X 168 [.int (nI s)] (con M) (some (.int (sBits 256 (nI 0) (nI s)))) (con M) := by
  refine mT.of (row := _) rfl (Nat.le_of_ble_eq_true rfl) ?_
  have hm : mMet 168 = some _ := rfl
  refine x_iconst hm rfl (v := nI 0) (by decide) ?_
  refine x_istore_n hm rfl rfl ?_
  refine x_iload_n hm rfl rfl ?_
  refine x_istore_n hm rfl rfl ?_
  exact m168 _ s _ (Nat.lt_succ_self _) hs 256 hs
theorem g29 {a1 : Int32} (hR : Rel 1 nt np M r) (hn8 : nt ≤ 8) (hp8 : np ≤ 8) (hV : Vs nt np r) (hc : M 1 7 = -1) : ∃ v M', mT X 29 [.ref 0, .int a1] (con M) (some (.int v)) (con M') ∧ Tq (fGo nt np r a1) v M M' := by
  refine ti_of (row := _) rfl (Nat.le_of_ble_eq_true rfl) ?_
  have hm : mMet 29 = some _ := rfl
  refine x_iload_n hm rfl rfl ?_
  refine x_iconst hm rfl (v := nI 1) (by decide) ?_
  refine x_bipush hm rfl (v := nI 60) (by decide) ?_
  refine x_callS hm rfl rfl (t6) ?_
  refine x_if_ne hm rfl (t := 17) rfl (fun h1 => ?_) (fun h1 => ?_)
  · obtain ⟨a, ha, ha1, rfl⟩ := le1_k (by omega) (bI_ne0 h1)
    refine x_aload_n hm rfl rfl ?_
    refine x_getf hm rfl (gR rfl rfl) ?_
    refine x_getf hm rfl (gI rfl rfl) ?_
    rw [hR.2.2.1]
    refine x_iload_n hm rfl rfl ?_
    refine x_iadd hm rfl ?_
    refine x_ldcI hm rfl (v := nI 99999) (by decide +kernel) ?_
    refine x_icmp_le hm rfl (t := 38) rfl (fun h2 => ?_) (fun h2 => ?_)
    · have hng : ¬ nI 99999 < r 0 + nI a := Int32.not_lt.mpr h2
      refine x_aload_n hm rfl rfl ?_
      refine x_getf hm rfl (gR rfl rfl) ?_
      refine x_iload_n hm rfl rfl ?_
      refine x_cVv hm rfl rfl (e30 (by decide) hR hV (by omega)) (fun M3 r3 => ?_)
      rw [hc] at r3
      refine x_aload_n hm rfl rfl ?_
      refine x_getf hm rfl (gR rfl rfl) ?_
      refine x_callV hm rfl rfl (e35 (by decide) r3.1 (hV.days _)) ?_
      obtain ⟨g, hg, eg⟩ := sGone_k (sDays (-1) nt np a r) nt hn8
      have hg2 : g < 256 := Nat.lt_of_lt_of_le hg (Nat.pow_le_pow_right (by decide) hn8)
      rw [eg]
      refine x_callS hm rfl rfl (g36 hg2) ?_
      refine x_iret hm rfl rfl (by first | rfl | exact bI_nar | decide) ?_
      have hq : fGo nt np r (nI a) = (sBits 256 (nI 0) (sGone (sDays (-1) nt np a r) nt), nt, np, sDays (-1) nt np a r) := by
        unfold fGo
        rw [if_neg (by assumption), if_neg (by assumption)]
        rw [jI_nat (k := a) (by omega)]
      exact ⟨_, _, rfl, rfl, by rw [hq]; exact ⟨by rw [eg], r3.tm⟩⟩
    · have hps : nI 99999 < r 0 + nI a := Int32.not_le.mp h2
      refine x_aload_n hm rfl rfl ?_
      refine x_ldcI hm rfl (v := (-1000005 : Int32)) (by decide +kernel) ?_
      refine x_cVi hm rfl rfl (t7 (by decide +kernel)) (fun v4 M4 r4 => ?_)
      refine x_iret hm rfl rfl (by first | rfl | exact bI_nar | decide) ?_
      first
        | (have hq : fGo nt np r (nI a) = (-1000005, nt, np, r) := by
             unfold fGo
             rw [if_neg (by assumption), if_pos (by assumption)]
           exact ⟨_, _, rfl, rfl, by rw [hq]; exact ⟨r4.1, hR.bq r4.2⟩⟩)
        | (have hq : fGo nt np r (nI a) = (-1000005, nt, np, r) := by
             unfold fGo
             rw [if_neg (by assumption), if_pos (by assumption)]
           exact ⟨_, _, rfl, rfl, by rw [hq]; exact ⟨r1.1, hR.bq r1.2⟩⟩)
        | (have hq : fGo nt np r (nI a) = (-1000005, nt, np, r) := by
             unfold fGo
             rw [if_neg (by assumption), if_pos (by assumption)]
           exact ⟨_, _, rfl, rfl, by rw [hq]; exact ⟨r2.1, hR.bq r2.2⟩⟩)
        | (have hq : fGo nt np r (nI a) = (-1000005, nt, np, r) := by
             unfold fGo
             rw [if_neg (by assumption), if_pos (by assumption)]
           exact ⟨_, _, rfl, rfl, by rw [hq]; exact ⟨r3.1, hR.bq r3.2⟩⟩)
        | (have hq : fGo nt np r (nI a) = (-1000005, nt, np, r) := by
             unfold fGo
             rw [if_neg (by assumption), if_pos (by assumption)]
           exact ⟨_, _, rfl, rfl, by rw [hq]; exact ⟨r5.1, hR.bq r5.2⟩⟩)
        | (have hq : fGo nt np r (nI a) = (-1000005, nt, np, r) := by
             unfold fGo
             rw [if_neg (by assumption), if_pos (by assumption)]
           exact ⟨_, _, rfl, rfl, by rw [hq]; exact ⟨r6.1, hR.bq r6.2⟩⟩)
        | (have hq : fGo nt np r (nI a) = (-1000005, nt, np, r) := by
             unfold fGo
             rw [if_neg (by assumption), if_pos (by assumption)]
           exact ⟨_, _, rfl, rfl, by rw [hq]; exact ⟨r7.1, hR.bq r7.2⟩⟩)
        | (have hq : fGo nt np r (nI a) = (-1000005, nt, np, r) := by
             unfold fGo
             rw [if_neg (by assumption), if_pos (by assumption)]
           exact ⟨_, _, rfl, rfl, by rw [hq]; exact ⟨r8.1, hR.bq r8.2⟩⟩)
  · refine x_aload_n hm rfl rfl ?_
    refine x_ldcI hm rfl (v := (-1000001 : Int32)) (by decide +kernel) ?_
    refine x_cVi hm rfl rfl (t7 (by decide +kernel)) (fun v5 M5 r5 => ?_)
    refine x_iret hm rfl rfl (by first | rfl | exact bI_nar | decide) ?_
    first
      | (have hq : fGo nt np r a1 = (-1000001, nt, np, r) := by
           unfold fGo
           rw [if_pos (by assumption)]
         exact ⟨_, _, rfl, rfl, by rw [hq]; exact ⟨r5.1, hR.bq r5.2⟩⟩)
      | (have hq : fGo nt np r a1 = (-1000001, nt, np, r) := by
           unfold fGo
           rw [if_pos (by assumption)]
         exact ⟨_, _, rfl, rfl, by rw [hq]; exact ⟨r1.1, hR.bq r1.2⟩⟩)
      | (have hq : fGo nt np r a1 = (-1000001, nt, np, r) := by
           unfold fGo
           rw [if_pos (by assumption)]
         exact ⟨_, _, rfl, rfl, by rw [hq]; exact ⟨r2.1, hR.bq r2.2⟩⟩)
      | (have hq : fGo nt np r a1 = (-1000001, nt, np, r) := by
           unfold fGo
           rw [if_pos (by assumption)]
         exact ⟨_, _, rfl, rfl, by rw [hq]; exact ⟨r3.1, hR.bq r3.2⟩⟩)
      | (have hq : fGo nt np r a1 = (-1000001, nt, np, r) := by
           unfold fGo
           rw [if_pos (by assumption)]
         exact ⟨_, _, rfl, rfl, by rw [hq]; exact ⟨r4.1, hR.bq r4.2⟩⟩)
      | (have hq : fGo nt np r a1 = (-1000001, nt, np, r) := by
           unfold fGo
           rw [if_pos (by assumption)]
         exact ⟨_, _, rfl, rfl, by rw [hq]; exact ⟨r6.1, hR.bq r6.2⟩⟩)
      | (have hq : fGo nt np r a1 = (-1000001, nt, np, r) := by
           unfold fGo
           rw [if_pos (by assumption)]
         exact ⟨_, _, rfl, rfl, by rw [hq]; exact ⟨r7.1, hR.bq r7.2⟩⟩)
      | (have hq : fGo nt np r a1 = (-1000001, nt, np, r) := by
           unfold fGo
           rw [if_pos (by assumption)]
         exact ⟨_, _, rfl, rfl, by rw [hq]; exact ⟨r8.1, hR.bq r8.2⟩⟩)
end EK
