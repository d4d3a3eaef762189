section EV
variable {X : mSc} {Q : Option Value → mHp → Prop} {M : mM} {s : Nat} {w z n : Nat → Int32}
theorem g77 {a1 : Int32} (hR : Rs w z n M) : mT X 77 [.ref 0, .int a1] (con M) (some (.int (lkS w a1))) (con M) := by
  refine mT.of (row := _) rfl (Nat.le_of_ble_eq_true rfl) ?_
  have hm : mMet 77 = some _ := rfl
  refine x_iload_n hm rfl rfl ?_
  refine x_callS hm rfl rfl (t78) ?_
  refine x_if_ne hm rfl (t := 10) rfl (fun h1 => ?_) (fun h1 => ?_)
  · obtain ⟨s, hs, rfl⟩ := le_k (by omega) (bI_ne0 h1)
    have hw := (hR s (by omega)).1
    refine x_aload_n hm rfl rfl ?_
    refine x_getf hm rfl (gR rfl rfl) ?_
    refine x_iload_n hm rfl rfl ?_
    refine x_aald hm rfl (by first | exact lQ 2 (Or.inl rfl) rfl (shk hs) (by omega) (by decide) | exact lQ 3 (Or.inr (Or.inl rfl)) rfl rfl (by omega) (by decide)) ?_
    refine x_callV hm rfl (by first | exact mCallSh hs (by decide) rfl rfl rfl rfl rfl) (t79 hs) ?_
    refine x_if_eq hm rfl (t := 27) rfl (fun h2 => ?_) (fun h2 => ?_)
    · have hg := lkS_c (w := w) hs (fun q => absurd h2 (by rw [bI_eq0]; exact fun g => g (hw.trans q)))
      refine x_iconst hm rfl (v := nI 0) (by decide) ?_
      refine x_iret hm rfl rfl (by first | rfl | exact bI_nar | decide) ?_
      exact qt (congrArg Value.int hg.symm)
    · have hg := lkS_b (w := w) hs (hw.symm.trans (bI_ne0 h2))
      refine x_ldcI hm rfl (v := (-1000006 : Int32)) (by decide +kernel) ?_
      refine x_goto hm rfl (t := 28) rfl ?_
      refine x_iret hm rfl rfl (by first | rfl | exact bI_nar | decide) ?_
      exact qt (congrArg Value.int hg.symm)
  · have ha := lkS_a (w := w) h1
    refine x_ldcI hm rfl (v := (-1000001 : Int32)) (by decide +kernel) ?_
    refine x_iret hm rfl rfl (by first | rfl | exact bI_nar | decide) ?_
    exact qt (congrArg Value.int ha.symm)
theorem g118 {a1 a2 a3 : Int32} (hR : Rs w z n M) (hz : ∀ u, u < 4 → ∃ k, k ≤ 40 ∧ z u = nI k) : ∃ v M', mT X 118 [.ref 0, .int a1, .int a2, .int a3] (con M) (some (.int v)) (con M') ∧ Gq (fWrite w z n a1 a2 a3) v M M' := by
  refine ti_of (row := _) rfl (Nat.le_of_ble_eq_true rfl) ?_
  have hm : mMet 118 = some _ := rfl
  refine x_aload_n hm rfl rfl ?_
  refine x_iload_n hm rfl rfl ?_
  refine x_callV hm rfl rfl (g77 hR) ?_
  refine x_istore hm rfl rfl ?_
  refine x_iload hm rfl rfl ?_
  refine x_if_eq hm rfl (t := 19) rfl (fun h1 => ?_) (fun h1 => ?_)
  · have hlk := h1
    obtain ⟨s, hs, hs3, hw0⟩ := lkS_0 hlk
    subst hs3
    obtain ⟨k, hk, hzk⟩ := hz s (by omega)
    have hRs := hR s (by omega)
    refine x_iload_n hm rfl rfl ?_
    refine x_iconst hm rfl (v := nI 0) (by decide) ?_
    refine x_aload_n hm rfl rfl ?_
    refine x_getf hm rfl (gR rfl rfl) ?_
    refine x_iload_n hm rfl rfl ?_
    refine x_aald hm rfl (by first | exact lQ 2 (Or.inl rfl) rfl (shk hs) (by omega) (by decide) | exact lQ 3 (Or.inr (Or.inl rfl)) rfl rfl (by omega) (by decide)) ?_
    refine x_getf hm rfl (by first | exact gI (sO hs) rfl) ?_
    rw [hRs.2.1]
    refine x_iconst hm rfl (v := nI 1) (by decide) ?_
    refine x_isub hm rfl ?_
    refine x_callS hm rfl rfl (t6) ?_
    refine x_if_ne hm rfl (t := 45) rfl (fun h2 => ?_) (fun h2 => ?_)
    · have hj := h2
      obtain ⟨i, hi, rfl⟩ := in_k hzk (by omega) (bI_ne0 hj)
      refine x_aload_n hm rfl rfl ?_
      refine x_getf hm rfl (gR rfl rfl) ?_
      refine x_iload_n hm rfl rfl ?_
      refine x_aald hm rfl (by first | exact lQ 2 (Or.inl rfl) rfl (shk hs) (by omega) (by decide) | exact lQ 3 (Or.inr (Or.inl rfl)) rfl rfl (by omega) (by decide)) ?_
      refine x_iload_n hm rfl rfl ?_
      refine x_iload_n hm rfl rfl ?_
      refine x_cVv hm rfl (by first | exact mCallSh hs (by decide) rfl rfl rfl rfl rfl) (g119 hs (by omega)) (fun M3 r3 => ?_)
      refine x_iconst hm rfl (v := nI 1) (by decide) ?_
      refine x_iret hm rfl rfl (by first | rfl | exact bI_nar | decide) ?_
      first
        | (obtain rfl := r3
           have hq : fWrite w z n (nI s) (nI i) a3 = (nI 1, w, z, put1 n (40 * s + i) (cut (w s) a3)) := by
             unfold fWrite
             rw [if_neg (not_not_intro hlk), jI_nat (by omega), if_neg hj, jI_nat (by omega)]
           exact ⟨_, _, rfl, rfl, by rw [hq]; exact ⟨rfl, by rw [hRs.1]; exact hR.put hs (by omega), fun a ha => mpo (by omega)⟩⟩)
        | (obtain rfl := r1
           have hq : fWrite w z n (nI s) (nI i) a3 = (nI 1, w, z, put1 n (40 * s + i) (cut (w s) a3)) := by
             unfold fWrite
             rw [if_neg (not_not_intro hlk), jI_nat (by omega), if_neg hj, jI_nat (by omega)]
           exact ⟨_, _, rfl, rfl, by rw [hq]; exact ⟨rfl, by rw [hRs.1]; exact hR.put hs (by omega), fun a ha => mpo (by omega)⟩⟩)
        | (obtain rfl := r2
           have hq : fWrite w z n (nI s) (nI i) a3 = (nI 1, w, z, put1 n (40 * s + i) (cut (w s) a3)) := by
             unfold fWrite
             rw [if_neg (not_not_intro hlk), jI_nat (by omega), if_neg hj, jI_nat (by omega)]
           exact ⟨_, _, rfl, rfl, by rw [hq]; exact ⟨rfl, by rw [hRs.1]; exact hR.put hs (by omega), fun a ha => mpo (by omega)⟩⟩)
        | (obtain rfl := r4
           have hq : fWrite w z n (nI s) (nI i) a3 = (nI 1, w, z, put1 n (40 * s + i) (cut (w s) a3)) := by
             unfold fWrite
             rw [if_neg (not_not_intro hlk), jI_nat (by omega), if_neg hj, jI_nat (by omega)]
           exact ⟨_, _, rfl, rfl, by rw [hq]; exact ⟨rfl, by rw [hRs.1]; exact hR.put hs (by omega), fun a ha => mpo (by omega)⟩⟩)
        | (obtain rfl := r5
           have hq : fWrite w z n (nI s) (nI i) a3 = (nI 1, w, z, put1 n (40 * s + i) (cut (w s) a3)) := by
             unfold fWrite
             rw [if_neg (not_not_intro hlk), jI_nat (by omega), if_neg hj, jI_nat (by omega)]
           exact ⟨_, _, rfl, rfl, by rw [hq]; exact ⟨rfl, by rw [hRs.1]; exact hR.put hs (by omega), fun a ha => mpo (by omega)⟩⟩)
        | (obtain rfl := r6
           have hq : fWrite w z n (nI s) (nI i) a3 = (nI 1, w, z, put1 n (40 * s + i) (cut (w s) a3)) := by
             unfold fWrite
             rw [if_neg (not_not_intro hlk), jI_nat (by omega), if_neg hj, jI_nat (by omega)]
           exact ⟨_, _, rfl, rfl, by rw [hq]; exact ⟨rfl, by rw [hRs.1]; exact hR.put hs (by omega), fun a ha => mpo (by omega)⟩⟩)
        | (obtain rfl := r7
           have hq : fWrite w z n (nI s) (nI i) a3 = (nI 1, w, z, put1 n (40 * s + i) (cut (w s) a3)) := by
             unfold fWrite
             rw [if_neg (not_not_intro hlk), jI_nat (by omega), if_neg hj, jI_nat (by omega)]
           exact ⟨_, _, rfl, rfl, by rw [hq]; exact ⟨rfl, by rw [hRs.1]; exact hR.put hs (by omega), fun a ha => mpo (by omega)⟩⟩)
        | (obtain rfl := r8
           have hq : fWrite w z n (nI s) (nI i) a3 = (nI 1, w, z, put1 n (40 * s + i) (cut (w s) a3)) := by
             unfold fWrite
             rw [if_neg (not_not_intro hlk), jI_nat (by omega), if_neg hj, jI_nat (by omega)]
           exact ⟨_, _, rfl, rfl, by rw [hq]; exact ⟨rfl, by rw [hRs.1]; exact hR.put hs (by omega), fun a ha => mpo (by omega)⟩⟩)
    · refine x_aload_n hm rfl rfl ?_
      refine x_ldcI hm rfl (v := (-1000001 : Int32)) (by decide +kernel) ?_
      refine x_cVi hm rfl rfl (t7 (by decide +kernel)) (fun v4 M4 r4 => ?_)
      refine x_iret hm rfl rfl (by first | rfl | exact bI_nar | decide) ?_
      first
        | (have hq : fWrite w z n (nI s) a2 a3 = (-1000001, w, z, n) := by
             unfold fWrite
             rw [if_neg (not_not_intro hlk), jI_nat (by omega), if_pos (by assumption)]
           exact ⟨_, _, rfl, rfl, by rw [hq]; exact hR.bq r4.2 r4.1⟩)
        | (have hq : fWrite w z n (nI s) a2 a3 = (-1000001, w, z, n) := by
             unfold fWrite
             rw [if_neg (not_not_intro hlk), jI_nat (by omega), if_pos (by assumption)]
           exact ⟨_, _, rfl, rfl, by rw [hq]; exact hR.bq r1.2 r1.1⟩)
        | (have hq : fWrite w z n (nI s) a2 a3 = (-1000001, w, z, n) := by
             unfold fWrite
             rw [if_neg (not_not_intro hlk), jI_nat (by omega), if_pos (by assumption)]
           exact ⟨_, _, rfl, rfl, by rw [hq]; exact hR.bq r2.2 r2.1⟩)
        | (have hq : fWrite w z n (nI s) a2 a3 = (-1000001, w, z, n) := by
             unfold fWrite
             rw [if_neg (not_not_intro hlk), jI_nat (by omega), if_pos (by assumption)]
           exact ⟨_, _, rfl, rfl, by rw [hq]; exact hR.bq r3.2 r3.1⟩)
        | (have hq : fWrite w z n (nI s) a2 a3 = (-1000001, w, z, n) := by
             unfold fWrite
             rw [if_neg (not_not_intro hlk), jI_nat (by omega), if_pos (by assumption)]
           exact ⟨_, _, rfl, rfl, by rw [hq]; exact hR.bq r5.2 r5.1⟩)
        | (have hq : fWrite w z n (nI s) a2 a3 = (-1000001, w, z, n) := by
             unfold fWrite
             rw [if_neg (not_not_intro hlk), jI_nat (by omega), if_pos (by assumption)]
           exact ⟨_, _, rfl, rfl, by rw [hq]; exact hR.bq r6.2 r6.1⟩)
        | (have hq : fWrite w z n (nI s) a2 a3 = (-1000001, w, z, n) := by
             unfold fWrite
             rw [if_neg (not_not_intro hlk), jI_nat (by omega), if_pos (by assumption)]
           exact ⟨_, _, rfl, rfl, by rw [hq]; exact hR.bq r7.2 r7.1⟩)
        | (have hq : fWrite w z n (nI s) a2 a3 = (-1000001, w, z, n) := by
             unfold fWrite
             rw [if_neg (not_not_intro hlk), jI_nat (by omega), if_pos (by assumption)]
           exact ⟨_, _, rfl, rfl, by rw [hq]; exact hR.bq r8.2 r8.1⟩)
  · refine x_aload_n hm rfl rfl ?_
    refine x_iload hm rfl rfl ?_
    refine x_cVi hm rfl rfl (t7 (lkS_fd h1)) (fun v5 M5 r5 => ?_)
    refine x_iret hm rfl rfl (by first | rfl | exact bI_nar | decide) ?_
    first
      | (have hq : fWrite w z n a1 a2 a3 = (lkS w a1, w, z, n) := by
           unfold fWrite
           rw [if_pos h1]
         exact ⟨_, _, rfl, rfl, by rw [hq]; exact hR.bq r5.2 r5.1⟩)
      | (have hq : fWrite w z n a1 a2 a3 = (lkS w a1, w, z, n) := by
           unfold fWrite
           rw [if_pos h1]
         exact ⟨_, _, rfl, rfl, by rw [hq]; exact hR.bq r1.2 r1.1⟩)
      | (have hq : fWrite w z n a1 a2 a3 = (lkS w a1, w, z, n) := by
           unfold fWrite
           rw [if_pos h1]
         exact ⟨_, _, rfl, rfl, by rw [hq]; exact hR.bq r2.2 r2.1⟩)
      | (have hq : fWrite w z n a1 a2 a3 = (lkS w a1, w, z, n) := by
           unfold fWrite
           rw [if_pos h1]
         exact ⟨_, _, rfl, rfl, by rw [hq]; exact hR.bq r3.2 r3.1⟩)
      | (have hq : fWrite w z n a1 a2 a3 = (lkS w a1, w, z, n) := by
           unfold fWrite
           rw [if_pos h1]
         exact ⟨_, _, rfl, rfl, by rw [hq]; exact hR.bq r4.2 r4.1⟩)
      | (have hq : fWrite w z n a1 a2 a3 = (lkS w a1, w, z, n) := by
           unfold fWrite
           rw [if_pos h1]
         exact ⟨_, _, rfl, rfl, by rw [hq]; exact hR.bq r6.2 r6.1⟩)
      | (have hq : fWrite w z n a1 a2 a3 = (lkS w a1, w, z, n) := by
           unfold fWrite
           rw [if_pos h1]
         exact ⟨_, _, rfl, rfl, by rw [hq]; exact hR.bq r7.2 r7.1⟩)
      | (have hq : fWrite w z n a1 a2 a3 = (lkS w a1, w, z, n) := by
           unfold fWrite
           rw [if_pos h1]
         exact ⟨_, _, rfl, rfl, by rw [hq]; exact hR.bq r8.2 r8.1⟩)
theorem m234 {a2 a3 b l : Int32} (hs : s ≤ 3) : ∀ (n k : Nat) (M1 : mM), 40 - k < n → k ≤ 40 → Lr s b l k M M1 → mEv X (QI (fun v M' => v = l ∧ Lr s b l 40 M M')) 234 86 [some (.ref 66), some (.int (nI s)), some (.int a2), some (.int a3), some (.int (nI k))] [] (con M1) := by
  have hm : mMet 234 = some _ := rfl
  intro n
  induction n with
  | zero =>
    intro k M1 hkn hkb hS
    omega
  | succ n ih =>
    intro k M1 hkn hkb hS
    refine x_iload hm rfl rfl ?_
    refine x_bipush hm rfl (v := nI 40) (by decide) ?_
    refine x_icmp_ge hm rfl (t := 112) rfl (fun h1 => ?_) (fun h1 => ?_)
    · obtain rfl : k = 40 := Nat.le_antisymm hkb ((jI_le (by decide) (by omega)).mp h1)
      refine x_aload_n hm rfl rfl ?_
      refine x_getf hm rfl (gR rfl rfl) ?_
      refine x_iload_n hm rfl rfl ?_
      refine x_iald hm rfl (lI rfl (by omega) (by decide)) ?_
      refine x_iret hm rfl rfl (by first | rfl | exact bI_nar | decide) ?_
      exact ⟨_, _, rfl, rfl, (congrFun hS.2.1 s).trans put1_s, hS⟩
    · have hk : k < 40 := Nat.lt_of_not_le fun h => h1 (nI_le h (by omega))
      refine x_aload_n hm rfl rfl ?_
      refine x_getf hm rfl (gR rfl rfl) ?_
      refine x_bipush hm rfl (v := nI 40) (by decide) ?_
      refine x_iload_n hm rfl rfl ?_
      refine x_imul hm rfl ?_
      rw [jI_mul]
      refine x_iload hm rfl rfl ?_
      refine x_iadd hm rfl ?_
      rw [jI_add]
      refine x_iconst hm rfl (v := nI 0) (by decide) ?_
      refine x_iast hm rfl (sI rfl (by omega) (by decide)) ?_
      refine x_iinc hm rfl rfl (v := nI 1) (by decide) rfl ?_
      rw [jI_add]
      refine x_goto hm rfl (t := 86) rfl ?_
      refine ih _ _ (by omega) (by omega) ⟨(mpo (by decide)).trans hS.1, (mpo (by decide)).trans hS.2.1, fun i => ?_, fun a h1 h2 h3 => (mpo h3).trans (hS.2.2.2 a h1 h2 h3)⟩
      by_cases e : i = 40 * s + k
      · subst e
        rw [mp0, if_pos ⟨by omega, by omega⟩]
      · rw [mpf e, hS.2.2.1 i]
        by_cases g : 40 * s ≤ i ∧ i < 40 * s + k
        · rw [if_pos g, if_pos ⟨by omega, by omega⟩]
        · rw [if_neg g, if_neg (by omega)]
theorem g234e {a2 a3 : Int32} (hs : s ≤ 3) : mEv X (QI (fun v M' => Hq ((if a2 = 0 then nI 0 else a3), put1 (M 76) s a2, put1 (M 77) s (if a2 = 0 then nI 0 else a3), clr (M 78) s) v M M')) 234 61 [some (.ref 66), some (.int (nI s)), some (.int a2), some (.int a3), none] [] (con M) := by
  have hm : mMet 234 = some _ := rfl
  refine x_aload_n hm rfl rfl ?_
  refine x_getf hm rfl (gR rfl rfl) ?_
  refine x_iload_n hm rfl rfl ?_
  refine x_iload_n hm rfl rfl ?_
  refine x_iast hm rfl (sI rfl (by omega) (by decide)) ?_
  refine x_aload_n hm rfl rfl ?_
  refine x_getf hm rfl (gR rfl rfl) ?_
  refine x_iload_n hm rfl rfl ?_
  refine x_iload_n hm rfl rfl ?_
  refine x_if_ne hm rfl (t := 81) rfl (fun h1 => ?_) (fun h1 => ?_)
  · have hv : a3 = (if a2 = 0 then nI 0 else a3) := (if_neg h1).symm
    refine x_iload_n hm rfl rfl ?_
    refine x_iast hm rfl (sI rfl (by omega) (by decide)) ?_
    refine x_iconst hm rfl (v := nI 0) (by decide) ?_
    refine x_istore hm rfl rfl ?_
    exact ev_mono (m234 (M := M) (b := a2) (l := (if a2 = 0 then nI 0 else a3)) hs _ 0 _ (Nat.lt_succ_self _) (Nat.zero_le _) ⟨(mpo (by decide)).trans mputf, by rw [mputf, mpo (by decide), ← hv], fun i => ((congrFun (mpo (by decide)) i).trans (congrFun (mpo (by decide)) i)).trans (if_neg (by omega)).symm, fun a h1 h2 _ => (mpo h2).trans (mpo h1)⟩) (fun r D ⟨v, M2, g1, g2, g3, g4, g5, g6, g7⟩ => ⟨v, M2, g1, g2, g3, g4, g5, funext g6, fun a _ h2 h3 h4 _ => g7 a h2 h3 h4⟩)
  · have hv : nI 0 = (if a2 = 0 then nI 0 else a3) := (if_pos h1).symm
    refine x_iconst hm rfl (v := nI 0) (by decide) ?_
    refine x_goto hm rfl (t := 82) rfl ?_
    refine x_iast hm rfl (sI rfl (by omega) (by decide)) ?_
    refine x_iconst hm rfl (v := nI 0) (by decide) ?_
    refine x_istore hm rfl rfl ?_
    exact ev_mono (m234 (M := M) (b := a2) (l := (if a2 = 0 then nI 0 else a3)) hs _ 0 _ (Nat.lt_succ_self _) (Nat.zero_le _) ⟨(mpo (by decide)).trans mputf, by rw [mputf, mpo (by decide), ← hv], fun i => ((congrFun (mpo (by decide)) i).trans (congrFun (mpo (by decide)) i)).trans (if_neg (by omega)).symm, fun a h1 h2 _ => (mpo h2).trans (mpo h1)⟩) (fun r D ⟨v, M2, g1, g2, g3, g4, g5, g6, g7⟩ => ⟨v, M2, g1, g2, g3, g4, g5, funext g6, fun a _ h2 h3 h4 _ => g7 a h2 h3 h4⟩)
theorem g234 {a1 a2 a3 : Int32} : ∃ v M', mT X 234 [.ref 66, .int a1, .int a2, .int a3] (con M) (some (.int v)) (con M') ∧ Hq (fSheet (M 76) (M 77) (M 78) a1 a2 a3) v M M' := by
  refine ti_of (row := _) rfl (Nat.le_of_ble_eq_true rfl) ?_
  have hm : mMet 234 = some _ := rfl
  refine x_iload_n hm rfl rfl ?_
  refine x_callS hm rfl rfl (t210) ?_
  refine x_if_eq hm rfl (t := 29) rfl (fun h1 => ?_) (fun h1 => ?_)
  · refine x_aload_n hm rfl rfl ?_
    refine x_ldcI hm rfl (v := (-1000001 : Int32)) (by decide +kernel) ?_
    refine x_callV hm rfl rfl (e135 (by decide +kernel)) ?_
    refine x_iret hm rfl rfl (by first | rfl | exact bI_nar | decide) ?_
    first
      | (have hq : fSheet (M 76) (M 77) (M 78) a1 a2 a3 = (-1000001, M 76, M 77, M 78) := by
           unfold fSheet
           rw [if_pos h1]
         exact ⟨_, _, rfl, rfl, by rw [hq]; exact fnd_hq⟩)
      | (have hq : fSheet (M 76) (M 77) (M 78) a1 a2 a3 = (-1000001, M 76, M 77, M 78) := by
           unfold fSheet
           rw [if_neg h1, if_pos (okb_f (by assumption) (by assumption) (by assumption) (by assumption))]
         exact ⟨_, _, rfl, rfl, by rw [hq]; exact fnd_hq⟩)
  · refine x_iload_n hm rfl rfl ?_
    refine x_if_eq hm rfl (t := 36) rfl (fun h2 => ?_) (fun h2 => ?_)
    · have hb := okb_t (Or.inl h2)
      refine x_iload_n hm rfl rfl ?_
      refine x_if_ge hm rfl (t := 48) rfl (fun h3 => ?_) (fun h3 => ?_)
      · have hn0 := h3
        refine x_iload_n hm rfl rfl ?_
        refine x_bipush hm rfl (v := nI 40) (by decide) ?_
        refine x_icmp_le hm rfl (t := 61) rfl (fun h4 => ?_) (fun h4 => ?_)
        · have hn4 := h4
          obtain ⟨s, hs, hs3⟩ := le_k (by omega) (bI_ne0 h1)
          subst hs3
          have hq : fSheet (M 76) (M 77) (M 78) (nI s) a2 a3 = ((if a2 = 0 then nI 0 else a3), put1 (M 76) s a2, put1 (M 77) s (if a2 = 0 then nI 0 else a3), clr (M 78) s) := by
            unfold fSheet
            rw [if_neg h1, if_neg hb, if_pos hn0, if_pos hn4, jI_nat (by omega)]
          rw [hq]
          exact g234e hs
        · have hn4 := h4
          refine x_aload_n hm rfl rfl ?_
          refine x_ldcI hm rfl (v := (-1000001 : Int32)) (by decide +kernel) ?_
          refine x_callV hm rfl rfl (e135 (by decide +kernel)) ?_
          refine x_iret hm rfl rfl (by first | rfl | exact bI_nar | decide) ?_
          have hq : fSheet (M 76) (M 77) (M 78) a1 a2 a3 = (-1000001, M 76, M 77, M 78) := by
            unfold fSheet
            rw [if_neg h1, if_neg hb, if_pos hn0, if_neg hn4]
          exact ⟨_, _, rfl, rfl, by rw [hq]; exact fnd_hq⟩
      · have hn0 := h3
        refine x_aload_n hm rfl rfl ?_
        refine x_ldc_wI hm rfl (v := (-1000007 : Int32)) (by decide) ?_
        refine x_callV hm rfl rfl (e135 (by decide +kernel)) ?_
        refine x_iret hm rfl rfl (by first | rfl | exact bI_nar | decide) ?_
        have hq : fSheet (M 76) (M 77) (M 78) a1 a2 a3 = (-1000007, M 76, M 77, M 78) := by
          unfold fSheet
          rw [if_neg h1, if_neg hb, if_neg hn0]
        exact ⟨_, _, rfl, rfl, by rw [hq]; exact fnd_hq⟩
    · refine x_iload_n hm rfl rfl ?_
      refine x_bipush hm rfl (v := nI 8) (by decide) ?_
      refine x_icmp_eq hm rfl (t := 36) rfl (fun h5 => ?_) (fun h5 => ?_)
      · have hb := okb_t (Or.inr (Or.inl h5))
        refine x_iload_n hm rfl rfl ?_
        refine x_if_ge hm rfl (t := 48) rfl (fun h6 => ?_) (fun h6 => ?_)
        · have hn0 := h6
          refine x_iload_n hm rfl rfl ?_
          refine x_bipush hm rfl (v := nI 40) (by decide) ?_
          refine x_icmp_le hm rfl (t := 61) rfl (fun h7 => ?_) (fun h7 => ?_)
          · have hn4 := h7
            obtain ⟨s, hs, hs3⟩ := le_k (by omega) (bI_ne0 h1)
            subst hs3
            have hq : fSheet (M 76) (M 77) (M 78) (nI s) a2 a3 = ((if a2 = 0 then nI 0 else a3), put1 (M 76) s a2, put1 (M 77) s (if a2 = 0 then nI 0 else a3), clr (M 78) s) := by
              unfold fSheet
              rw [if_neg h1, if_neg hb, if_pos hn0, if_pos hn4, jI_nat (by omega)]
            rw [hq]
            exact g234e hs
          · have hn4 := h7
            refine x_aload_n hm rfl rfl ?_
            refine x_ldcI hm rfl (v := (-1000001 : Int32)) (by decide +kernel) ?_
            refine x_callV hm rfl rfl (e135 (by decide +kernel)) ?_
            refine x_iret hm rfl rfl (by first | rfl | exact bI_nar | decide) ?_
            have hq : fSheet (M 76) (M 77) (M 78) a1 a2 a3 = (-1000001, M 76, M 77, M 78) := by
              unfold fSheet
              rw [if_neg h1, if_neg hb, if_pos hn0, if_neg hn4]
            exact ⟨_, _, rfl, rfl, by rw [hq]; exact fnd_hq⟩
        · have hn0 := h6
          refine x_aload_n hm rfl rfl ?_
          refine x_ldc_wI hm rfl (v := (-1000007 : Int32)) (by decide) ?_
          refine x_callV hm rfl rfl (e135 (by decide +kernel)) ?_
          refine x_iret hm rfl rfl (by first | rfl | exact bI_nar | decide) ?_
          have hq : fSheet (M 76) (M 77) (M 78) a1 a2 a3 = (-1000007, M 76, M 77, M 78) := by
            unfold fSheet
            rw [if_neg h1, if_neg hb, if_neg hn0]
          exact ⟨_, _, rfl, rfl, by rw [hq]; exact fnd_hq⟩
      · refine x_iload_n hm rfl rfl ?_
        refine x_bipush hm rfl (v := nI 16) (by decide) ?_
        refine x_icmp_eq hm rfl (t := 36) rfl (fun h8 => ?_) (fun h8 => ?_)
        · have hb := okb_t (Or.inr (Or.inr (Or.inl h8)))
          refine x_iload_n hm rfl rfl ?_
          refine x_if_ge hm rfl (t := 48) rfl (fun h9 => ?_) (fun h9 => ?_)
          · have hn0 := h9
            refine x_iload_n hm rfl rfl ?_
            refine x_bipush hm rfl (v := nI 40) (by decide) ?_
            refine x_icmp_le hm rfl (t := 61) rfl (fun h10 => ?_) (fun h10 => ?_)
            · have hn4 := h10
              obtain ⟨s, hs, hs3⟩ := le_k (by omega) (bI_ne0 h1)
              subst hs3
              have hq : fSheet (M 76) (M 77) (M 78) (nI s) a2 a3 = ((if a2 = 0 then nI 0 else a3), put1 (M 76) s a2, put1 (M 77) s (if a2 = 0 then nI 0 else a3), clr (M 78) s) := by
                unfold fSheet
                rw [if_neg h1, if_neg hb, if_pos hn0, if_pos hn4, jI_nat (by omega)]
              rw [hq]
              exact g234e hs
            · have hn4 := h10
              refine x_aload_n hm rfl rfl ?_
              refine x_ldcI hm rfl (v := (-1000001 : Int32)) (by decide +kernel) ?_
              refine x_callV hm rfl rfl (e135 (by decide +kernel)) ?_
              refine x_iret hm rfl rfl (by first | rfl | exact bI_nar | decide) ?_
              have hq : fSheet (M 76) (M 77) (M 78) a1 a2 a3 = (-1000001, M 76, M 77, M 78) := by
                unfold fSheet
                rw [if_neg h1, if_neg hb, if_pos hn0, if_neg hn4]
              exact ⟨_, _, rfl, rfl, by rw [hq]; exact fnd_hq⟩
          · have hn0 := h9
            refine x_aload_n hm rfl rfl ?_
            refine x_ldc_wI hm rfl (v := (-1000007 : Int32)) (by decide) ?_
            refine x_callV hm rfl rfl (e135 (by decide +kernel)) ?_
            refine x_iret hm rfl rfl (by first | rfl | exact bI_nar | decide) ?_
            have hq : fSheet (M 76) (M 77) (M 78) a1 a2 a3 = (-1000007, M 76, M 77, M 78) := by
              unfold fSheet
              rw [if_neg h1, if_neg hb, if_neg hn0]
            exact ⟨_, _, rfl, rfl, by rw [hq]; exact fnd_hq⟩
        · refine x_iload_n hm rfl rfl ?_
          refine x_bipush hm rfl (v := nI 32) (by decide) ?_
          refine x_icmp_eq hm rfl (t := 36) rfl (fun h11 => ?_) (fun h11 => ?_)
          · have hb := okb_t (Or.inr (Or.inr (Or.inr h11)))
            refine x_iload_n hm rfl rfl ?_
            refine x_if_ge hm rfl (t := 48) rfl (fun h12 => ?_) (fun h12 => ?_)
            · have hn0 := h12
              refine x_iload_n hm rfl rfl ?_
              refine x_bipush hm rfl (v := nI 40) (by decide) ?_
              refine x_icmp_le hm rfl (t := 61) rfl (fun h13 => ?_) (fun h13 => ?_)
              · have hn4 := h13
                obtain ⟨s, hs, hs3⟩ := le_k (by omega) (bI_ne0 h1)
                subst hs3
                have hq : fSheet (M 76) (M 77) (M 78) (nI s) a2 a3 = ((if a2 = 0 then nI 0 else a3), put1 (M 76) s a2, put1 (M 77) s (if a2 = 0 then nI 0 else a3), clr (M 78) s) := by
                  unfold fSheet
                  rw [if_neg h1, if_neg hb, if_pos hn0, if_pos hn4, jI_nat (by omega)]
                rw [hq]
                exact g234e hs
              · have hn4 := h13
                refine x_aload_n hm rfl rfl ?_
                refine x_ldcI hm rfl (v := (-1000001 : Int32)) (by decide +kernel) ?_
                refine x_callV hm rfl rfl (e135 (by decide +kernel)) ?_
                refine x_iret hm rfl rfl (by first | rfl | exact bI_nar | decide) ?_
                have hq : fSheet (M 76) (M 77) (M 78) a1 a2 a3 = (-1000001, M 76, M 77, M 78) := by
                  unfold fSheet
                  rw [if_neg h1, if_neg hb, if_pos hn0, if_neg hn4]
                exact ⟨_, _, rfl, rfl, by rw [hq]; exact fnd_hq⟩
            · have hn0 := h12
              refine x_aload_n hm rfl rfl ?_
              refine x_ldc_wI hm rfl (v := (-1000007 : Int32)) (by decide) ?_
              refine x_callV hm rfl rfl (e135 (by decide +kernel)) ?_
              refine x_iret hm rfl rfl (by first | rfl | exact bI_nar | decide) ?_
              have hq : fSheet (M 76) (M 77) (M 78) a1 a2 a3 = (-1000007, M 76, M 77, M 78) := by
                unfold fSheet
                rw [if_neg h1, if_neg hb, if_neg hn0]
              exact ⟨_, _, rfl, rfl, by rw [hq]; exact fnd_hq⟩
          · refine x_aload_n hm rfl rfl ?_
            refine x_ldcI hm rfl (v := (-1000001 : Int32)) (by decide +kernel) ?_
            refine x_callV hm rfl rfl (e135 (by decide +kernel)) ?_
            refine x_iret hm rfl rfl (by first | rfl | exact bI_nar | decide) ?_
            first
              | (have hq : fSheet (M 76) (M 77) (M 78) a1 a2 a3 = (-1000001, M 76, M 77, M 78) := by
                   unfold fSheet
                   rw [if_pos h1]
                 exact ⟨_, _, rfl, rfl, by rw [hq]; exact fnd_hq⟩)
              | (have hq : fSheet (M 76) (M 77) (M 78) a1 a2 a3 = (-1000001, M 76, M 77, M 78) := by
                   unfold fSheet
                   rw [if_neg h1, if_pos (okb_f (by assumption) (by assumption) (by assumption) (by assumption))]
                 exact ⟨_, _, rfl, rfl, by rw [hq]; exact fnd_hq⟩)
theorem g236 {v b : Int32} : mT X 236 [.int v, .int b] (con M) (some (.int (cut b v))) (con M) := by
  refine mT.of (row := _) rfl (Nat.le_of_ble_eq_true rfl) ?_
  have hm : mMet 236 = some _ := rfl
  refine x_iload_n hm rfl rfl ?_
  refine x_bipush hm rfl (v := nI 8) (by decide) ?_
  refine x_icmp_ne hm rfl (t := 11) rfl (fun h1 => ?_) (fun h1 => ?_)
  · have n8 := h1
    refine x_iload_n hm rfl rfl ?_
    refine x_bipush hm rfl (v := nI 16) (by decide) ?_
    refine x_icmp_ne hm rfl (t := 22) rfl (fun h2 => ?_) (fun h2 => ?_)
    · have hv : v = cut b v := ((if_neg n8).trans (if_neg h2)).symm
      refine x_iload_n hm rfl rfl ?_
      refine x_iret hm rfl rfl (by first | rfl | exact bI_nar | decide) ?_
      exact qt (congrArg Value.int hv)
    · have hv : v.toInt16.toInt32 = cut b v := ((if_neg n8).trans (if_pos h2)).symm
      refine x_iload_n hm rfl rfl ?_
      refine x_i2s hm rfl ?_
      refine x_goto hm rfl (t := 23) rfl ?_
      refine x_iret hm rfl rfl (by first | rfl | exact bI_nar | decide) ?_
      exact qt (congrArg Value.int hv)
  · have hv : v.toInt8.toInt32 = cut b v := (if_pos h1).symm
    refine x_iload_n hm rfl rfl ?_
    refine x_i2b hm rfl ?_
    refine x_goto hm rfl (t := 23) rfl ?_
    refine x_iret hm rfl rfl (by first | rfl | exact bI_nar | decide) ?_
    exact qt (congrArg Value.int hv)
theorem g235 {a1 a2 a3 : Int32} (hz : ∀ u, u < 4 → ∃ k, k ≤ 40 ∧ M 77 u = nI k) : ∃ v M', mT X 235 [.ref 66, .int a1, .int a2, .int a3] (con M) (some (.int v)) (con M') ∧ Hq (fWrite (M 76) (M 77) (M 78) a1 a2 a3) v M M' := by
  refine ti_of (row := _) rfl (Nat.le_of_ble_eq_true rfl) ?_
  have hm : mMet 235 = some _ := rfl
  refine x_iload_n hm rfl rfl ?_
  refine x_callS hm rfl rfl (t210) ?_
  refine x_if_ne hm rfl (t := 14) rfl (fun h1 => ?_) (fun h1 => ?_)
  · obtain ⟨s, hs, hs3⟩ := le_k (by omega) (bI_ne0 h1)
    subst hs3
    obtain ⟨k, hk, hzk⟩ := hz s (by omega)
    refine x_aload_n hm rfl rfl ?_
    refine x_getf hm rfl (gR rfl rfl) ?_
    refine x_iload_n hm rfl rfl ?_
    refine x_iald hm rfl (lI rfl (by omega) (by decide)) ?_
    refine x_if_ne hm rfl (t := 30) rfl (fun h2 => ?_) (fun h2 => ?_)
    · have hlk : lkS (M 76) (nI s) = 0 := lkS_c (w := M 76) hs h2
      refine x_iload_n hm rfl rfl ?_
      refine x_iconst hm rfl (v := nI 0) (by decide) ?_
      refine x_aload_n hm rfl rfl ?_
      refine x_getf hm rfl (gR rfl rfl) ?_
      refine x_iload_n hm rfl rfl ?_
      refine x_iald hm rfl (lI rfl (by omega) (by decide)) ?_
      refine x_iconst hm rfl (v := nI 1) (by decide) ?_
      refine x_isub hm rfl ?_
      refine x_callS hm rfl rfl (t133) ?_
      refine x_if_ne hm rfl (t := 53) rfl (fun h3 => ?_) (fun h3 => ?_)
      · have hj := h3
        obtain ⟨i, hi, rfl⟩ := in_k hzk (by omega) (bI_ne0 hj)
        refine x_aload_n hm rfl rfl ?_
        refine x_getf hm rfl (gR rfl rfl) ?_
        refine x_bipush hm rfl (v := nI 40) (by decide) ?_
        refine x_iload_n hm rfl rfl ?_
        refine x_imul hm rfl ?_
        rw [jI_mul]
        refine x_iload_n hm rfl rfl ?_
        refine x_iadd hm rfl ?_
        rw [jI_add]
        refine x_iload_n hm rfl rfl ?_
        refine x_aload_n hm rfl rfl ?_
        refine x_getf hm rfl (gR rfl rfl) ?_
        refine x_iload_n hm rfl rfl ?_
        refine x_iald hm rfl (lI rfl (by omega) (by decide)) ?_
        refine x_callS hm rfl rfl (g236) ?_
        refine x_iast hm rfl (sI rfl (by omega) (by decide)) ?_
        refine x_iconst hm rfl (v := nI 1) (by decide) ?_
        refine x_iret hm rfl rfl (by first | rfl | exact bI_nar | decide) ?_
        have hq : fWrite (M 76) (M 77) (M 78) (nI s) (nI i) a3 = (nI 1, M 76, M 77, put1 (M 78) (40 * s + i) (cut (M 76 s) a3)) := by
          unfold fWrite
          rw [if_neg (not_not_intro hlk), jI_nat (by omega), if_neg hj, jI_nat (by omega)]
        exact ⟨_, _, rfl, rfl, by rw [hq]; exact ⟨rfl, mpo (by decide), mpo (by decide), mputf, fun a _ _ _ h _ => mpo h⟩⟩
      · refine x_aload_n hm rfl rfl ?_
        refine x_ldcI hm rfl (v := (-1000001 : Int32)) (by decide +kernel) ?_
        refine x_callV hm rfl rfl (e135 (by decide +kernel)) ?_
        refine x_iret hm rfl rfl (by first | rfl | exact bI_nar | decide) ?_
        have hq : fWrite (M 76) (M 77) (M 78) (nI s) a2 a3 = (-1000001, M 76, M 77, M 78) := by
          unfold fWrite
          rw [if_neg (not_not_intro hlk), jI_nat (by omega), if_pos (by assumption)]
        exact ⟨_, _, rfl, rfl, by rw [hq]; exact fnd_hq⟩
    · have hlk := lkS_b (w := M 76) hs h2
      refine x_aload_n hm rfl rfl ?_
      refine x_ldcI hm rfl (v := (-1000006 : Int32)) (by decide +kernel) ?_
      refine x_callV hm rfl rfl (e135 (by decide +kernel)) ?_
      refine x_iret hm rfl rfl (by first | rfl | exact bI_nar | decide) ?_
      have hq : fWrite (M 76) (M 77) (M 78) (nI s) a2 a3 = (-1000006, M 76, M 77, M 78) := by
        unfold fWrite
        rw [if_pos (by rw [hlk]; decide), hlk]
      exact ⟨_, _, rfl, rfl, by rw [hq]; exact fnd_hq⟩
  · have hlk := lkS_a (w := M 76) h1
    refine x_aload_n hm rfl rfl ?_
    refine x_ldcI hm rfl (v := (-1000001 : Int32)) (by decide +kernel) ?_
    refine x_callV hm rfl rfl (e135 (by decide +kernel)) ?_
    refine x_iret hm rfl rfl (by first | rfl | exact bI_nar | decide) ?_
    have hq : fWrite (M 76) (M 77) (M 78) a1 a2 a3 = (-1000001, M 76, M 77, M 78) := by
      unfold fWrite
      rw [if_pos (by rw [hlk]; decide), hlk]
    exact ⟨_, _, rfl, rfl, by rw [hq]; exact fnd_hq⟩
theorem Wok.put {i : Nat} {v : Int32} (h : Wok w) (hv : v = 0 ∨ v = nI 8 ∨ v = nI 16 ∨ v = nI 32) : Wok (put1 w i v) := by
  intro s hs
  by_cases e : s = i
  · subst e
    rw [put1_s]
    exact hv
  · rw [put1_o e]
    exact h s hs
theorem okb_4 {v : Int32} (h : ¬ okb v = false) : v = 0 ∨ v = nI 8 ∨ v = nI 16 ∨ v = nI 32 := by
  have this : okb v = true := by simpa using h
  unfold okb at this
  simp only [Bool.or_eq_true, decide_eq_true_eq] at this
  rcases this with ((h | h) | h) | h
  · exact Or.inl h
  · exact Or.inr (Or.inl h)
  · exact Or.inr (Or.inr (Or.inl h))
  · exact Or.inr (Or.inr (Or.inr h))
theorem Wok.sheet {a1 a2 a3 : Int32} (h : Wok w) : Wok (fSheet w z n a1 a2 a3).2.1 := by
  unfold fSheet
  split
  · exact h
  · split
    · exact h
    · rename_i hb
      split
      · split
        · exact h.put (okb_4 hb)
        · exact h
      · exact h
theorem Wok.write {a1 a2 a3 : Int32} (h : Wok w) : Wok (fWrite w z n a1 a2 a3).2.1 := by
  unfold fWrite
  split
  · exact h
  · split
    · exact h
    · exact h
end EV
