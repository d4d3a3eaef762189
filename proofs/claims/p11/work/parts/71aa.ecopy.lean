/-! ===== copy ===== -/
abbrev hsP (l a n : Int32) : Prop := 0 ≤ a ∧ 0 ≤ n ∧ a ≤ l ∧ n ≤ l - a
def mvY (y : Nat → Int32) (s i t j c : Nat) : Nat → Int32 := fun x => if 40 * t + j ≤ x ∧ x < 40 * t + j + c then y (40 * s + i + (x - (40 * t + j))) else y x
def fCopy (w z y : Nat → Int32) (a1 a2 a3 a4 a5 : Int32) : SS :=
  if bI (nI 0 ≤ a1 ∧ a1 ≤ nI 3) = 0 then (-1000001, w, z, y) else if bI (nI 0 ≤ a3 ∧ a3 ≤ nI 3) = 0 then (-1000001, w, z, y) else if w a1.toNatClampNeg = 0 then (-1000006, w, z, y) else if w a3.toNatClampNeg = 0 then (-1000006, w, z, y) else if ¬ w a1.toNatClampNeg = w a3.toNatClampNeg then (-1000003, w, z, y) else if ¬ (hsP (z a1.toNatClampNeg) a2 a5 ∧ hsP (z a3.toNatClampNeg) a4 a5) then (-1000001, w, z, y) else (a5, w, z, mvY y a1.toNatClampNeg a2.toNatClampNeg a3.toNatClampNeg a4.toNatClampNeg a5.toNatClampNeg)
theorem hsP_iff {z i n : Nat} (hi : i < 2147483648) (hn : n < 2147483648) (hz : z ≤ 40) : hsP (nI z) (nI i) (nI n) ↔ i + n ≤ z := by
  constructor
  · rintro ⟨-, -, h3, h4⟩
    have h5 := (jI_le hi (by omega)).mp h3
    rw [sub_le h5] at h4
    have := (jI_le hn (by omega)).mp h4
    omega
  · intro h
    refine ⟨Int32.not_lt.mp (jI_nn hi), Int32.not_lt.mp (jI_nn hn), (jI_le hi (by omega)).mpr (by omega), ?_⟩
    rw [sub_le (by omega)]
    exact (jI_le hn (by omega)).mpr (by omega)
theorem hsP_k {z : Nat} {a n : Int32} (hz : z ≤ 40) (h : hsP (nI z) a n) : ∃ i j, i < 2147483648 ∧ j < 2147483648 ∧ a = nI i ∧ n = nI j ∧ i + j ≤ z := by
  obtain ⟨i, hi, rfl⟩ := jI_of (Int32.not_lt.mpr h.1)
  obtain ⟨j, hj, rfl⟩ := jI_of (Int32.not_lt.mpr h.2.1)
  exact ⟨i, j, hi, hj, rfl, rfl, (hsP_iff hi hj hz).mp h⟩
theorem cpr {i n z : Nat} (hi : i < 2147483648) (hn : n < 2147483648) (hz : z ≤ 40) (h : i + n ≤ z) : lg_cmp ((nI i).toInt64 + (nI n).toInt64) (nI z).toInt64 ≤ 0 := by
  refine (lg_cmp_le _ _).mpr (Int64.le_iff_toInt_le.mpr ?_)
  rw [lg_add hi hn, Int32.toInt_toInt64, jI_int (by omega)]
  omega
section EX
variable {X : mSc} {Q : Option Value → mHp → Prop} {M : mM} {s : Nat} {w z y : Nat → Int32}
theorem Rs.mv {t i j c : Nat} (h : Rs w z y M) (hs : s ≤ 3) (ht : t ≤ 3) (hi : i + c ≤ 40) (hj : j + c ≤ 40) : Rs w z (mvY y s i t j c) (acp M (2 * s + 59) (2 * t + 59) i j c) := by
  intro u hu
  obtain ⟨h1, h2, h3⟩ := h u hu
  refine ⟨by rw [acp_o (by omega)]; exact h1, by rw [acp_o (by omega)]; exact h2, fun k hk => ?_⟩
  by_cases e : u = t
  · subst e
    show (if 2 * u + 59 = 2 * u + 59 then va_cpy (M (2 * s + 59)) (M (2 * u + 59)) i j c k else M (2 * u + 59) k) = _
    rw [if_pos rfl]
    unfold va_cpy mvY
    by_cases g : j ≤ k ∧ k < j + c
    · rw [if_pos g, if_pos ⟨by omega, by omega⟩, (h s (by omega)).2.2 _ (by omega)]
      congr 1
      omega
    · rw [if_neg g, if_neg (by omega)]
      exact h3 k hk
  · rw [acp_o (by omega), h3 k hk]
    unfold mvY
    rw [if_neg (by omega)]
theorem g121 {l : Nat} {a1 a2 : Int32} (hs : s ≤ 3) (hsz : M (2 * s + 58) 2 = nI l) : mT X 121 [.ref (2 * s + 58), .int a1, .int a2] (con M) (some (.int (bI (hsP (nI l) a1 a2)))) (con M) := by
  refine mT.of (row := _) rfl (Nat.le_of_ble_eq_true rfl) ?_
  have hm : mMet 121 = some _ := rfl
  refine x_iload_n hm rfl rfl ?_
  refine x_if_lt hm rfl (t := 30) rfl (fun h1 => ?_) (fun h1 => ?_)
  · have hv : nI 0 = bI (hsP (nI l) a1 a2) := bI_f fun q => Int32.not_le.mpr h1 q.1
    refine x_iconst hm rfl (v := nI 0) (by decide) ?_
    refine x_iret hm rfl rfl (by first | rfl | exact bI_nar | decide) ?_
    exact qt (congrArg Value.int hv)
  · have p1 := Int32.not_lt.mp h1
    refine x_iload_n hm rfl rfl ?_
    refine x_if_lt hm rfl (t := 30) rfl (fun h2 => ?_) (fun h2 => ?_)
    · have hv : nI 0 = bI (hsP (nI l) a1 a2) := bI_f fun q => Int32.not_le.mpr h2 q.2.1
      refine x_iconst hm rfl (v := nI 0) (by decide) ?_
      refine x_iret hm rfl rfl (by first | rfl | exact bI_nar | decide) ?_
      exact qt (congrArg Value.int hv)
    · have p2 := Int32.not_lt.mp h2
      refine x_iload_n hm rfl rfl ?_
      refine x_aload_n hm rfl rfl ?_
      refine x_getf hm rfl (by first | exact gI (sO hs) rfl) ?_
      rw [hsz]
      refine x_icmp_gt hm rfl (t := 30) rfl (fun h3 => ?_) (fun h3 => ?_)
      · have hv : nI 0 = bI (hsP (nI l) a1 a2) := bI_f fun q => Int32.not_le.mpr h3 q.2.2.1
        refine x_iconst hm rfl (v := nI 0) (by decide) ?_
        refine x_iret hm rfl rfl (by first | rfl | exact bI_nar | decide) ?_
        exact qt (congrArg Value.int hv)
      · have p3 := Int32.not_lt.mp h3
        refine x_iload_n hm rfl rfl ?_
        refine x_aload_n hm rfl rfl ?_
        refine x_getf hm rfl (by first | exact gI (sO hs) rfl) ?_
        rw [hsz]
        refine x_iload_n hm rfl rfl ?_
        refine x_isub hm rfl ?_
        refine x_icmp_gt hm rfl (t := 30) rfl (fun h4 => ?_) (fun h4 => ?_)
        · have hv : nI 0 = bI (hsP (nI l) a1 a2) := bI_f fun q => Int32.not_le.mpr h4 q.2.2.2
          refine x_iconst hm rfl (v := nI 0) (by decide) ?_
          refine x_iret hm rfl rfl (by first | rfl | exact bI_nar | decide) ?_
          exact qt (congrArg Value.int hv)
        · have hv : nI 1 = bI (hsP (nI l) a1 a2) := bI_t ⟨p1, p2, p3, Int32.not_lt.mp h4⟩
          refine x_iconst hm rfl (v := nI 1) (by decide) ?_
          refine x_goto hm rfl (t := 31) rfl ?_
          refine x_iret hm rfl rfl (by first | rfl | exact bI_nar | decide) ?_
          exact qt (congrArg Value.int hv)
theorem g120 {a1 a2 a3 a4 a5 : Int32} (hR : Rs w z y M) (hz : ∀ u, u < 4 → ∃ k, k ≤ 40 ∧ z u = nI k) : ∃ v M', mT X 120 [.ref 0, .int a1, .int a2, .int a3, .int a4, .int a5] (con M) (some (.int v)) (con M') ∧ Gq (fCopy w z y a1 a2 a3 a4 a5) v M M' := by
  refine ti_of (row := _) rfl (Nat.le_of_ble_eq_true rfl) ?_
  have hm : mMet 120 = some _ := rfl
  refine x_iload_n hm rfl rfl ?_
  refine x_callS hm rfl rfl (t78) ?_
  refine x_if_eq hm rfl (t := 14) rfl (fun h1 => ?_) (fun h1 => ?_)
  · refine x_aload_n hm rfl rfl ?_
    refine x_ldcI hm rfl (v := (-1000001 : Int32)) (by decide +kernel) ?_
    refine x_cVi hm rfl rfl (t7 (by decide +kernel)) (fun v2 M2 r2 => ?_)
    refine x_iret hm rfl rfl (by first | rfl | exact bI_nar | decide) ?_
    first
      | (have hq : fCopy w z y a1 a2 a3 a4 a5 = (-1000001, w, z, y) := by
           unfold fCopy
           rw [if_pos h1]
         exact ⟨_, _, rfl, rfl, by rw [hq]; exact hR.bq r2.2 r2.1⟩)
      | (have hq : fCopy w z y (nI s) a2 a3 a4 a5 = (-1000001, w, z, y) := by
           unfold fCopy
           rw [if_neg h1, if_pos (by assumption)]
         exact ⟨_, _, rfl, rfl, by rw [hq]; exact hR.bq r2.2 r2.1⟩)
      | (have hq : fCopy w z y a1 a2 a3 a4 a5 = (-1000001, w, z, y) := by
           unfold fCopy
           rw [if_pos h1]
         exact ⟨_, _, rfl, rfl, by rw [hq]; exact hR.bq r1.2 r1.1⟩)
      | (have hq : fCopy w z y a1 a2 a3 a4 a5 = (-1000001, w, z, y) := by
           unfold fCopy
           rw [if_pos h1]
         exact ⟨_, _, rfl, rfl, by rw [hq]; exact hR.bq r3.2 r3.1⟩)
      | (have hq : fCopy w z y a1 a2 a3 a4 a5 = (-1000001, w, z, y) := by
           unfold fCopy
           rw [if_pos h1]
         exact ⟨_, _, rfl, rfl, by rw [hq]; exact hR.bq r4.2 r4.1⟩)
      | (have hq : fCopy w z y a1 a2 a3 a4 a5 = (-1000001, w, z, y) := by
           unfold fCopy
           rw [if_pos h1]
         exact ⟨_, _, rfl, rfl, by rw [hq]; exact hR.bq r5.2 r5.1⟩)
      | (have hq : fCopy w z y a1 a2 a3 a4 a5 = (-1000001, w, z, y) := by
           unfold fCopy
           rw [if_pos h1]
         exact ⟨_, _, rfl, rfl, by rw [hq]; exact hR.bq r6.2 r6.1⟩)
      | (have hq : fCopy w z y a1 a2 a3 a4 a5 = (-1000001, w, z, y) := by
           unfold fCopy
           rw [if_pos h1]
         exact ⟨_, _, rfl, rfl, by rw [hq]; exact hR.bq r7.2 r7.1⟩)
      | (have hq : fCopy w z y a1 a2 a3 a4 a5 = (-1000001, w, z, y) := by
           unfold fCopy
           rw [if_pos h1]
         exact ⟨_, _, rfl, rfl, by rw [hq]; exact hR.bq r8.2 r8.1⟩)
      | (have hq : fCopy w z y a1 a2 a3 a4 a5 = (-1000001, w, z, y) := by
           unfold fCopy
           rw [if_pos h1]
         exact ⟨_, _, rfl, rfl, by rw [hq]; exact hR.bq r9.2 r9.1⟩)
      | (have hq : fCopy w z y a1 a2 a3 a4 a5 = (-1000001, w, z, y) := by
           unfold fCopy
           rw [if_pos h1]
         exact ⟨_, _, rfl, rfl, by rw [hq]; exact hR.bq r10.2 r10.1⟩)
      | (have hq : fCopy w z y a1 a2 a3 a4 a5 = (-1000001, w, z, y) := by
           unfold fCopy
           rw [if_pos h1]
         exact ⟨_, _, rfl, rfl, by rw [hq]; exact hR.bq r11.2 r11.1⟩)
      | (have hq : fCopy w z y a1 a2 a3 a4 a5 = (-1000001, w, z, y) := by
           unfold fCopy
           rw [if_pos h1]
         exact ⟨_, _, rfl, rfl, by rw [hq]; exact hR.bq r12.2 r12.1⟩)
      | (have hq : fCopy w z y a1 a2 a3 a4 a5 = (-1000001, w, z, y) := by
           unfold fCopy
           rw [if_pos h1]
         exact ⟨_, _, rfl, rfl, by rw [hq]; exact hR.bq r13.2 r13.1⟩)
      | (have hq : fCopy w z y a1 a2 a3 a4 a5 = (-1000001, w, z, y) := by
           unfold fCopy
           rw [if_pos h1]
         exact ⟨_, _, rfl, rfl, by rw [hq]; exact hR.bq r14.2 r14.1⟩)
      | (have hq : fCopy w z y a1 a2 a3 a4 a5 = (-1000001, w, z, y) := by
           unfold fCopy
           rw [if_pos h1]
         exact ⟨_, _, rfl, rfl, by rw [hq]; exact hR.bq r15.2 r15.1⟩)
      | (have hq : fCopy w z y a1 a2 a3 a4 a5 = (-1000001, w, z, y) := by
           unfold fCopy
           rw [if_pos h1]
         exact ⟨_, _, rfl, rfl, by rw [hq]; exact hR.bq r16.2 r16.1⟩)
      | (have hq : fCopy w z y a1 a2 a3 a4 a5 = (-1000001, w, z, y) := by
           unfold fCopy
           rw [if_pos h1]
         exact ⟨_, _, rfl, rfl, by rw [hq]; exact hR.bq r17.2 r17.1⟩)
      | (have hq : fCopy w z y a1 a2 a3 a4 a5 = (-1000001, w, z, y) := by
           unfold fCopy
           rw [if_pos h1]
         exact ⟨_, _, rfl, rfl, by rw [hq]; exact hR.bq r18.2 r18.1⟩)
      | (have hq : fCopy w z y a1 a2 a3 a4 a5 = (-1000001, w, z, y) := by
           unfold fCopy
           rw [if_pos h1]
         exact ⟨_, _, rfl, rfl, by rw [hq]; exact hR.bq r19.2 r19.1⟩)
      | (have hq : fCopy w z y a1 a2 a3 a4 a5 = (-1000001, w, z, y) := by
           unfold fCopy
           rw [if_pos h1]
         exact ⟨_, _, rfl, rfl, by rw [hq]; exact hR.bq r20.2 r20.1⟩)
      | (have hq : fCopy w z y a1 a2 a3 a4 a5 = (-1000001, w, z, y) := by
           unfold fCopy
           rw [if_pos h1]
         exact ⟨_, _, rfl, rfl, by rw [hq]; exact hR.bq r21.2 r21.1⟩)
      | (have hq : fCopy w z y a1 a2 a3 a4 a5 = (-1000001, w, z, y) := by
           unfold fCopy
           rw [if_pos h1]
         exact ⟨_, _, rfl, rfl, by rw [hq]; exact hR.bq r22.2 r22.1⟩)
      | (have hq : fCopy w z y a1 a2 a3 a4 a5 = (-1000001, w, z, y) := by
           unfold fCopy
           rw [if_pos h1]
         exact ⟨_, _, rfl, rfl, by rw [hq]; exact hR.bq r23.2 r23.1⟩)
      | (have hq : fCopy w z y a1 a2 a3 a4 a5 = (-1000001, w, z, y) := by
           unfold fCopy
           rw [if_pos h1]
         exact ⟨_, _, rfl, rfl, by rw [hq]; exact hR.bq r24.2 r24.1⟩)
      | (have hq : fCopy w z y a1 a2 a3 a4 a5 = (-1000001, w, z, y) := by
           unfold fCopy
           rw [if_pos h1]
         exact ⟨_, _, rfl, rfl, by rw [hq]; exact hR.bq r25.2 r25.1⟩)
      | (have hq : fCopy w z y (nI s) a2 a3 a4 a5 = (-1000001, w, z, y) := by
           unfold fCopy
           rw [if_neg h1, if_pos (by assumption)]
         exact ⟨_, _, rfl, rfl, by rw [hq]; exact hR.bq r1.2 r1.1⟩)
      | (have hq : fCopy w z y (nI s) a2 a3 a4 a5 = (-1000001, w, z, y) := by
           unfold fCopy
           rw [if_neg h1, if_pos (by assumption)]
         exact ⟨_, _, rfl, rfl, by rw [hq]; exact hR.bq r3.2 r3.1⟩)
      | (have hq : fCopy w z y (nI s) a2 a3 a4 a5 = (-1000001, w, z, y) := by
           unfold fCopy
           rw [if_neg h1, if_pos (by assumption)]
         exact ⟨_, _, rfl, rfl, by rw [hq]; exact hR.bq r4.2 r4.1⟩)
      | (have hq : fCopy w z y (nI s) a2 a3 a4 a5 = (-1000001, w, z, y) := by
           unfold fCopy
           rw [if_neg h1, if_pos (by assumption)]
         exact ⟨_, _, rfl, rfl, by rw [hq]; exact hR.bq r5.2 r5.1⟩)
      | (have hq : fCopy w z y (nI s) a2 a3 a4 a5 = (-1000001, w, z, y) := by
           unfold fCopy
           rw [if_neg h1, if_pos (by assumption)]
         exact ⟨_, _, rfl, rfl, by rw [hq]; exact hR.bq r6.2 r6.1⟩)
      | (have hq : fCopy w z y (nI s) a2 a3 a4 a5 = (-1000001, w, z, y) := by
           unfold fCopy
           rw [if_neg h1, if_pos (by assumption)]
         exact ⟨_, _, rfl, rfl, by rw [hq]; exact hR.bq r7.2 r7.1⟩)
      | (have hq : fCopy w z y (nI s) a2 a3 a4 a5 = (-1000001, w, z, y) := by
           unfold fCopy
           rw [if_neg h1, if_pos (by assumption)]
         exact ⟨_, _, rfl, rfl, by rw [hq]; exact hR.bq r8.2 r8.1⟩)
      | (have hq : fCopy w z y (nI s) a2 a3 a4 a5 = (-1000001, w, z, y) := by
           unfold fCopy
           rw [if_neg h1, if_pos (by assumption)]
         exact ⟨_, _, rfl, rfl, by rw [hq]; exact hR.bq r9.2 r9.1⟩)
      | (have hq : fCopy w z y (nI s) a2 a3 a4 a5 = (-1000001, w, z, y) := by
           unfold fCopy
           rw [if_neg h1, if_pos (by assumption)]
         exact ⟨_, _, rfl, rfl, by rw [hq]; exact hR.bq r10.2 r10.1⟩)
      | (have hq : fCopy w z y (nI s) a2 a3 a4 a5 = (-1000001, w, z, y) := by
           unfold fCopy
           rw [if_neg h1, if_pos (by assumption)]
         exact ⟨_, _, rfl, rfl, by rw [hq]; exact hR.bq r11.2 r11.1⟩)
      | (have hq : fCopy w z y (nI s) a2 a3 a4 a5 = (-1000001, w, z, y) := by
           unfold fCopy
           rw [if_neg h1, if_pos (by assumption)]
         exact ⟨_, _, rfl, rfl, by rw [hq]; exact hR.bq r12.2 r12.1⟩)
      | (have hq : fCopy w z y (nI s) a2 a3 a4 a5 = (-1000001, w, z, y) := by
           unfold fCopy
           rw [if_neg h1, if_pos (by assumption)]
         exact ⟨_, _, rfl, rfl, by rw [hq]; exact hR.bq r13.2 r13.1⟩)
      | (have hq : fCopy w z y (nI s) a2 a3 a4 a5 = (-1000001, w, z, y) := by
           unfold fCopy
           rw [if_neg h1, if_pos (by assumption)]
         exact ⟨_, _, rfl, rfl, by rw [hq]; exact hR.bq r14.2 r14.1⟩)
      | (have hq : fCopy w z y (nI s) a2 a3 a4 a5 = (-1000001, w, z, y) := by
           unfold fCopy
           rw [if_neg h1, if_pos (by assumption)]
         exact ⟨_, _, rfl, rfl, by rw [hq]; exact hR.bq r15.2 r15.1⟩)
      | (have hq : fCopy w z y (nI s) a2 a3 a4 a5 = (-1000001, w, z, y) := by
           unfold fCopy
           rw [if_neg h1, if_pos (by assumption)]
         exact ⟨_, _, rfl, rfl, by rw [hq]; exact hR.bq r16.2 r16.1⟩)
      | (have hq : fCopy w z y (nI s) a2 a3 a4 a5 = (-1000001, w, z, y) := by
           unfold fCopy
           rw [if_neg h1, if_pos (by assumption)]
         exact ⟨_, _, rfl, rfl, by rw [hq]; exact hR.bq r17.2 r17.1⟩)
      | (have hq : fCopy w z y (nI s) a2 a3 a4 a5 = (-1000001, w, z, y) := by
           unfold fCopy
           rw [if_neg h1, if_pos (by assumption)]
         exact ⟨_, _, rfl, rfl, by rw [hq]; exact hR.bq r18.2 r18.1⟩)
      | (have hq : fCopy w z y (nI s) a2 a3 a4 a5 = (-1000001, w, z, y) := by
           unfold fCopy
           rw [if_neg h1, if_pos (by assumption)]
         exact ⟨_, _, rfl, rfl, by rw [hq]; exact hR.bq r19.2 r19.1⟩)
      | (have hq : fCopy w z y (nI s) a2 a3 a4 a5 = (-1000001, w, z, y) := by
           unfold fCopy
           rw [if_neg h1, if_pos (by assumption)]
         exact ⟨_, _, rfl, rfl, by rw [hq]; exact hR.bq r20.2 r20.1⟩)
      | (have hq : fCopy w z y (nI s) a2 a3 a4 a5 = (-1000001, w, z, y) := by
           unfold fCopy
           rw [if_neg h1, if_pos (by assumption)]
         exact ⟨_, _, rfl, rfl, by rw [hq]; exact hR.bq r21.2 r21.1⟩)
      | (have hq : fCopy w z y (nI s) a2 a3 a4 a5 = (-1000001, w, z, y) := by
           unfold fCopy
           rw [if_neg h1, if_pos (by assumption)]
         exact ⟨_, _, rfl, rfl, by rw [hq]; exact hR.bq r22.2 r22.1⟩)
      | (have hq : fCopy w z y (nI s) a2 a3 a4 a5 = (-1000001, w, z, y) := by
           unfold fCopy
           rw [if_neg h1, if_pos (by assumption)]
         exact ⟨_, _, rfl, rfl, by rw [hq]; exact hR.bq r23.2 r23.1⟩)
      | (have hq : fCopy w z y (nI s) a2 a3 a4 a5 = (-1000001, w, z, y) := by
           unfold fCopy
           rw [if_neg h1, if_pos (by assumption)]
         exact ⟨_, _, rfl, rfl, by rw [hq]; exact hR.bq r24.2 r24.1⟩)
      | (have hq : fCopy w z y (nI s) a2 a3 a4 a5 = (-1000001, w, z, y) := by
           unfold fCopy
           rw [if_neg h1, if_pos (by assumption)]
         exact ⟨_, _, rfl, rfl, by rw [hq]; exact hR.bq r25.2 r25.1⟩)
  · obtain ⟨s, hs, hs3⟩ := le_k (by omega) (bI_ne0 h1)
    subst hs3
    refine x_iload_n hm rfl rfl ?_
    refine x_callS hm rfl rfl (t78) ?_
    refine x_if_ne hm rfl (t := 21) rfl (fun h3 => ?_) (fun h3 => ?_)
    · have hh3 := h3
      obtain ⟨u, hu, hu3⟩ := le_k (by omega) (bI_ne0 h3)
      subst hu3
      obtain ⟨ls, hls, hzs⟩ := hz s (by omega)
      obtain ⟨lu, hlu, hzu⟩ := hz u (by omega)
      have hRs := hR s (by omega)
      have hRu := hR u (by omega)
      refine x_aload_n hm rfl rfl ?_
      refine x_getf hm rfl (gR rfl rfl) ?_
      refine x_iload_n hm rfl rfl ?_
      refine x_aald hm rfl (by first | exact lQ 2 (Or.inl rfl) rfl (shk hs) (by omega) (by decide) | exact lQ 2 (Or.inl rfl) rfl (shk hu) (by omega) (by decide) | exact lQ 3 (Or.inr (Or.inl rfl)) rfl rfl (by omega) (by decide)) ?_
      refine x_callV hm rfl (by first | exact mCallSh hs (by decide) rfl rfl rfl rfl rfl | exact mCallSh hu (by decide) rfl rfl rfl rfl rfl) (by first | exact t79 hs | exact t79 hu) ?_
      rw [hRs.1]
      refine x_if_ne hm rfl (t := 45) rfl (fun h4 => ?_) (fun h4 => ?_)
      · have ws : w s = 0 := bI_ne0 h4
        refine x_aload_n hm rfl rfl ?_
        refine x_ldcI hm rfl (v := (-1000006 : Int32)) (by decide +kernel) ?_
        refine x_cVi hm rfl rfl (t7 (by decide +kernel)) (fun v5 M5 r5 => ?_)
        refine x_iret hm rfl rfl (by first | rfl | exact bI_nar | decide) ?_
        first
          | (have hq : fCopy w z y (nI s) a2 (nI u) a4 a5 = (-1000006, w, z, y) := by
               unfold fCopy
               rw [if_neg h1, if_neg hh3, jI_nat (by omega), jI_nat (by omega), if_pos ws]
             exact ⟨_, _, rfl, rfl, by rw [hq]; exact hR.bq r5.2 r5.1⟩)
          | (have hq : fCopy w z y (nI s) a2 (nI u) a4 a5 = (-1000006, w, z, y) := by
               unfold fCopy
               rw [if_neg h1, if_neg hh3, jI_nat (by omega), jI_nat (by omega), if_neg ws, if_pos wu]
             exact ⟨_, _, rfl, rfl, by rw [hq]; exact hR.bq r5.2 r5.1⟩)
          | (have hq : fCopy w z y (nI s) a2 (nI u) a4 a5 = (-1000006, w, z, y) := by
               unfold fCopy
               rw [if_neg h1, if_neg hh3, jI_nat (by omega), jI_nat (by omega), if_pos ws]
             exact ⟨_, _, rfl, rfl, by rw [hq]; exact hR.bq r1.2 r1.1⟩)
          | (have hq : fCopy w z y (nI s) a2 (nI u) a4 a5 = (-1000006, w, z, y) := by
               unfold fCopy
               rw [if_neg h1, if_neg hh3, jI_nat (by omega), jI_nat (by omega), if_pos ws]
             exact ⟨_, _, rfl, rfl, by rw [hq]; exact hR.bq r2.2 r2.1⟩)
          | (have hq : fCopy w z y (nI s) a2 (nI u) a4 a5 = (-1000006, w, z, y) := by
               unfold fCopy
               rw [if_neg h1, if_neg hh3, jI_nat (by omega), jI_nat (by omega), if_pos ws]
             exact ⟨_, _, rfl, rfl, by rw [hq]; exact hR.bq r3.2 r3.1⟩)
          | (have hq : fCopy w z y (nI s) a2 (nI u) a4 a5 = (-1000006, w, z, y) := by
               unfold fCopy
               rw [if_neg h1, if_neg hh3, jI_nat (by omega), jI_nat (by omega), if_pos ws]
             exact ⟨_, _, rfl, rfl, by rw [hq]; exact hR.bq r4.2 r4.1⟩)
          | (have hq : fCopy w z y (nI s) a2 (nI u) a4 a5 = (-1000006, w, z, y) := by
               unfold fCopy
               rw [if_neg h1, if_neg hh3, jI_nat (by omega), jI_nat (by omega), if_pos ws]
             exact ⟨_, _, rfl, rfl, by rw [hq]; exact hR.bq r6.2 r6.1⟩)
          | (have hq : fCopy w z y (nI s) a2 (nI u) a4 a5 = (-1000006, w, z, y) := by
               unfold fCopy
               rw [if_neg h1, if_neg hh3, jI_nat (by omega), jI_nat (by omega), if_pos ws]
             exact ⟨_, _, rfl, rfl, by rw [hq]; exact hR.bq r7.2 r7.1⟩)
          | (have hq : fCopy w z y (nI s) a2 (nI u) a4 a5 = (-1000006, w, z, y) := by
               unfold fCopy
               rw [if_neg h1, if_neg hh3, jI_nat (by omega), jI_nat (by omega), if_pos ws]
             exact ⟨_, _, rfl, rfl, by rw [hq]; exact hR.bq r8.2 r8.1⟩)
          | (have hq : fCopy w z y (nI s) a2 (nI u) a4 a5 = (-1000006, w, z, y) := by
               unfold fCopy
               rw [if_neg h1, if_neg hh3, jI_nat (by omega), jI_nat (by omega), if_pos ws]
             exact ⟨_, _, rfl, rfl, by rw [hq]; exact hR.bq r9.2 r9.1⟩)
          | (have hq : fCopy w z y (nI s) a2 (nI u) a4 a5 = (-1000006, w, z, y) := by
               unfold fCopy
               rw [if_neg h1, if_neg hh3, jI_nat (by omega), jI_nat (by omega), if_pos ws]
             exact ⟨_, _, rfl, rfl, by rw [hq]; exact hR.bq r10.2 r10.1⟩)
          | (have hq : fCopy w z y (nI s) a2 (nI u) a4 a5 = (-1000006, w, z, y) := by
               unfold fCopy
               rw [if_neg h1, if_neg hh3, jI_nat (by omega), jI_nat (by omega), if_pos ws]
             exact ⟨_, _, rfl, rfl, by rw [hq]; exact hR.bq r11.2 r11.1⟩)
          | (have hq : fCopy w z y (nI s) a2 (nI u) a4 a5 = (-1000006, w, z, y) := by
               unfold fCopy
               rw [if_neg h1, if_neg hh3, jI_nat (by omega), jI_nat (by omega), if_pos ws]
             exact ⟨_, _, rfl, rfl, by rw [hq]; exact hR.bq r12.2 r12.1⟩)
          | (have hq : fCopy w z y (nI s) a2 (nI u) a4 a5 = (-1000006, w, z, y) := by
               unfold fCopy
               rw [if_neg h1, if_neg hh3, jI_nat (by omega), jI_nat (by omega), if_pos ws]
             exact ⟨_, _, rfl, rfl, by rw [hq]; exact hR.bq r13.2 r13.1⟩)
          | (have hq : fCopy w z y (nI s) a2 (nI u) a4 a5 = (-1000006, w, z, y) := by
               unfold fCopy
               rw [if_neg h1, if_neg hh3, jI_nat (by omega), jI_nat (by omega), if_pos ws]
             exact ⟨_, _, rfl, rfl, by rw [hq]; exact hR.bq r14.2 r14.1⟩)
          | (have hq : fCopy w z y (nI s) a2 (nI u) a4 a5 = (-1000006, w, z, y) := by
               unfold fCopy
               rw [if_neg h1, if_neg hh3, jI_nat (by omega), jI_nat (by omega), if_pos ws]
             exact ⟨_, _, rfl, rfl, by rw [hq]; exact hR.bq r15.2 r15.1⟩)
          | (have hq : fCopy w z y (nI s) a2 (nI u) a4 a5 = (-1000006, w, z, y) := by
               unfold fCopy
               rw [if_neg h1, if_neg hh3, jI_nat (by omega), jI_nat (by omega), if_pos ws]
             exact ⟨_, _, rfl, rfl, by rw [hq]; exact hR.bq r16.2 r16.1⟩)
          | (have hq : fCopy w z y (nI s) a2 (nI u) a4 a5 = (-1000006, w, z, y) := by
               unfold fCopy
               rw [if_neg h1, if_neg hh3, jI_nat (by omega), jI_nat (by omega), if_pos ws]
             exact ⟨_, _, rfl, rfl, by rw [hq]; exact hR.bq r17.2 r17.1⟩)
          | (have hq : fCopy w z y (nI s) a2 (nI u) a4 a5 = (-1000006, w, z, y) := by
               unfold fCopy
               rw [if_neg h1, if_neg hh3, jI_nat (by omega), jI_nat (by omega), if_pos ws]
             exact ⟨_, _, rfl, rfl, by rw [hq]; exact hR.bq r18.2 r18.1⟩)
          | (have hq : fCopy w z y (nI s) a2 (nI u) a4 a5 = (-1000006, w, z, y) := by
               unfold fCopy
               rw [if_neg h1, if_neg hh3, jI_nat (by omega), jI_nat (by omega), if_pos ws]
             exact ⟨_, _, rfl, rfl, by rw [hq]; exact hR.bq r19.2 r19.1⟩)
          | (have hq : fCopy w z y (nI s) a2 (nI u) a4 a5 = (-1000006, w, z, y) := by
               unfold fCopy
               rw [if_neg h1, if_neg hh3, jI_nat (by omega), jI_nat (by omega), if_pos ws]
             exact ⟨_, _, rfl, rfl, by rw [hq]; exact hR.bq r20.2 r20.1⟩)
          | (have hq : fCopy w z y (nI s) a2 (nI u) a4 a5 = (-1000006, w, z, y) := by
               unfold fCopy
               rw [if_neg h1, if_neg hh3, jI_nat (by omega), jI_nat (by omega), if_pos ws]
             exact ⟨_, _, rfl, rfl, by rw [hq]; exact hR.bq r21.2 r21.1⟩)
          | (have hq : fCopy w z y (nI s) a2 (nI u) a4 a5 = (-1000006, w, z, y) := by
               unfold fCopy
               rw [if_neg h1, if_neg hh3, jI_nat (by omega), jI_nat (by omega), if_pos ws]
             exact ⟨_, _, rfl, rfl, by rw [hq]; exact hR.bq r22.2 r22.1⟩)
          | (have hq : fCopy w z y (nI s) a2 (nI u) a4 a5 = (-1000006, w, z, y) := by
               unfold fCopy
               rw [if_neg h1, if_neg hh3, jI_nat (by omega), jI_nat (by omega), if_pos ws]
             exact ⟨_, _, rfl, rfl, by rw [hq]; exact hR.bq r23.2 r23.1⟩)
          | (have hq : fCopy w z y (nI s) a2 (nI u) a4 a5 = (-1000006, w, z, y) := by
               unfold fCopy
               rw [if_neg h1, if_neg hh3, jI_nat (by omega), jI_nat (by omega), if_pos ws]
             exact ⟨_, _, rfl, rfl, by rw [hq]; exact hR.bq r24.2 r24.1⟩)
          | (have hq : fCopy w z y (nI s) a2 (nI u) a4 a5 = (-1000006, w, z, y) := by
               unfold fCopy
               rw [if_neg h1, if_neg hh3, jI_nat (by omega), jI_nat (by omega), if_pos ws]
             exact ⟨_, _, rfl, rfl, by rw [hq]; exact hR.bq r25.2 r25.1⟩)
          | (have hq : fCopy w z y (nI s) a2 (nI u) a4 a5 = (-1000006, w, z, y) := by
               unfold fCopy
               rw [if_neg h1, if_neg hh3, jI_nat (by omega), jI_nat (by omega), if_neg ws, if_pos wu]
             exact ⟨_, _, rfl, rfl, by rw [hq]; exact hR.bq r1.2 r1.1⟩)
          | (have hq : fCopy w z y (nI s) a2 (nI u) a4 a5 = (-1000006, w, z, y) := by
               unfold fCopy
               rw [if_neg h1, if_neg hh3, jI_nat (by omega), jI_nat (by omega), if_neg ws, if_pos wu]
             exact ⟨_, _, rfl, rfl, by rw [hq]; exact hR.bq r2.2 r2.1⟩)
          | (have hq : fCopy w z y (nI s) a2 (nI u) a4 a5 = (-1000006, w, z, y) := by
               unfold fCopy
               rw [if_neg h1, if_neg hh3, jI_nat (by omega), jI_nat (by omega), if_neg ws, if_pos wu]
             exact ⟨_, _, rfl, rfl, by rw [hq]; exact hR.bq r3.2 r3.1⟩)
          | (have hq : fCopy w z y (nI s) a2 (nI u) a4 a5 = (-1000006, w, z, y) := by
               unfold fCopy
               rw [if_neg h1, if_neg hh3, jI_nat (by omega), jI_nat (by omega), if_neg ws, if_pos wu]
             exact ⟨_, _, rfl, rfl, by rw [hq]; exact hR.bq r4.2 r4.1⟩)
          | (have hq : fCopy w z y (nI s) a2 (nI u) a4 a5 = (-1000006, w, z, y) := by
               unfold fCopy
               rw [if_neg h1, if_neg hh3, jI_nat (by omega), jI_nat (by omega), if_neg ws, if_pos wu]
             exact ⟨_, _, rfl, rfl, by rw [hq]; exact hR.bq r6.2 r6.1⟩)
          | (have hq : fCopy w z y (nI s) a2 (nI u) a4 a5 = (-1000006, w, z, y) := by
               unfold fCopy
               rw [if_neg h1, if_neg hh3, jI_nat (by omega), jI_nat (by omega), if_neg ws, if_pos wu]
             exact ⟨_, _, rfl, rfl, by rw [hq]; exact hR.bq r7.2 r7.1⟩)
          | (have hq : fCopy w z y (nI s) a2 (nI u) a4 a5 = (-1000006, w, z, y) := by
               unfold fCopy
               rw [if_neg h1, if_neg hh3, jI_nat (by omega), jI_nat (by omega), if_neg ws, if_pos wu]
             exact ⟨_, _, rfl, rfl, by rw [hq]; exact hR.bq r8.2 r8.1⟩)
          | (have hq : fCopy w z y (nI s) a2 (nI u) a4 a5 = (-1000006, w, z, y) := by
               unfold fCopy
               rw [if_neg h1, if_neg hh3, jI_nat (by omega), jI_nat (by omega), if_neg ws, if_pos wu]
             exact ⟨_, _, rfl, rfl, by rw [hq]; exact hR.bq r9.2 r9.1⟩)
          | (have hq : fCopy w z y (nI s) a2 (nI u) a4 a5 = (-1000006, w, z, y) := by
               unfold fCopy
               rw [if_neg h1, if_neg hh3, jI_nat (by omega), jI_nat (by omega), if_neg ws, if_pos wu]
             exact ⟨_, _, rfl, rfl, by rw [hq]; exact hR.bq r10.2 r10.1⟩)
          | (have hq : fCopy w z y (nI s) a2 (nI u) a4 a5 = (-1000006, w, z, y) := by
               unfold fCopy
               rw [if_neg h1, if_neg hh3, jI_nat (by omega), jI_nat (by omega), if_neg ws, if_pos wu]
             exact ⟨_, _, rfl, rfl, by rw [hq]; exact hR.bq r11.2 r11.1⟩)
          | (have hq : fCopy w z y (nI s) a2 (nI u) a4 a5 = (-1000006, w, z, y) := by
               unfold fCopy
               rw [if_neg h1, if_neg hh3, jI_nat (by omega), jI_nat (by omega), if_neg ws, if_pos wu]
             exact ⟨_, _, rfl, rfl, by rw [hq]; exact hR.bq r12.2 r12.1⟩)
          | (have hq : fCopy w z y (nI s) a2 (nI u) a4 a5 = (-1000006, w, z, y) := by
               unfold fCopy
               rw [if_neg h1, if_neg hh3, jI_nat (by omega), jI_nat (by omega), if_neg ws, if_pos wu]
             exact ⟨_, _, rfl, rfl, by rw [hq]; exact hR.bq r13.2 r13.1⟩)
          | (have hq : fCopy w z y (nI s) a2 (nI u) a4 a5 = (-1000006, w, z, y) := by
               unfold fCopy
               rw [if_neg h1, if_neg hh3, jI_nat (by omega), jI_nat (by omega), if_neg ws, if_pos wu]
             exact ⟨_, _, rfl, rfl, by rw [hq]; exact hR.bq r14.2 r14.1⟩)
          | (have hq : fCopy w z y (nI s) a2 (nI u) a4 a5 = (-1000006, w, z, y) := by
               unfold fCopy
               rw [if_neg h1, if_neg hh3, jI_nat (by omega), jI_nat (by omega), if_neg ws, if_pos wu]
             exact ⟨_, _, rfl, rfl, by rw [hq]; exact hR.bq r15.2 r15.1⟩)
          | (have hq : fCopy w z y (nI s) a2 (nI u) a4 a5 = (-1000006, w, z, y) := by
               unfold fCopy
               rw [if_neg h1, if_neg hh3, jI_nat (by omega), jI_nat (by omega), if_neg ws, if_pos wu]
             exact ⟨_, _, rfl, rfl, by rw [hq]; exact hR.bq r16.2 r16.1⟩)
          | (have hq : fCopy w z y (nI s) a2 (nI u) a4 a5 = (-1000006, w, z, y) := by
               unfold fCopy
               rw [if_neg h1, if_neg hh3, jI_nat (by omega), jI_nat (by omega), if_neg ws, if_pos wu]
             exact ⟨_, _, rfl, rfl, by rw [hq]; exact hR.bq r17.2 r17.1⟩)
          | (have hq : fCopy w z y (nI s) a2 (nI u) a4 a5 = (-1000006, w, z, y) := by
               unfold fCopy
               rw [if_neg h1, if_neg hh3, jI_nat (by omega), jI_nat (by omega), if_neg ws, if_pos wu]
             exact ⟨_, _, rfl, rfl, by rw [hq]; exact hR.bq r18.2 r18.1⟩)
          | (have hq : fCopy w z y (nI s) a2 (nI u) a4 a5 = (-1000006, w, z, y) := by
               unfold fCopy
               rw [if_neg h1, if_neg hh3, jI_nat (by omega), jI_nat (by omega), if_neg ws, if_pos wu]
             exact ⟨_, _, rfl, rfl, by rw [hq]; exact hR.bq r19.2 r19.1⟩)
          | (have hq : fCopy w z y (nI s) a2 (nI u) a4 a5 = (-1000006, w, z, y) := by
               unfold fCopy
               rw [if_neg h1, if_neg hh3, jI_nat (by omega), jI_nat (by omega), if_neg ws, if_pos wu]
             exact ⟨_, _, rfl, rfl, by rw [hq]; exact hR.bq r20.2 r20.1⟩)
          | (have hq : fCopy w z y (nI s) a2 (nI u) a4 a5 = (-1000006, w, z, y) := by
               unfold fCopy
               rw [if_neg h1, if_neg hh3, jI_nat (by omega), jI_nat (by omega), if_neg ws, if_pos wu]
             exact ⟨_, _, rfl, rfl, by rw [hq]; exact hR.bq r21.2 r21.1⟩)
          | (have hq : fCopy w z y (nI s) a2 (nI u) a4 a5 = (-1000006, w, z, y) := by
               unfold fCopy
               rw [if_neg h1, if_neg hh3, jI_nat (by omega), jI_nat (by omega), if_neg ws, if_pos wu]
             exact ⟨_, _, rfl, rfl, by rw [hq]; exact hR.bq r22.2 r22.1⟩)
          | (have hq : fCopy w z y (nI s) a2 (nI u) a4 a5 = (-1000006, w, z, y) := by
               unfold fCopy
               rw [if_neg h1, if_neg hh3, jI_nat (by omega), jI_nat (by omega), if_neg ws, if_pos wu]
             exact ⟨_, _, rfl, rfl, by rw [hq]; exact hR.bq r23.2 r23.1⟩)
          | (have hq : fCopy w z y (nI s) a2 (nI u) a4 a5 = (-1000006, w, z, y) := by
               unfold fCopy
               rw [if_neg h1, if_neg hh3, jI_nat (by omega), jI_nat (by omega), if_neg ws, if_pos wu]
             exact ⟨_, _, rfl, rfl, by rw [hq]; exact hR.bq r24.2 r24.1⟩)
          | (have hq : fCopy w z y (nI s) a2 (nI u) a4 a5 = (-1000006, w, z, y) := by
               unfold fCopy
               rw [if_neg h1, if_neg hh3, jI_nat (by omega), jI_nat (by omega), if_neg ws, if_pos wu]
             exact ⟨_, _, rfl, rfl, by rw [hq]; exact hR.bq r25.2 r25.1⟩)
      · have ws : ¬ w s = 0 := bI_eq0.mp h4
        refine x_aload_n hm rfl rfl ?_
        refine x_getf hm rfl (gR rfl rfl) ?_
        refine x_iload_n hm rfl rfl ?_
        refine x_aald hm rfl (by first | exact lQ 2 (Or.inl rfl) rfl (shk hs) (by omega) (by decide) | exact lQ 2 (Or.inl rfl) rfl (shk hu) (by omega) (by decide) | exact lQ 3 (Or.inr (Or.inl rfl)) rfl rfl (by omega) (by decide)) ?_
        refine x_callV hm rfl (by first | exact mCallSh hs (by decide) rfl rfl rfl rfl rfl | exact mCallSh hu (by decide) rfl rfl rfl rfl rfl) (by first | exact t79 hs | exact t79 hu) ?_
        rw [hRu.1]
        refine x_if_eq hm rfl (t := 52) rfl (fun h6 => ?_) (fun h6 => ?_)
        · have wu : ¬ w u = 0 := bI_eq0.mp h6
          refine x_aload_n hm rfl rfl ?_
          refine x_getf hm rfl (gR rfl rfl) ?_
          refine x_iload_n hm rfl rfl ?_
          refine x_aald hm rfl (by first | exact lQ 2 (Or.inl rfl) rfl (shk hs) (by omega) (by decide) | exact lQ 2 (Or.inl rfl) rfl (shk hu) (by omega) (by decide) | exact lQ 3 (Or.inr (Or.inl rfl)) rfl rfl (by omega) (by decide)) ?_
          refine x_getf hm rfl (by first | exact gI (sO hs) rfl | exact gI (sO hu) rfl) ?_
          rw [hRs.1]
          refine x_aload_n hm rfl rfl ?_
          refine x_getf hm rfl (gR rfl rfl) ?_
          refine x_iload_n hm rfl rfl ?_
          refine x_aald hm rfl (by first | exact lQ 2 (Or.inl rfl) rfl (shk hs) (by omega) (by decide) | exact lQ 2 (Or.inl rfl) rfl (shk hu) (by omega) (by decide) | exact lQ 3 (Or.inr (Or.inl rfl)) rfl rfl (by omega) (by decide)) ?_
          refine x_getf hm rfl (by first | exact gI (sO hs) rfl | exact gI (sO hu) rfl) ?_
          rw [hRu.1]
          refine x_icmp_eq hm rfl (t := 80) rfl (fun h7 => ?_) (fun h7 => ?_)
          · have we : w s = w u := h7
            refine x_aload_n hm rfl rfl ?_
            refine x_getf hm rfl (gR rfl rfl) ?_
            refine x_iload_n hm rfl rfl ?_
            refine x_aald hm rfl (by first | exact lQ 2 (Or.inl rfl) rfl (shk hs) (by omega) (by decide) | exact lQ 2 (Or.inl rfl) rfl (shk hu) (by omega) (by decide) | exact lQ 3 (Or.inr (Or.inl rfl)) rfl rfl (by omega) (by decide)) ?_
            refine x_iload_n hm rfl rfl ?_
            refine x_iload hm rfl rfl ?_
            refine x_callV hm rfl (by first | exact mCallSh hs (by decide) rfl rfl rfl rfl rfl | exact mCallSh hu (by decide) rfl rfl rfl rfl rfl) (g121 hs (hRs.2.1.trans hzs)) ?_
            refine x_if_eq hm rfl (t := 111) rfl (fun h8 => ?_) (fun h8 => ?_)
            · have hbad : ¬ (hsP (z s) a2 a5 ∧ hsP (z u) a4 a5) := fun q => bI_eq0.mp h8 (by rw [← hzs]; exact q.1)
              refine x_aload_n hm rfl rfl ?_
              refine x_ldcI hm rfl (v := (-1000001 : Int32)) (by decide +kernel) ?_
              refine x_cVi hm rfl rfl (t7 (by decide +kernel)) (fun v9 M9 r9 => ?_)
              refine x_iret hm rfl rfl (by first | rfl | exact bI_nar | decide) ?_
              first
                | (have hq : fCopy w z y (nI s) a2 (nI u) a4 a5 = (-1000001, w, z, y) := by
                     unfold fCopy
                     rw [if_neg h1, if_neg hh3, jI_nat (by omega), jI_nat (by omega), if_neg ws, if_neg wu, if_neg (not_not_intro we), if_pos hbad]
                   exact ⟨_, _, rfl, rfl, by rw [hq]; exact hR.bq r9.2 r9.1⟩)
                | (have hq : fCopy w z y (nI s) a2 (nI u) a4 a5 = (-1000001, w, z, y) := by
                     unfold fCopy
                     rw [if_neg h1, if_neg hh3, jI_nat (by omega), jI_nat (by omega), if_neg ws, if_neg wu, if_neg (not_not_intro we), if_pos hbad]
                   exact ⟨_, _, rfl, rfl, by rw [hq]; exact hR.bq r1.2 r1.1⟩)
                | (have hq : fCopy w z y (nI s) a2 (nI u) a4 a5 = (-1000001, w, z, y) := by
                     unfold fCopy
                     rw [if_neg h1, if_neg hh3, jI_nat (by omega), jI_nat (by omega), if_neg ws, if_neg wu, if_neg (not_not_intro we), if_pos hbad]
                   exact ⟨_, _, rfl, rfl, by rw [hq]; exact hR.bq r2.2 r2.1⟩)
                | (have hq : fCopy w z y (nI s) a2 (nI u) a4 a5 = (-1000001, w, z, y) := by
                     unfold fCopy
                     rw [if_neg h1, if_neg hh3, jI_nat (by omega), jI_nat (by omega), if_neg ws, if_neg wu, if_neg (not_not_intro we), if_pos hbad]
                   exact ⟨_, _, rfl, rfl, by rw [hq]; exact hR.bq r3.2 r3.1⟩)
                | (have hq : fCopy w z y (nI s) a2 (nI u) a4 a5 = (-1000001, w, z, y) := by
                     unfold fCopy
                     rw [if_neg h1, if_neg hh3, jI_nat (by omega), jI_nat (by omega), if_neg ws, if_neg wu, if_neg (not_not_intro we), if_pos hbad]
                   exact ⟨_, _, rfl, rfl, by rw [hq]; exact hR.bq r4.2 r4.1⟩)
                | (have hq : fCopy w z y (nI s) a2 (nI u) a4 a5 = (-1000001, w, z, y) := by
                     unfold fCopy
                     rw [if_neg h1, if_neg hh3, jI_nat (by omega), jI_nat (by omega), if_neg ws, if_neg wu, if_neg (not_not_intro we), if_pos hbad]
                   exact ⟨_, _, rfl, rfl, by rw [hq]; exact hR.bq r5.2 r5.1⟩)
                | (have hq : fCopy w z y (nI s) a2 (nI u) a4 a5 = (-1000001, w, z, y) := by
                     unfold fCopy
                     rw [if_neg h1, if_neg hh3, jI_nat (by omega), jI_nat (by omega), if_neg ws, if_neg wu, if_neg (not_not_intro we), if_pos hbad]
                   exact ⟨_, _, rfl, rfl, by rw [hq]; exact hR.bq r6.2 r6.1⟩)
                | (have hq : fCopy w z y (nI s) a2 (nI u) a4 a5 = (-1000001, w, z, y) := by
                     unfold fCopy
                     rw [if_neg h1, if_neg hh3, jI_nat (by omega), jI_nat (by omega), if_neg ws, if_neg wu, if_neg (not_not_intro we), if_pos hbad]
                   exact ⟨_, _, rfl, rfl, by rw [hq]; exact hR.bq r7.2 r7.1⟩)
                | (have hq : fCopy w z y (nI s) a2 (nI u) a4 a5 = (-1000001, w, z, y) := by
                     unfold fCopy
                     rw [if_neg h1, if_neg hh3, jI_nat (by omega), jI_nat (by omega), if_neg ws, if_neg wu, if_neg (not_not_intro we), if_pos hbad]
                   exact ⟨_, _, rfl, rfl, by rw [hq]; exact hR.bq r8.2 r8.1⟩)
                | (have hq : fCopy w z y (nI s) a2 (nI u) a4 a5 = (-1000001, w, z, y) := by
                     unfold fCopy
                     rw [if_neg h1, if_neg hh3, jI_nat (by omega), jI_nat (by omega), if_neg ws, if_neg wu, if_neg (not_not_intro we), if_pos hbad]
                   exact ⟨_, _, rfl, rfl, by rw [hq]; exact hR.bq r10.2 r10.1⟩)
                | (have hq : fCopy w z y (nI s) a2 (nI u) a4 a5 = (-1000001, w, z, y) := by
                     unfold fCopy
                     rw [if_neg h1, if_neg hh3, jI_nat (by omega), jI_nat (by omega), if_neg ws, if_neg wu, if_neg (not_not_intro we), if_pos hbad]
                   exact ⟨_, _, rfl, rfl, by rw [hq]; exact hR.bq r11.2 r11.1⟩)
                | (have hq : fCopy w z y (nI s) a2 (nI u) a4 a5 = (-1000001, w, z, y) := by
                     unfold fCopy
                     rw [if_neg h1, if_neg hh3, jI_nat (by omega), jI_nat (by omega), if_neg ws, if_neg wu, if_neg (not_not_intro we), if_pos hbad]
                   exact ⟨_, _, rfl, rfl, by rw [hq]; exact hR.bq r12.2 r12.1⟩)
                | (have hq : fCopy w z y (nI s) a2 (nI u) a4 a5 = (-1000001, w, z, y) := by
                     unfold fCopy
                     rw [if_neg h1, if_neg hh3, jI_nat (by omega), jI_nat (by omega), if_neg ws, if_neg wu, if_neg (not_not_intro we), if_pos hbad]
                   exact ⟨_, _, rfl, rfl, by rw [hq]; exact hR.bq r13.2 r13.1⟩)
                | (have hq : fCopy w z y (nI s) a2 (nI u) a4 a5 = (-1000001, w, z, y) := by
                     unfold fCopy
                     rw [if_neg h1, if_neg hh3, jI_nat (by omega), jI_nat (by omega), if_neg ws, if_neg wu, if_neg (not_not_intro we), if_pos hbad]
                   exact ⟨_, _, rfl, rfl, by rw [hq]; exact hR.bq r14.2 r14.1⟩)
                | (have hq : fCopy w z y (nI s) a2 (nI u) a4 a5 = (-1000001, w, z, y) := by
                     unfold fCopy
                     rw [if_neg h1, if_neg hh3, jI_nat (by omega), jI_nat (by omega), if_neg ws, if_neg wu, if_neg (not_not_intro we), if_pos hbad]
                   exact ⟨_, _, rfl, rfl, by rw [hq]; exact hR.bq r15.2 r15.1⟩)
                | (have hq : fCopy w z y (nI s) a2 (nI u) a4 a5 = (-1000001, w, z, y) := by
                     unfold fCopy
                     rw [if_neg h1, if_neg hh3, jI_nat (by omega), jI_nat (by omega), if_neg ws, if_neg wu, if_neg (not_not_intro we), if_pos hbad]
                   exact ⟨_, _, rfl, rfl, by rw [hq]; exact hR.bq r16.2 r16.1⟩)
                | (have hq : fCopy w z y (nI s) a2 (nI u) a4 a5 = (-1000001, w, z, y) := by
                     unfold fCopy
                     rw [if_neg h1, if_neg hh3, jI_nat (by omega), jI_nat (by omega), if_neg ws, if_neg wu, if_neg (not_not_intro we), if_pos hbad]
                   exact ⟨_, _, rfl, rfl, by rw [hq]; exact hR.bq r17.2 r17.1⟩)
                | (have hq : fCopy w z y (nI s) a2 (nI u) a4 a5 = (-1000001, w, z, y) := by
                     unfold fCopy
                     rw [if_neg h1, if_neg hh3, jI_nat (by omega), jI_nat (by omega), if_neg ws, if_neg wu, if_neg (not_not_intro we), if_pos hbad]
                   exact ⟨_, _, rfl, rfl, by rw [hq]; exact hR.bq r18.2 r18.1⟩)
                | (have hq : fCopy w z y (nI s) a2 (nI u) a4 a5 = (-1000001, w, z, y) := by
                     unfold fCopy
                     rw [if_neg h1, if_neg hh3, jI_nat (by omega), jI_nat (by omega), if_neg ws, if_neg wu, if_neg (not_not_intro we), if_pos hbad]
                   exact ⟨_, _, rfl, rfl, by rw [hq]; exact hR.bq r19.2 r19.1⟩)
                | (have hq : fCopy w z y (nI s) a2 (nI u) a4 a5 = (-1000001, w, z, y) := by
                     unfold fCopy
                     rw [if_neg h1, if_neg hh3, jI_nat (by omega), jI_nat (by omega), if_neg ws, if_neg wu, if_neg (not_not_intro we), if_pos hbad]
                   exact ⟨_, _, rfl, rfl, by rw [hq]; exact hR.bq r20.2 r20.1⟩)
                | (have hq : fCopy w z y (nI s) a2 (nI u) a4 a5 = (-1000001, w, z, y) := by
                     unfold fCopy
                     rw [if_neg h1, if_neg hh3, jI_nat (by omega), jI_nat (by omega), if_neg ws, if_neg wu, if_neg (not_not_intro we), if_pos hbad]
                   exact ⟨_, _, rfl, rfl, by rw [hq]; exact hR.bq r21.2 r21.1⟩)
                | (have hq : fCopy w z y (nI s) a2 (nI u) a4 a5 = (-1000001, w, z, y) := by
                     unfold fCopy
                     rw [if_neg h1, if_neg hh3, jI_nat (by omega), jI_nat (by omega), if_neg ws, if_neg wu, if_neg (not_not_intro we), if_pos hbad]
                   exact ⟨_, _, rfl, rfl, by rw [hq]; exact hR.bq r22.2 r22.1⟩)
                | (have hq : fCopy w z y (nI s) a2 (nI u) a4 a5 = (-1000001, w, z, y) := by
                     unfold fCopy
                     rw [if_neg h1, if_neg hh3, jI_nat (by omega), jI_nat (by omega), if_neg ws, if_neg wu, if_neg (not_not_intro we), if_pos hbad]
                   exact ⟨_, _, rfl, rfl, by rw [hq]; exact hR.bq r23.2 r23.1⟩)
                | (have hq : fCopy w z y (nI s) a2 (nI u) a4 a5 = (-1000001, w, z, y) := by
                     unfold fCopy
                     rw [if_neg h1, if_neg hh3, jI_nat (by omega), jI_nat (by omega), if_neg ws, if_neg wu, if_neg (not_not_intro we), if_pos hbad]
                   exact ⟨_, _, rfl, rfl, by rw [hq]; exact hR.bq r24.2 r24.1⟩)
                | (have hq : fCopy w z y (nI s) a2 (nI u) a4 a5 = (-1000001, w, z, y) := by
                     unfold fCopy
                     rw [if_neg h1, if_neg hh3, jI_nat (by omega), jI_nat (by omega), if_neg ws, if_neg wu, if_neg (not_not_intro we), if_pos hbad]
                   exact ⟨_, _, rfl, rfl, by rw [hq]; exact hR.bq r25.2 r25.1⟩)
            · have hp1 := bI_ne0 h8
              refine x_aload_n hm rfl rfl ?_
              refine x_getf hm rfl (gR rfl rfl) ?_
              refine x_iload_n hm rfl rfl ?_
              refine x_aald hm rfl (by first | exact lQ 2 (Or.inl rfl) rfl (shk hs) (by omega) (by decide) | exact lQ 2 (Or.inl rfl) rfl (shk hu) (by omega) (by decide) | exact lQ 3 (Or.inr (Or.inl rfl)) rfl rfl (by omega) (by decide)) ?_
              refine x_iload hm rfl rfl ?_
              refine x_iload hm rfl rfl ?_
              refine x_callV hm rfl (by first | exact mCallSh hs (by decide) rfl rfl rfl rfl rfl | exact mCallSh hu (by decide) rfl rfl rfl rfl rfl) (g121 hu (hRu.2.1.trans hzu)) ?_
              refine x_if_ne hm rfl (t := 118) rfl (fun h10 => ?_) (fun h10 => ?_)
              · have hp2 := bI_ne0 h10
                obtain ⟨i, c, hi, hc, rfl, rfl, hic⟩ := hsP_k hls hp1
                obtain ⟨j, c2, hj, hc2, rfl, e2, hjc⟩ := hsP_k hlu hp2
                obtain rfl := jI_inj hc hc2 e2
                refine x_aload_n hm rfl rfl ?_
                refine x_getf hm rfl (gR rfl rfl) ?_
                refine x_iload_n hm rfl rfl ?_
                refine x_aald hm rfl (by first | exact lQ 2 (Or.inl rfl) rfl (shk hs) (by omega) (by decide) | exact lQ 2 (Or.inl rfl) rfl (shk hu) (by omega) (by decide) | exact lQ 3 (Or.inr (Or.inl rfl)) rfl rfl (by omega) (by decide)) ?_
                refine x_getf hm rfl (by first | exact gR (sO hs) rfl | exact gR (sO hu) rfl) ?_
                refine x_iload_n hm rfl rfl ?_
                refine x_aload_n hm rfl rfl ?_
                refine x_getf hm rfl (gR rfl rfl) ?_
                refine x_iload_n hm rfl rfl ?_
                refine x_aald hm rfl (by first | exact lQ 2 (Or.inl rfl) rfl (shk hs) (by omega) (by decide) | exact lQ 2 (Or.inl rfl) rfl (shk hu) (by omega) (by decide) | exact lQ 3 (Or.inr (Or.inl rfl)) rfl rfl (by omega) (by decide)) ?_
                refine x_getf hm rfl (by first | exact gR (sO hs) rfl | exact gR (sO hu) rfl) ?_
                refine x_iload hm rfl rfl ?_
                refine x_iload hm rfl rfl ?_
                refine x_lib hm rfl (acp_call (sRow hs) (sRow hu) (by omega) (by omega) ⟨by decide, by decide⟩ rfl) ?_
                dsimp only
                refine x_iload hm rfl rfl ?_
                refine x_iret hm rfl rfl (by first | rfl | exact bI_nar | decide) ?_
                have hq : fCopy w z y (nI s) (nI i) (nI u) (nI j) (nI c) = (nI c, w, z, mvY y s i u j c) := by
                  unfold fCopy
                  rw [if_neg h1, if_neg hh3, jI_nat (by omega), jI_nat (by omega), if_neg ws, if_neg wu, if_neg (not_not_intro we), if_neg (not_not_intro (And.intro (by rw [hzs]; exact hp1) (by rw [hzu]; exact hp2))), jI_nat (by omega), jI_nat (by omega), jI_nat (by omega)]
                exact ⟨_, _, rfl, rfl, by rw [hq]; exact ⟨rfl, hR.mv hs hu (by omega) (by omega), fun a ha => acp_o (by omega)⟩⟩
              · have hbad : ¬ (hsP (z s) a2 a5 ∧ hsP (z u) a4 a5) := fun q => bI_eq0.mp h10 (by rw [← hzu]; exact q.2)
                refine x_aload_n hm rfl rfl ?_
                refine x_ldcI hm rfl (v := (-1000001 : Int32)) (by decide +kernel) ?_
                refine x_cVi hm rfl rfl (t7 (by decide +kernel)) (fun v11 M11 r11 => ?_)
                refine x_iret hm rfl rfl (by first | rfl | exact bI_nar | decide) ?_
                first
                  | (have hq : fCopy w z y (nI s) a2 (nI u) a4 a5 = (-1000001, w, z, y) := by
                       unfold fCopy
                       rw [if_neg h1, if_neg hh3, jI_nat (by omega), jI_nat (by omega), if_neg ws, if_neg wu, if_neg (not_not_intro we), if_pos hbad]
                     exact ⟨_, _, rfl, rfl, by rw [hq]; exact hR.bq r11.2 r11.1⟩)
                  | (have hq : fCopy w z y (nI s) a2 (nI u) a4 a5 = (-1000001, w, z, y) := by
                       unfold fCopy
                       rw [if_neg h1, if_neg hh3, jI_nat (by omega), jI_nat (by omega), if_neg ws, if_neg wu, if_neg (not_not_intro we), if_pos hbad]
                     exact ⟨_, _, rfl, rfl, by rw [hq]; exact hR.bq r1.2 r1.1⟩)
                  | (have hq : fCopy w z y (nI s) a2 (nI u) a4 a5 = (-1000001, w, z, y) := by
                       unfold fCopy
                       rw [if_neg h1, if_neg hh3, jI_nat (by omega), jI_nat (by omega), if_neg ws, if_neg wu, if_neg (not_not_intro we), if_pos hbad]
                     exact ⟨_, _, rfl, rfl, by rw [hq]; exact hR.bq r2.2 r2.1⟩)
                  | (have hq : fCopy w z y (nI s) a2 (nI u) a4 a5 = (-1000001, w, z, y) := by
                       unfold fCopy
                       rw [if_neg h1, if_neg hh3, jI_nat (by omega), jI_nat (by omega), if_neg ws, if_neg wu, if_neg (not_not_intro we), if_pos hbad]
                     exact ⟨_, _, rfl, rfl, by rw [hq]; exact hR.bq r3.2 r3.1⟩)
                  | (have hq : fCopy w z y (nI s) a2 (nI u) a4 a5 = (-1000001, w, z, y) := by
                       unfold fCopy
                       rw [if_neg h1, if_neg hh3, jI_nat (by omega), jI_nat (by omega), if_neg ws, if_neg wu, if_neg (not_not_intro we), if_pos hbad]
                     exact ⟨_, _, rfl, rfl, by rw [hq]; exact hR.bq r4.2 r4.1⟩)
                  | (have hq : fCopy w z y (nI s) a2 (nI u) a4 a5 = (-1000001, w, z, y) := by
                       unfold fCopy
                       rw [if_neg h1, if_neg hh3, jI_nat (by omega), jI_nat (by omega), if_neg ws, if_neg wu, if_neg (not_not_intro we), if_pos hbad]
                     exact ⟨_, _, rfl, rfl, by rw [hq]; exact hR.bq r5.2 r5.1⟩)
                  | (have hq : fCopy w z y (nI s) a2 (nI u) a4 a5 = (-1000001, w, z, y) := by
                       unfold fCopy
                       rw [if_neg h1, if_neg hh3, jI_nat (by omega), jI_nat (by omega), if_neg ws, if_neg wu, if_neg (not_not_intro we), if_pos hbad]
                     exact ⟨_, _, rfl, rfl, by rw [hq]; exact hR.bq r6.2 r6.1⟩)
                  | (have hq : fCopy w z y (nI s) a2 (nI u) a4 a5 = (-1000001, w, z, y) := by
                       unfold fCopy
                       rw [if_neg h1, if_neg hh3, jI_nat (by omega), jI_nat (by omega), if_neg ws, if_neg wu, if_neg (not_not_intro we), if_pos hbad]
                     exact ⟨_, _, rfl, rfl, by rw [hq]; exact hR.bq r7.2 r7.1⟩)
                  | (have hq : fCopy w z y (nI s) a2 (nI u) a4 a5 = (-1000001, w, z, y) := by
                       unfold fCopy
                       rw [if_neg h1, if_neg hh3, jI_nat (by omega), jI_nat (by omega), if_neg ws, if_neg wu, if_neg (not_not_intro we), if_pos hbad]
                     exact ⟨_, _, rfl, rfl, by rw [hq]; exact hR.bq r8.2 r8.1⟩)
                  | (have hq : fCopy w z y (nI s) a2 (nI u) a4 a5 = (-1000001, w, z, y) := by
                       unfold fCopy
                       rw [if_neg h1, if_neg hh3, jI_nat (by omega), jI_nat (by omega), if_neg ws, if_neg wu, if_neg (not_not_intro we), if_pos hbad]
                     exact ⟨_, _, rfl, rfl, by rw [hq]; exact hR.bq r9.2 r9.1⟩)
                  | (have hq : fCopy w z y (nI s) a2 (nI u) a4 a5 = (-1000001, w, z, y) := by
                       unfold fCopy
                       rw [if_neg h1, if_neg hh3, jI_nat (by omega), jI_nat (by omega), if_neg ws, if_neg wu, if_neg (not_not_intro we), if_pos hbad]
                     exact ⟨_, _, rfl, rfl, by rw [hq]; exact hR.bq r10.2 r10.1⟩)
                  | (have hq : fCopy w z y (nI s) a2 (nI u) a4 a5 = (-1000001, w, z, y) := by
                       unfold fCopy
                       rw [if_neg h1, if_neg hh3, jI_nat (by omega), jI_nat (by omega), if_neg ws, if_neg wu, if_neg (not_not_intro we), if_pos hbad]
                     exact ⟨_, _, rfl, rfl, by rw [hq]; exact hR.bq r12.2 r12.1⟩)
                  | (have hq : fCopy w z y (nI s) a2 (nI u) a4 a5 = (-1000001, w, z, y) := by
                       unfold fCopy
                       rw [if_neg h1, if_neg hh3, jI_nat (by omega), jI_nat (by omega), if_neg ws, if_neg wu, if_neg (not_not_intro we), if_pos hbad]
                     exact ⟨_, _, rfl, rfl, by rw [hq]; exact hR.bq r13.2 r13.1⟩)
                  | (have hq : fCopy w z y (nI s) a2 (nI u) a4 a5 = (-1000001, w, z, y) := by
                       unfold fCopy
                       rw [if_neg h1, if_neg hh3, jI_nat (by omega), jI_nat (by omega), if_neg ws, if_neg wu, if_neg (not_not_intro we), if_pos hbad]
                     exact ⟨_, _, rfl, rfl, by rw [hq]; exact hR.bq r14.2 r14.1⟩)
                  | (have hq : fCopy w z y (nI s) a2 (nI u) a4 a5 = (-1000001, w, z, y) := by
                       unfold fCopy
                       rw [if_neg h1, if_neg hh3, jI_nat (by omega), jI_nat (by omega), if_neg ws, if_neg wu, if_neg (not_not_intro we), if_pos hbad]
                     exact ⟨_, _, rfl, rfl, by rw [hq]; exact hR.bq r15.2 r15.1⟩)
                  | (have hq : fCopy w z y (nI s) a2 (nI u) a4 a5 = (-1000001, w, z, y) := by
                       unfold fCopy
                       rw [if_neg h1, if_neg hh3, jI_nat (by omega), jI_nat (by omega), if_neg ws, if_neg wu, if_neg (not_not_intro we), if_pos hbad]
                     exact ⟨_, _, rfl, rfl, by rw [hq]; exact hR.bq r16.2 r16.1⟩)
                  | (have hq : fCopy w z y (nI s) a2 (nI u) a4 a5 = (-1000001, w, z, y) := by
                       unfold fCopy
                       rw [if_neg h1, if_neg hh3, jI_nat (by omega), jI_nat (by omega), if_neg ws, if_neg wu, if_neg (not_not_intro we), if_pos hbad]
                     exact ⟨_, _, rfl, rfl, by rw [hq]; exact hR.bq r17.2 r17.1⟩)
                  | (have hq : fCopy w z y (nI s) a2 (nI u) a4 a5 = (-1000001, w, z, y) := by
                       unfold fCopy
                       rw [if_neg h1, if_neg hh3, jI_nat (by omega), jI_nat (by omega), if_neg ws, if_neg wu, if_neg (not_not_intro we), if_pos hbad]
                     exact ⟨_, _, rfl, rfl, by rw [hq]; exact hR.bq r18.2 r18.1⟩)
                  | (have hq : fCopy w z y (nI s) a2 (nI u) a4 a5 = (-1000001, w, z, y) := by
                       unfold fCopy
                       rw [if_neg h1, if_neg hh3, jI_nat (by omega), jI_nat (by omega), if_neg ws, if_neg wu, if_neg (not_not_intro we), if_pos hbad]
                     exact ⟨_, _, rfl, rfl, by rw [hq]; exact hR.bq r19.2 r19.1⟩)
                  | (have hq : fCopy w z y (nI s) a2 (nI u) a4 a5 = (-1000001, w, z, y) := by
                       unfold fCopy
                       rw [if_neg h1, if_neg hh3, jI_nat (by omega), jI_nat (by omega), if_neg ws, if_neg wu, if_neg (not_not_intro we), if_pos hbad]
                     exact ⟨_, _, rfl, rfl, by rw [hq]; exact hR.bq r20.2 r20.1⟩)
                  | (have hq : fCopy w z y (nI s) a2 (nI u) a4 a5 = (-1000001, w, z, y) := by
                       unfold fCopy
                       rw [if_neg h1, if_neg hh3, jI_nat (by omega), jI_nat (by omega), if_neg ws, if_neg wu, if_neg (not_not_intro we), if_pos hbad]
                     exact ⟨_, _, rfl, rfl, by rw [hq]; exact hR.bq r21.2 r21.1⟩)
                  | (have hq : fCopy w z y (nI s) a2 (nI u) a4 a5 = (-1000001, w, z, y) := by
                       unfold fCopy
                       rw [if_neg h1, if_neg hh3, jI_nat (by omega), jI_nat (by omega), if_neg ws, if_neg wu, if_neg (not_not_intro we), if_pos hbad]
                     exact ⟨_, _, rfl, rfl, by rw [hq]; exact hR.bq r22.2 r22.1⟩)
                  | (have hq : fCopy w z y (nI s) a2 (nI u) a4 a5 = (-1000001, w, z, y) := by
                       unfold fCopy
                       rw [if_neg h1, if_neg hh3, jI_nat (by omega), jI_nat (by omega), if_neg ws, if_neg wu, if_neg (not_not_intro we), if_pos hbad]
                     exact ⟨_, _, rfl, rfl, by rw [hq]; exact hR.bq r23.2 r23.1⟩)
                  | (have hq : fCopy w z y (nI s) a2 (nI u) a4 a5 = (-1000001, w, z, y) := by
                       unfold fCopy
                       rw [if_neg h1, if_neg hh3, jI_nat (by omega), jI_nat (by omega), if_neg ws, if_neg wu, if_neg (not_not_intro we), if_pos hbad]
                     exact ⟨_, _, rfl, rfl, by rw [hq]; exact hR.bq r24.2 r24.1⟩)
                  | (have hq : fCopy w z y (nI s) a2 (nI u) a4 a5 = (-1000001, w, z, y) := by
                       unfold fCopy
                       rw [if_neg h1, if_neg hh3, jI_nat (by omega), jI_nat (by omega), if_neg ws, if_neg wu, if_neg (not_not_intro we), if_pos hbad]
                     exact ⟨_, _, rfl, rfl, by rw [hq]; exact hR.bq r25.2 r25.1⟩)
          · have we : ¬ w s = w u := h7
            refine x_aload_n hm rfl rfl ?_
            refine x_ldcI hm rfl (v := (-1000003 : Int32)) (by decide +kernel) ?_
            refine x_cVi hm rfl rfl (t7 (by decide +kernel)) (fun v12 M12 r12 => ?_)
            refine x_iret hm rfl rfl (by first | rfl | exact bI_nar | decide) ?_
            first
              | (have hq : fCopy w z y (nI s) a2 (nI u) a4 a5 = (-1000003, w, z, y) := by
                   unfold fCopy
                   rw [if_neg h1, if_neg hh3, jI_nat (by omega), jI_nat (by omega), if_neg ws, if_neg wu, if_pos we]
                 exact ⟨_, _, rfl, rfl, by rw [hq]; exact hR.bq r12.2 r12.1⟩)
              | (have hq : fCopy w z y (nI s) a2 (nI u) a4 a5 = (-1000003, w, z, y) := by
                   unfold fCopy
                   rw [if_neg h1, if_neg hh3, jI_nat (by omega), jI_nat (by omega), if_neg ws, if_neg wu, if_pos we]
                 exact ⟨_, _, rfl, rfl, by rw [hq]; exact hR.bq r1.2 r1.1⟩)
              | (have hq : fCopy w z y (nI s) a2 (nI u) a4 a5 = (-1000003, w, z, y) := by
                   unfold fCopy
                   rw [if_neg h1, if_neg hh3, jI_nat (by omega), jI_nat (by omega), if_neg ws, if_neg wu, if_pos we]
                 exact ⟨_, _, rfl, rfl, by rw [hq]; exact hR.bq r2.2 r2.1⟩)
              | (have hq : fCopy w z y (nI s) a2 (nI u) a4 a5 = (-1000003, w, z, y) := by
                   unfold fCopy
                   rw [if_neg h1, if_neg hh3, jI_nat (by omega), jI_nat (by omega), if_neg ws, if_neg wu, if_pos we]
                 exact ⟨_, _, rfl, rfl, by rw [hq]; exact hR.bq r3.2 r3.1⟩)
              | (have hq : fCopy w z y (nI s) a2 (nI u) a4 a5 = (-1000003, w, z, y) := by
                   unfold fCopy
                   rw [if_neg h1, if_neg hh3, jI_nat (by omega), jI_nat (by omega), if_neg ws, if_neg wu, if_pos we]
                 exact ⟨_, _, rfl, rfl, by rw [hq]; exact hR.bq r4.2 r4.1⟩)
              | (have hq : fCopy w z y (nI s) a2 (nI u) a4 a5 = (-1000003, w, z, y) := by
                   unfold fCopy
                   rw [if_neg h1, if_neg hh3, jI_nat (by omega), jI_nat (by omega), if_neg ws, if_neg wu, if_pos we]
                 exact ⟨_, _, rfl, rfl, by rw [hq]; exact hR.bq r5.2 r5.1⟩)
              | (have hq : fCopy w z y (nI s) a2 (nI u) a4 a5 = (-1000003, w, z, y) := by
                   unfold fCopy
                   rw [if_neg h1, if_neg hh3, jI_nat (by omega), jI_nat (by omega), if_neg ws, if_neg wu, if_pos we]
                 exact ⟨_, _, rfl, rfl, by rw [hq]; exact hR.bq r6.2 r6.1⟩)
              | (have hq : fCopy w z y (nI s) a2 (nI u) a4 a5 = (-1000003, w, z, y) := by
                   unfold fCopy
                   rw [if_neg h1, if_neg hh3, jI_nat (by omega), jI_nat (by omega), if_neg ws, if_neg wu, if_pos we]
                 exact ⟨_, _, rfl, rfl, by rw [hq]; exact hR.bq r7.2 r7.1⟩)
              | (have hq : fCopy w z y (nI s) a2 (nI u) a4 a5 = (-1000003, w, z, y) := by
                   unfold fCopy
                   rw [if_neg h1, if_neg hh3, jI_nat (by omega), jI_nat (by omega), if_neg ws, if_neg wu, if_pos we]
                 exact ⟨_, _, rfl, rfl, by rw [hq]; exact hR.bq r8.2 r8.1⟩)
              | (have hq : fCopy w z y (nI s) a2 (nI u) a4 a5 = (-1000003, w, z, y) := by
                   unfold fCopy
                   rw [if_neg h1, if_neg hh3, jI_nat (by omega), jI_nat (by omega), if_neg ws, if_neg wu, if_pos we]
                 exact ⟨_, _, rfl, rfl, by rw [hq]; exact hR.bq r9.2 r9.1⟩)
              | (have hq : fCopy w z y (nI s) a2 (nI u) a4 a5 = (-1000003, w, z, y) := by
                   unfold fCopy
                   rw [if_neg h1, if_neg hh3, jI_nat (by omega), jI_nat (by omega), if_neg ws, if_neg wu, if_pos we]
                 exact ⟨_, _, rfl, rfl, by rw [hq]; exact hR.bq r10.2 r10.1⟩)
              | (have hq : fCopy w z y (nI s) a2 (nI u) a4 a5 = (-1000003, w, z, y) := by
                   unfold fCopy
                   rw [if_neg h1, if_neg hh3, jI_nat (by omega), jI_nat (by omega), if_neg ws, if_neg wu, if_pos we]
                 exact ⟨_, _, rfl, rfl, by rw [hq]; exact hR.bq r11.2 r11.1⟩)
              | (have hq : fCopy w z y (nI s) a2 (nI u) a4 a5 = (-1000003, w, z, y) := by
                   unfold fCopy
                   rw [if_neg h1, if_neg hh3, jI_nat (by omega), jI_nat (by omega), if_neg ws, if_neg wu, if_pos we]
                 exact ⟨_, _, rfl, rfl, by rw [hq]; exact hR.bq r13.2 r13.1⟩)
              | (have hq : fCopy w z y (nI s) a2 (nI u) a4 a5 = (-1000003, w, z, y) := by
                   unfold fCopy
                   rw [if_neg h1, if_neg hh3, jI_nat (by omega), jI_nat (by omega), if_neg ws, if_neg wu, if_pos we]
                 exact ⟨_, _, rfl, rfl, by rw [hq]; exact hR.bq r14.2 r14.1⟩)
              | (have hq : fCopy w z y (nI s) a2 (nI u) a4 a5 = (-1000003, w, z, y) := by
                   unfold fCopy
                   rw [if_neg h1, if_neg hh3, jI_nat (by omega), jI_nat (by omega), if_neg ws, if_neg wu, if_pos we]
                 exact ⟨_, _, rfl, rfl, by rw [hq]; exact hR.bq r15.2 r15.1⟩)
              | (have hq : fCopy w z y (nI s) a2 (nI u) a4 a5 = (-1000003, w, z, y) := by
                   unfold fCopy
                   rw [if_neg h1, if_neg hh3, jI_nat (by omega), jI_nat (by omega), if_neg ws, if_neg wu, if_pos we]
                 exact ⟨_, _, rfl, rfl, by rw [hq]; exact hR.bq r16.2 r16.1⟩)
              | (have hq : fCopy w z y (nI s) a2 (nI u) a4 a5 = (-1000003, w, z, y) := by
                   unfold fCopy
                   rw [if_neg h1, if_neg hh3, jI_nat (by omega), jI_nat (by omega), if_neg ws, if_neg wu, if_pos we]
                 exact ⟨_, _, rfl, rfl, by rw [hq]; exact hR.bq r17.2 r17.1⟩)
              | (have hq : fCopy w z y (nI s) a2 (nI u) a4 a5 = (-1000003, w, z, y) := by
                   unfold fCopy
                   rw [if_neg h1, if_neg hh3, jI_nat (by omega), jI_nat (by omega), if_neg ws, if_neg wu, if_pos we]
                 exact ⟨_, _, rfl, rfl, by rw [hq]; exact hR.bq r18.2 r18.1⟩)
              | (have hq : fCopy w z y (nI s) a2 (nI u) a4 a5 = (-1000003, w, z, y) := by
                   unfold fCopy
                   rw [if_neg h1, if_neg hh3, jI_nat (by omega), jI_nat (by omega), if_neg ws, if_neg wu, if_pos we]
                 exact ⟨_, _, rfl, rfl, by rw [hq]; exact hR.bq r19.2 r19.1⟩)
              | (have hq : fCopy w z y (nI s) a2 (nI u) a4 a5 = (-1000003, w, z, y) := by
                   unfold fCopy
                   rw [if_neg h1, if_neg hh3, jI_nat (by omega), jI_nat (by omega), if_neg ws, if_neg wu, if_pos we]
                 exact ⟨_, _, rfl, rfl, by rw [hq]; exact hR.bq r20.2 r20.1⟩)
              | (have hq : fCopy w z y (nI s) a2 (nI u) a4 a5 = (-1000003, w, z, y) := by
                   unfold fCopy
                   rw [if_neg h1, if_neg hh3, jI_nat (by omega), jI_nat (by omega), if_neg ws, if_neg wu, if_pos we]
                 exact ⟨_, _, rfl, rfl, by rw [hq]; exact hR.bq r21.2 r21.1⟩)
              | (have hq : fCopy w z y (nI s) a2 (nI u) a4 a5 = (-1000003, w, z, y) := by
                   unfold fCopy
                   rw [if_neg h1, if_neg hh3, jI_nat (by omega), jI_nat (by omega), if_neg ws, if_neg wu, if_pos we]
                 exact ⟨_, _, rfl, rfl, by rw [hq]; exact hR.bq r22.2 r22.1⟩)
              | (have hq : fCopy w z y (nI s) a2 (nI u) a4 a5 = (-1000003, w, z, y) := by
                   unfold fCopy
                   rw [if_neg h1, if_neg hh3, jI_nat (by omega), jI_nat (by omega), if_neg ws, if_neg wu, if_pos we]
                 exact ⟨_, _, rfl, rfl, by rw [hq]; exact hR.bq r23.2 r23.1⟩)
              | (have hq : fCopy w z y (nI s) a2 (nI u) a4 a5 = (-1000003, w, z, y) := by
                   unfold fCopy
                   rw [if_neg h1, if_neg hh3, jI_nat (by omega), jI_nat (by omega), if_neg ws, if_neg wu, if_pos we]
                 exact ⟨_, _, rfl, rfl, by rw [hq]; exact hR.bq r24.2 r24.1⟩)
              | (have hq : fCopy w z y (nI s) a2 (nI u) a4 a5 = (-1000003, w, z, y) := by
                   unfold fCopy
                   rw [if_neg h1, if_neg hh3, jI_nat (by omega), jI_nat (by omega), if_neg ws, if_neg wu, if_pos we]
                 exact ⟨_, _, rfl, rfl, by rw [hq]; exact hR.bq r25.2 r25.1⟩)
        · have wu : w u = 0 := bI_ne0 h6
          refine x_aload_n hm rfl rfl ?_
          refine x_ldcI hm rfl (v := (-1000006 : Int32)) (by decide +kernel) ?_
          refine x_cVi hm rfl rfl (t7 (by decide +kernel)) (fun v13 M13 r13 => ?_)
          refine x_iret hm rfl rfl (by first | rfl | exact bI_nar | decide) ?_
          first
            | (have hq : fCopy w z y (nI s) a2 (nI u) a4 a5 = (-1000006, w, z, y) := by
                 unfold fCopy
                 rw [if_neg h1, if_neg hh3, jI_nat (by omega), jI_nat (by omega), if_pos ws]
               exact ⟨_, _, rfl, rfl, by rw [hq]; exact hR.bq r13.2 r13.1⟩)
            | (have hq : fCopy w z y (nI s) a2 (nI u) a4 a5 = (-1000006, w, z, y) := by
                 unfold fCopy
                 rw [if_neg h1, if_neg hh3, jI_nat (by omega), jI_nat (by omega), if_neg ws, if_pos wu]
               exact ⟨_, _, rfl, rfl, by rw [hq]; exact hR.bq r13.2 r13.1⟩)
            | (have hq : fCopy w z y (nI s) a2 (nI u) a4 a5 = (-1000006, w, z, y) := by
                 unfold fCopy
                 rw [if_neg h1, if_neg hh3, jI_nat (by omega), jI_nat (by omega), if_pos ws]
               exact ⟨_, _, rfl, rfl, by rw [hq]; exact hR.bq r1.2 r1.1⟩)
            | (have hq : fCopy w z y (nI s) a2 (nI u) a4 a5 = (-1000006, w, z, y) := by
                 unfold fCopy
                 rw [if_neg h1, if_neg hh3, jI_nat (by omega), jI_nat (by omega), if_pos ws]
               exact ⟨_, _, rfl, rfl, by rw [hq]; exact hR.bq r2.2 r2.1⟩)
            | (have hq : fCopy w z y (nI s) a2 (nI u) a4 a5 = (-1000006, w, z, y) := by
                 unfold fCopy
                 rw [if_neg h1, if_neg hh3, jI_nat (by omega), jI_nat (by omega), if_pos ws]
               exact ⟨_, _, rfl, rfl, by rw [hq]; exact hR.bq r3.2 r3.1⟩)
            | (have hq : fCopy w z y (nI s) a2 (nI u) a4 a5 = (-1000006, w, z, y) := by
                 unfold fCopy
                 rw [if_neg h1, if_neg hh3, jI_nat (by omega), jI_nat (by omega), if_pos ws]
               exact ⟨_, _, rfl, rfl, by rw [hq]; exact hR.bq r4.2 r4.1⟩)
            | (have hq : fCopy w z y (nI s) a2 (nI u) a4 a5 = (-1000006, w, z, y) := by
                 unfold fCopy
                 rw [if_neg h1, if_neg hh3, jI_nat (by omega), jI_nat (by omega), if_pos ws]
               exact ⟨_, _, rfl, rfl, by rw [hq]; exact hR.bq r5.2 r5.1⟩)
            | (have hq : fCopy w z y (nI s) a2 (nI u) a4 a5 = (-1000006, w, z, y) := by
                 unfold fCopy
                 rw [if_neg h1, if_neg hh3, jI_nat (by omega), jI_nat (by omega), if_pos ws]
               exact ⟨_, _, rfl, rfl, by rw [hq]; exact hR.bq r6.2 r6.1⟩)
            | (have hq : fCopy w z y (nI s) a2 (nI u) a4 a5 = (-1000006, w, z, y) := by
                 unfold fCopy
                 rw [if_neg h1, if_neg hh3, jI_nat (by omega), jI_nat (by omega), if_pos ws]
               exact ⟨_, _, rfl, rfl, by rw [hq]; exact hR.bq r7.2 r7.1⟩)
            | (have hq : fCopy w z y (nI s) a2 (nI u) a4 a5 = (-1000006, w, z, y) := by
                 unfold fCopy
                 rw [if_neg h1, if_neg hh3, jI_nat (by omega), jI_nat (by omega), if_pos ws]
               exact ⟨_, _, rfl, rfl, by rw [hq]; exact hR.bq r8.2 r8.1⟩)
            | (have hq : fCopy w z y (nI s) a2 (nI u) a4 a5 = (-1000006, w, z, y) := by
                 unfold fCopy
                 rw [if_neg h1, if_neg hh3, jI_nat (by omega), jI_nat (by omega), if_pos ws]
               exact ⟨_, _, rfl, rfl, by rw [hq]; exact hR.bq r9.2 r9.1⟩)
            | (have hq : fCopy w z y (nI s) a2 (nI u) a4 a5 = (-1000006, w, z, y) := by
                 unfold fCopy
                 rw [if_neg h1, if_neg hh3, jI_nat (by omega), jI_nat (by omega), if_pos ws]
               exact ⟨_, _, rfl, rfl, by rw [hq]; exact hR.bq r10.2 r10.1⟩)
            | (have hq : fCopy w z y (nI s) a2 (nI u) a4 a5 = (-1000006, w, z, y) := by
                 unfold fCopy
                 rw [if_neg h1, if_neg hh3, jI_nat (by omega), jI_nat (by omega), if_pos ws]
               exact ⟨_, _, rfl, rfl, by rw [hq]; exact hR.bq r11.2 r11.1⟩)
            | (have hq : fCopy w z y (nI s) a2 (nI u) a4 a5 = (-1000006, w, z, y) := by
                 unfold fCopy
                 rw [if_neg h1, if_neg hh3, jI_nat (by omega), jI_nat (by omega), if_pos ws]
               exact ⟨_, _, rfl, rfl, by rw [hq]; exact hR.bq r12.2 r12.1⟩)
            | (have hq : fCopy w z y (nI s) a2 (nI u) a4 a5 = (-1000006, w, z, y) := by
                 unfold fCopy
                 rw [if_neg h1, if_neg hh3, jI_nat (by omega), jI_nat (by omega), if_pos ws]
               exact ⟨_, _, rfl, rfl, by rw [hq]; exact hR.bq r14.2 r14.1⟩)
            | (have hq : fCopy w z y (nI s) a2 (nI u) a4 a5 = (-1000006, w, z, y) := by
                 unfold fCopy
                 rw [if_neg h1, if_neg hh3, jI_nat (by omega), jI_nat (by omega), if_pos ws]
               exact ⟨_, _, rfl, rfl, by rw [hq]; exact hR.bq r15.2 r15.1⟩)
            | (have hq : fCopy w z y (nI s) a2 (nI u) a4 a5 = (-1000006, w, z, y) := by
                 unfold fCopy
                 rw [if_neg h1, if_neg hh3, jI_nat (by omega), jI_nat (by omega), if_pos ws]
               exact ⟨_, _, rfl, rfl, by rw [hq]; exact hR.bq r16.2 r16.1⟩)
            | (have hq : fCopy w z y (nI s) a2 (nI u) a4 a5 = (-1000006, w, z, y) := by
                 unfold fCopy
                 rw [if_neg h1, if_neg hh3, jI_nat (by omega), jI_nat (by omega), if_pos ws]
               exact ⟨_, _, rfl, rfl, by rw [hq]; exact hR.bq r17.2 r17.1⟩)
            | (have hq : fCopy w z y (nI s) a2 (nI u) a4 a5 = (-1000006, w, z, y) := by
                 unfold fCopy
                 rw [if_neg h1, if_neg hh3, jI_nat (by omega), jI_nat (by omega), if_pos ws]
               exact ⟨_, _, rfl, rfl, by rw [hq]; exact hR.bq r18.2 r18.1⟩)
            | (have hq : fCopy w z y (nI s) a2 (nI u) a4 a5 = (-1000006, w, z, y) := by
                 unfold fCopy
                 rw [if_neg h1, if_neg hh3, jI_nat (by omega), jI_nat (by omega), if_pos ws]
               exact ⟨_, _, rfl, rfl, by rw [hq]; exact hR.bq r19.2 r19.1⟩)
            | (have hq : fCopy w z y (nI s) a2 (nI u) a4 a5 = (-1000006, w, z, y) := by
                 unfold fCopy
                 rw [if_neg h1, if_neg hh3, jI_nat (by omega), jI_nat (by omega), if_pos ws]
               exact ⟨_, _, rfl, rfl, by rw [hq]; exact hR.bq r20.2 r20.1⟩)
            | (have hq : fCopy w z y (nI s) a2 (nI u) a4 a5 = (-1000006, w, z, y) := by
                 unfold fCopy
                 rw [if_neg h1, if_neg hh3, jI_nat (by omega), jI_nat (by omega), if_pos ws]
               exact ⟨_, _, rfl, rfl, by rw [hq]; exact hR.bq r21.2 r21.1⟩)
            | (have hq : fCopy w z y (nI s) a2 (nI u) a4 a5 = (-1000006, w, z, y) := by
                 unfold fCopy
                 rw [if_neg h1, if_neg hh3, jI_nat (by omega), jI_nat (by omega), if_pos ws]
               exact ⟨_, _, rfl, rfl, by rw [hq]; exact hR.bq r22.2 r22.1⟩)
            | (have hq : fCopy w z y (nI s) a2 (nI u) a4 a5 = (-1000006, w, z, y) := by
                 unfold fCopy
                 rw [if_neg h1, if_neg hh3, jI_nat (by omega), jI_nat (by omega), if_pos ws]
               exact ⟨_, _, rfl, rfl, by rw [hq]; exact hR.bq r23.2 r23.1⟩)
            | (have hq : fCopy w z y (nI s) a2 (nI u) a4 a5 = (-1000006, w, z, y) := by
                 unfold fCopy
                 rw [if_neg h1, if_neg hh3, jI_nat (by omega), jI_nat (by omega), if_pos ws]
               exact ⟨_, _, rfl, rfl, by rw [hq]; exact hR.bq r24.2 r24.1⟩)
            | (have hq : fCopy w z y (nI s) a2 (nI u) a4 a5 = (-1000006, w, z, y) := by
                 unfold fCopy
                 rw [if_neg h1, if_neg hh3, jI_nat (by omega), jI_nat (by omega), if_pos ws]
               exact ⟨_, _, rfl, rfl, by rw [hq]; exact hR.bq r25.2 r25.1⟩)
            | (have hq : fCopy w z y (nI s) a2 (nI u) a4 a5 = (-1000006, w, z, y) := by
                 unfold fCopy
                 rw [if_neg h1, if_neg hh3, jI_nat (by omega), jI_nat (by omega), if_neg ws, if_pos wu]
               exact ⟨_, _, rfl, rfl, by rw [hq]; exact hR.bq r1.2 r1.1⟩)
            | (have hq : fCopy w z y (nI s) a2 (nI u) a4 a5 = (-1000006, w, z, y) := by
                 unfold fCopy
                 rw [if_neg h1, if_neg hh3, jI_nat (by omega), jI_nat (by omega), if_neg ws, if_pos wu]
               exact ⟨_, _, rfl, rfl, by rw [hq]; exact hR.bq r2.2 r2.1⟩)
            | (have hq : fCopy w z y (nI s) a2 (nI u) a4 a5 = (-1000006, w, z, y) := by
                 unfold fCopy
                 rw [if_neg h1, if_neg hh3, jI_nat (by omega), jI_nat (by omega), if_neg ws, if_pos wu]
               exact ⟨_, _, rfl, rfl, by rw [hq]; exact hR.bq r3.2 r3.1⟩)
            | (have hq : fCopy w z y (nI s) a2 (nI u) a4 a5 = (-1000006, w, z, y) := by
                 unfold fCopy
                 rw [if_neg h1, if_neg hh3, jI_nat (by omega), jI_nat (by omega), if_neg ws, if_pos wu]
               exact ⟨_, _, rfl, rfl, by rw [hq]; exact hR.bq r4.2 r4.1⟩)
            | (have hq : fCopy w z y (nI s) a2 (nI u) a4 a5 = (-1000006, w, z, y) := by
                 unfold fCopy
                 rw [if_neg h1, if_neg hh3, jI_nat (by omega), jI_nat (by omega), if_neg ws, if_pos wu]
               exact ⟨_, _, rfl, rfl, by rw [hq]; exact hR.bq r5.2 r5.1⟩)
            | (have hq : fCopy w z y (nI s) a2 (nI u) a4 a5 = (-1000006, w, z, y) := by
                 unfold fCopy
                 rw [if_neg h1, if_neg hh3, jI_nat (by omega), jI_nat (by omega), if_neg ws, if_pos wu]
               exact ⟨_, _, rfl, rfl, by rw [hq]; exact hR.bq r6.2 r6.1⟩)
            | (have hq : fCopy w z y (nI s) a2 (nI u) a4 a5 = (-1000006, w, z, y) := by
                 unfold fCopy
                 rw [if_neg h1, if_neg hh3, jI_nat (by omega), jI_nat (by omega), if_neg ws, if_pos wu]
               exact ⟨_, _, rfl, rfl, by rw [hq]; exact hR.bq r7.2 r7.1⟩)
            | (have hq : fCopy w z y (nI s) a2 (nI u) a4 a5 = (-1000006, w, z, y) := by
                 unfold fCopy
                 rw [if_neg h1, if_neg hh3, jI_nat (by omega), jI_nat (by omega), if_neg ws, if_pos wu]
               exact ⟨_, _, rfl, rfl, by rw [hq]; exact hR.bq r8.2 r8.1⟩)
            | (have hq : fCopy w z y (nI s) a2 (nI u) a4 a5 = (-1000006, w, z, y) := by
                 unfold fCopy
                 rw [if_neg h1, if_neg hh3, jI_nat (by omega), jI_nat (by omega), if_neg ws, if_pos wu]
               exact ⟨_, _, rfl, rfl, by rw [hq]; exact hR.bq r9.2 r9.1⟩)
            | (have hq : fCopy w z y (nI s) a2 (nI u) a4 a5 = (-1000006, w, z, y) := by
                 unfold fCopy
                 rw [if_neg h1, if_neg hh3, jI_nat (by omega), jI_nat (by omega), if_neg ws, if_pos wu]
               exact ⟨_, _, rfl, rfl, by rw [hq]; exact hR.bq r10.2 r10.1⟩)
            | (have hq : fCopy w z y (nI s) a2 (nI u) a4 a5 = (-1000006, w, z, y) := by
                 unfold fCopy
                 rw [if_neg h1, if_neg hh3, jI_nat (by omega), jI_nat (by omega), if_neg ws, if_pos wu]
               exact ⟨_, _, rfl, rfl, by rw [hq]; exact hR.bq r11.2 r11.1⟩)
            | (have hq : fCopy w z y (nI s) a2 (nI u) a4 a5 = (-1000006, w, z, y) := by
                 unfold fCopy
                 rw [if_neg h1, if_neg hh3, jI_nat (by omega), jI_nat (by omega), if_neg ws, if_pos wu]
               exact ⟨_, _, rfl, rfl, by rw [hq]; exact hR.bq r12.2 r12.1⟩)
            | (have hq : fCopy w z y (nI s) a2 (nI u) a4 a5 = (-1000006, w, z, y) := by
                 unfold fCopy
                 rw [if_neg h1, if_neg hh3, jI_nat (by omega), jI_nat (by omega), if_neg ws, if_pos wu]
               exact ⟨_, _, rfl, rfl, by rw [hq]; exact hR.bq r14.2 r14.1⟩)
            | (have hq : fCopy w z y (nI s) a2 (nI u) a4 a5 = (-1000006, w, z, y) := by
                 unfold fCopy
                 rw [if_neg h1, if_neg hh3, jI_nat (by omega), jI_nat (by omega), if_neg ws, if_pos wu]
               exact ⟨_, _, rfl, rfl, by rw [hq]; exact hR.bq r15.2 r15.1⟩)
            | (have hq : fCopy w z y (nI s) a2 (nI u) a4 a5 = (-1000006, w, z, y) := by
                 unfold fCopy
                 rw [if_neg h1, if_neg hh3, jI_nat (by omega), jI_nat (by omega), if_neg ws, if_pos wu]
               exact ⟨_, _, rfl, rfl, by rw [hq]; exact hR.bq r16.2 r16.1⟩)
            | (have hq : fCopy w z y (nI s) a2 (nI u) a4 a5 = (-1000006, w, z, y) := by
                 unfold fCopy
                 rw [if_neg h1, if_neg hh3, jI_nat (by omega), jI_nat (by omega), if_neg ws, if_pos wu]
               exact ⟨_, _, rfl, rfl, by rw [hq]; exact hR.bq r17.2 r17.1⟩)
            | (have hq : fCopy w z y (nI s) a2 (nI u) a4 a5 = (-1000006, w, z, y) := by
                 unfold fCopy
                 rw [if_neg h1, if_neg hh3, jI_nat (by omega), jI_nat (by omega), if_neg ws, if_pos wu]
               exact ⟨_, _, rfl, rfl, by rw [hq]; exact hR.bq r18.2 r18.1⟩)
            | (have hq : fCopy w z y (nI s) a2 (nI u) a4 a5 = (-1000006, w, z, y) := by
                 unfold fCopy
                 rw [if_neg h1, if_neg hh3, jI_nat (by omega), jI_nat (by omega), if_neg ws, if_pos wu]
               exact ⟨_, _, rfl, rfl, by rw [hq]; exact hR.bq r19.2 r19.1⟩)
            | (have hq : fCopy w z y (nI s) a2 (nI u) a4 a5 = (-1000006, w, z, y) := by
                 unfold fCopy
                 rw [if_neg h1, if_neg hh3, jI_nat (by omega), jI_nat (by omega), if_neg ws, if_pos wu]
               exact ⟨_, _, rfl, rfl, by rw [hq]; exact hR.bq r20.2 r20.1⟩)
            | (have hq : fCopy w z y (nI s) a2 (nI u) a4 a5 = (-1000006, w, z, y) := by
                 unfold fCopy
                 rw [if_neg h1, if_neg hh3, jI_nat (by omega), jI_nat (by omega), if_neg ws, if_pos wu]
               exact ⟨_, _, rfl, rfl, by rw [hq]; exact hR.bq r21.2 r21.1⟩)
            | (have hq : fCopy w z y (nI s) a2 (nI u) a4 a5 = (-1000006, w, z, y) := by
                 unfold fCopy
                 rw [if_neg h1, if_neg hh3, jI_nat (by omega), jI_nat (by omega), if_neg ws, if_pos wu]
               exact ⟨_, _, rfl, rfl, by rw [hq]; exact hR.bq r22.2 r22.1⟩)
            | (have hq : fCopy w z y (nI s) a2 (nI u) a4 a5 = (-1000006, w, z, y) := by
                 unfold fCopy
                 rw [if_neg h1, if_neg hh3, jI_nat (by omega), jI_nat (by omega), if_neg ws, if_pos wu]
               exact ⟨_, _, rfl, rfl, by rw [hq]; exact hR.bq r23.2 r23.1⟩)
            | (have hq : fCopy w z y (nI s) a2 (nI u) a4 a5 = (-1000006, w, z, y) := by
                 unfold fCopy
                 rw [if_neg h1, if_neg hh3, jI_nat (by omega), jI_nat (by omega), if_neg ws, if_pos wu]
               exact ⟨_, _, rfl, rfl, by rw [hq]; exact hR.bq r24.2 r24.1⟩)
            | (have hq : fCopy w z y (nI s) a2 (nI u) a4 a5 = (-1000006, w, z, y) := by
                 unfold fCopy
                 rw [if_neg h1, if_neg hh3, jI_nat (by omega), jI_nat (by omega), if_neg ws, if_pos wu]
               exact ⟨_, _, rfl, rfl, by rw [hq]; exact hR.bq r25.2 r25.1⟩)
    · refine x_aload_n hm rfl rfl ?_
      refine x_ldcI hm rfl (v := (-1000001 : Int32)) (by decide +kernel) ?_
      refine x_cVi hm rfl rfl (t7 (by decide +kernel)) (fun v14 M14 r14 => ?_)
      refine x_iret hm rfl rfl (by first | rfl | exact bI_nar | decide) ?_
      first
        | (have hq : fCopy w z y a1 a2 a3 a4 a5 = (-1000001, w, z, y) := by
             unfold fCopy
             rw [if_pos h1]
           exact ⟨_, _, rfl, rfl, by rw [hq]; exact hR.bq r14.2 r14.1⟩)
        | (have hq : fCopy w z y (nI s) a2 a3 a4 a5 = (-1000001, w, z, y) := by
             unfold fCopy
             rw [if_neg h1, if_pos (by assumption)]
           exact ⟨_, _, rfl, rfl, by rw [hq]; exact hR.bq r14.2 r14.1⟩)
        | (have hq : fCopy w z y a1 a2 a3 a4 a5 = (-1000001, w, z, y) := by
             unfold fCopy
             rw [if_pos h1]
           exact ⟨_, _, rfl, rfl, by rw [hq]; exact hR.bq r1.2 r1.1⟩)
        | (have hq : fCopy w z y a1 a2 a3 a4 a5 = (-1000001, w, z, y) := by
             unfold fCopy
             rw [if_pos h1]
           exact ⟨_, _, rfl, rfl, by rw [hq]; exact hR.bq r2.2 r2.1⟩)
        | (have hq : fCopy w z y a1 a2 a3 a4 a5 = (-1000001, w, z, y) := by
             unfold fCopy
             rw [if_pos h1]
           exact ⟨_, _, rfl, rfl, by rw [hq]; exact hR.bq r3.2 r3.1⟩)
        | (have hq : fCopy w z y a1 a2 a3 a4 a5 = (-1000001, w, z, y) := by
             unfold fCopy
             rw [if_pos h1]
           exact ⟨_, _, rfl, rfl, by rw [hq]; exact hR.bq r4.2 r4.1⟩)
        | (have hq : fCopy w z y a1 a2 a3 a4 a5 = (-1000001, w, z, y) := by
             unfold fCopy
             rw [if_pos h1]
           exact ⟨_, _, rfl, rfl, by rw [hq]; exact hR.bq r5.2 r5.1⟩)
        | (have hq : fCopy w z y a1 a2 a3 a4 a5 = (-1000001, w, z, y) := by
             unfold fCopy
             rw [if_pos h1]
           exact ⟨_, _, rfl, rfl, by rw [hq]; exact hR.bq r6.2 r6.1⟩)
        | (have hq : fCopy w z y a1 a2 a3 a4 a5 = (-1000001, w, z, y) := by
             unfold fCopy
             rw [if_pos h1]
           exact ⟨_, _, rfl, rfl, by rw [hq]; exact hR.bq r7.2 r7.1⟩)
        | (have hq : fCopy w z y a1 a2 a3 a4 a5 = (-1000001, w, z, y) := by
             unfold fCopy
             rw [if_pos h1]
           exact ⟨_, _, rfl, rfl, by rw [hq]; exact hR.bq r8.2 r8.1⟩)
        | (have hq : fCopy w z y a1 a2 a3 a4 a5 = (-1000001, w, z, y) := by
             unfold fCopy
             rw [if_pos h1]
           exact ⟨_, _, rfl, rfl, by rw [hq]; exact hR.bq r9.2 r9.1⟩)
        | (have hq : fCopy w z y a1 a2 a3 a4 a5 = (-1000001, w, z, y) := by
             unfold fCopy
             rw [if_pos h1]
           exact ⟨_, _, rfl, rfl, by rw [hq]; exact hR.bq r10.2 r10.1⟩)
        | (have hq : fCopy w z y a1 a2 a3 a4 a5 = (-1000001, w, z, y) := by
             unfold fCopy
             rw [if_pos h1]
           exact ⟨_, _, rfl, rfl, by rw [hq]; exact hR.bq r11.2 r11.1⟩)
        | (have hq : fCopy w z y a1 a2 a3 a4 a5 = (-1000001, w, z, y) := by
             unfold fCopy
             rw [if_pos h1]
           exact ⟨_, _, rfl, rfl, by rw [hq]; exact hR.bq r12.2 r12.1⟩)
        | (have hq : fCopy w z y a1 a2 a3 a4 a5 = (-1000001, w, z, y) := by
             unfold fCopy
             rw [if_pos h1]
           exact ⟨_, _, rfl, rfl, by rw [hq]; exact hR.bq r13.2 r13.1⟩)
        | (have hq : fCopy w z y a1 a2 a3 a4 a5 = (-1000001, w, z, y) := by
             unfold fCopy
             rw [if_pos h1]
           exact ⟨_, _, rfl, rfl, by rw [hq]; exact hR.bq r15.2 r15.1⟩)
        | (have hq : fCopy w z y a1 a2 a3 a4 a5 = (-1000001, w, z, y) := by
             unfold fCopy
             rw [if_pos h1]
           exact ⟨_, _, rfl, rfl, by rw [hq]; exact hR.bq r16.2 r16.1⟩)
        | (have hq : fCopy w z y a1 a2 a3 a4 a5 = (-1000001, w, z, y) := by
             unfold fCopy
             rw [if_pos h1]
           exact ⟨_, _, rfl, rfl, by rw [hq]; exact hR.bq r17.2 r17.1⟩)
        | (have hq : fCopy w z y a1 a2 a3 a4 a5 = (-1000001, w, z, y) := by
             unfold fCopy
             rw [if_pos h1]
           exact ⟨_, _, rfl, rfl, by rw [hq]; exact hR.bq r18.2 r18.1⟩)
        | (have hq : fCopy w z y a1 a2 a3 a4 a5 = (-1000001, w, z, y) := by
             unfold fCopy
             rw [if_pos h1]
           exact ⟨_, _, rfl, rfl, by rw [hq]; exact hR.bq r19.2 r19.1⟩)
        | (have hq : fCopy w z y a1 a2 a3 a4 a5 = (-1000001, w, z, y) := by
             unfold fCopy
             rw [if_pos h1]
           exact ⟨_, _, rfl, rfl, by rw [hq]; exact hR.bq r20.2 r20.1⟩)
        | (have hq : fCopy w z y a1 a2 a3 a4 a5 = (-1000001, w, z, y) := by
             unfold fCopy
             rw [if_pos h1]
           exact ⟨_, _, rfl, rfl, by rw [hq]; exact hR.bq r21.2 r21.1⟩)
        | (have hq : fCopy w z y a1 a2 a3 a4 a5 = (-1000001, w, z, y) := by
             unfold fCopy
             rw [if_pos h1]
           exact ⟨_, _, rfl, rfl, by rw [hq]; exact hR.bq r22.2 r22.1⟩)
        | (have hq : fCopy w z y a1 a2 a3 a4 a5 = (-1000001, w, z, y) := by
             unfold fCopy
             rw [if_pos h1]
           exact ⟨_, _, rfl, rfl, by rw [hq]; exact hR.bq r23.2 r23.1⟩)
        | (have hq : fCopy w z y a1 a2 a3 a4 a5 = (-1000001, w, z, y) := by
             unfold fCopy
             rw [if_pos h1]
           exact ⟨_, _, rfl, rfl, by rw [hq]; exact hR.bq r24.2 r24.1⟩)
        | (have hq : fCopy w z y a1 a2 a3 a4 a5 = (-1000001, w, z, y) := by
             unfold fCopy
             rw [if_pos h1]
           exact ⟨_, _, rfl, rfl, by rw [hq]; exact hR.bq r25.2 r25.1⟩)
        | (have hq : fCopy w z y (nI s) a2 a3 a4 a5 = (-1000001, w, z, y) := by
             unfold fCopy
             rw [if_neg h1, if_pos (by assumption)]
           exact ⟨_, _, rfl, rfl, by rw [hq]; exact hR.bq r1.2 r1.1⟩)
        | (have hq : fCopy w z y (nI s) a2 a3 a4 a5 = (-1000001, w, z, y) := by
             unfold fCopy
             rw [if_neg h1, if_pos (by assumption)]
           exact ⟨_, _, rfl, rfl, by rw [hq]; exact hR.bq r2.2 r2.1⟩)
        | (have hq : fCopy w z y (nI s) a2 a3 a4 a5 = (-1000001, w, z, y) := by
             unfold fCopy
             rw [if_neg h1, if_pos (by assumption)]
           exact ⟨_, _, rfl, rfl, by rw [hq]; exact hR.bq r3.2 r3.1⟩)
        | (have hq : fCopy w z y (nI s) a2 a3 a4 a5 = (-1000001, w, z, y) := by
             unfold fCopy
             rw [if_neg h1, if_pos (by assumption)]
           exact ⟨_, _, rfl, rfl, by rw [hq]; exact hR.bq r4.2 r4.1⟩)
        | (have hq : fCopy w z y (nI s) a2 a3 a4 a5 = (-1000001, w, z, y) := by
             unfold fCopy
             rw [if_neg h1, if_pos (by assumption)]
           exact ⟨_, _, rfl, rfl, by rw [hq]; exact hR.bq r5.2 r5.1⟩)
        | (have hq : fCopy w z y (nI s) a2 a3 a4 a5 = (-1000001, w, z, y) := by
             unfold fCopy
             rw [if_neg h1, if_pos (by assumption)]
           exact ⟨_, _, rfl, rfl, by rw [hq]; exact hR.bq r6.2 r6.1⟩)
        | (have hq : fCopy w z y (nI s) a2 a3 a4 a5 = (-1000001, w, z, y) := by
             unfold fCopy
             rw [if_neg h1, if_pos (by assumption)]
           exact ⟨_, _, rfl, rfl, by rw [hq]; exact hR.bq r7.2 r7.1⟩)
        | (have hq : fCopy w z y (nI s) a2 a3 a4 a5 = (-1000001, w, z, y) := by
             unfold fCopy
             rw [if_neg h1, if_pos (by assumption)]
           exact ⟨_, _, rfl, rfl, by rw [hq]; exact hR.bq r8.2 r8.1⟩)
        | (have hq : fCopy w z y (nI s) a2 a3 a4 a5 = (-1000001, w, z, y) := by
             unfold fCopy
             rw [if_neg h1, if_pos (by assumption)]
           exact ⟨_, _, rfl, rfl, by rw [hq]; exact hR.bq r9.2 r9.1⟩)
        | (have hq : fCopy w z y (nI s) a2 a3 a4 a5 = (-1000001, w, z, y) := by
             unfold fCopy
             rw [if_neg h1, if_pos (by assumption)]
           exact ⟨_, _, rfl, rfl, by rw [hq]; exact hR.bq r10.2 r10.1⟩)
        | (have hq : fCopy w z y (nI s) a2 a3 a4 a5 = (-1000001, w, z, y) := by
             unfold fCopy
             rw [if_neg h1, if_pos (by assumption)]
           exact ⟨_, _, rfl, rfl, by rw [hq]; exact hR.bq r11.2 r11.1⟩)
        | (have hq : fCopy w z y (nI s) a2 a3 a4 a5 = (-1000001, w, z, y) := by
             unfold fCopy
             rw [if_neg h1, if_pos (by assumption)]
           exact ⟨_, _, rfl, rfl, by rw [hq]; exact hR.bq r12.2 r12.1⟩)
        | (have hq : fCopy w z y (nI s) a2 a3 a4 a5 = (-1000001, w, z, y) := by
             unfold fCopy
             rw [if_neg h1, if_pos (by assumption)]
           exact ⟨_, _, rfl, rfl, by rw [hq]; exact hR.bq r13.2 r13.1⟩)
        | (have hq : fCopy w z y (nI s) a2 a3 a4 a5 = (-1000001, w, z, y) := by
             unfold fCopy
             rw [if_neg h1, if_pos (by assumption)]
           exact ⟨_, _, rfl, rfl, by rw [hq]; exact hR.bq r15.2 r15.1⟩)
        | (have hq : fCopy w z y (nI s) a2 a3 a4 a5 = (-1000001, w, z, y) := by
             unfold fCopy
             rw [if_neg h1, if_pos (by assumption)]
           exact ⟨_, _, rfl, rfl, by rw [hq]; exact hR.bq r16.2 r16.1⟩)
        | (have hq : fCopy w z y (nI s) a2 a3 a4 a5 = (-1000001, w, z, y) := by
             unfold fCopy
             rw [if_neg h1, if_pos (by assumption)]
           exact ⟨_, _, rfl, rfl, by rw [hq]; exact hR.bq r17.2 r17.1⟩)
        | (have hq : fCopy w z y (nI s) a2 a3 a4 a5 = (-1000001, w, z, y) := by
             unfold fCopy
             rw [if_neg h1, if_pos (by assumption)]
           exact ⟨_, _, rfl, rfl, by rw [hq]; exact hR.bq r18.2 r18.1⟩)
        | (have hq : fCopy w z y (nI s) a2 a3 a4 a5 = (-1000001, w, z, y) := by
             unfold fCopy
             rw [if_neg h1, if_pos (by assumption)]
           exact ⟨_, _, rfl, rfl, by rw [hq]; exact hR.bq r19.2 r19.1⟩)
        | (have hq : fCopy w z y (nI s) a2 a3 a4 a5 = (-1000001, w, z, y) := by
             unfold fCopy
             rw [if_neg h1, if_pos (by assumption)]
           exact ⟨_, _, rfl, rfl, by rw [hq]; exact hR.bq r20.2 r20.1⟩)
        | (have hq : fCopy w z y (nI s) a2 a3 a4 a5 = (-1000001, w, z, y) := by
             unfold fCopy
             rw [if_neg h1, if_pos (by assumption)]
           exact ⟨_, _, rfl, rfl, by rw [hq]; exact hR.bq r21.2 r21.1⟩)
        | (have hq : fCopy w z y (nI s) a2 a3 a4 a5 = (-1000001, w, z, y) := by
             unfold fCopy
             rw [if_neg h1, if_pos (by assumption)]
           exact ⟨_, _, rfl, rfl, by rw [hq]; exact hR.bq r22.2 r22.1⟩)
        | (have hq : fCopy w z y (nI s) a2 a3 a4 a5 = (-1000001, w, z, y) := by
             unfold fCopy
             rw [if_neg h1, if_pos (by assumption)]
           exact ⟨_, _, rfl, rfl, by rw [hq]; exact hR.bq r23.2 r23.1⟩)
        | (have hq : fCopy w z y (nI s) a2 a3 a4 a5 = (-1000001, w, z, y) := by
             unfold fCopy
             rw [if_neg h1, if_pos (by assumption)]
           exact ⟨_, _, rfl, rfl, by rw [hq]; exact hR.bq r24.2 r24.1⟩)
        | (have hq : fCopy w z y (nI s) a2 a3 a4 a5 = (-1000001, w, z, y) := by
             unfold fCopy
             rw [if_neg h1, if_pos (by assumption)]
           exact ⟨_, _, rfl, rfl, by rw [hq]; exact hR.bq r25.2 r25.1⟩)
end EX
