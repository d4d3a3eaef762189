/-! ===== change, go, strolls ===== -/
abbrev mayC (a v : Int32) : Prop := (a = 0 ∧ (nI 0 ≤ v ∧ v ≤ nI 6)) ∨ ((a = nI 1 ∨ a = nI 2) ∧ (nI 0 ≤ v ∧ v ≤ nI 15)) ∨ ((nI 3 ≤ a ∧ a ≤ nI 6) ∧ (nI 0 ≤ v ∧ v ≤ nI 9))
def fChange (nt np : Nat) (r : Nat → Int32) (a1 a2 a3 : Int32) : Sq4 :=
  if bI (nI 0 ≤ a1 ∧ a1 ≤ nI np - nI 1) = 0 then (-1000001, nt, np, r) else if bI (mayC a2 a3) = 0 then (-1000001, nt, np, r) else (r (62 + 7 * a1.toNatClampNeg + a2.toNatClampNeg), nt, np, put1 r (62 + 7 * a1.toNatClampNeg + a2.toNatClampNeg) a3)
theorem bIc {p q : Prop} [Decidable p] [Decidable q] (h : p ↔ q) : bI p = bI q := by
  by_cases g : p
  · exact (bI_t g).symm.trans (bI_t (h.mp g))
  · exact (bI_f g).symm.trans (bI_f fun z => g (h.mpr z))
theorem le36 {a : Int32} (h : nI 3 ≤ a ∧ a ≤ nI 6) : 3 ≤ a.toInt ∧ a.toInt ≤ 6 := by
  have h1 := Int32.le_iff_toInt_le.mp h.1
  have h2 := Int32.le_iff_toInt_le.mp h.2
  rw [jI_int (by decide)] at h1 h2
  omega
theorem mayC_0 {a v : Int32} (h : a = 0) : (nI 0 ≤ v ∧ v ≤ nI 6) ↔ mayC a v := by
  subst h
  refine ⟨fun g => Or.inl ⟨rfl, g⟩, fun g => ?_⟩
  rcases g with g | ⟨g, -⟩ | ⟨g, -⟩
  · exact g.2
  · exact absurd g (by decide)
  · exact absurd g (by decide)
theorem mayC_12 {a v : Int32} (h : a = nI 1 ∨ a = nI 2) : (nI 0 ≤ v ∧ v ≤ nI 15) ↔ mayC a v := by
  refine ⟨fun g => Or.inr (Or.inl ⟨h, g⟩), fun g => ?_⟩
  rcases g with ⟨rfl, -⟩ | g | ⟨g, -⟩
  · exact absurd h (by decide)
  · exact g.2
  · rcases h with rfl | rfl <;> exact absurd g (by decide)
theorem mayC_e {a v : Int32} (h0 : ¬ a = 0) (h1 : ¬ a = nI 1) (h2 : ¬ a = nI 2) : mayC a v ↔ ((nI 3 ≤ a ∧ a ≤ nI 6) ∧ (nI 0 ≤ v ∧ v ≤ nI 9)) := by
  refine ⟨fun g => ?_, fun g => Or.inr (Or.inr g)⟩
  rcases g with ⟨g, -⟩ | ⟨g, -⟩ | g
  · exact absurd g h0
  · rcases g with g | g
    · exact absurd g h1
    · exact absurd g h2
  · exact g
theorem ts_ne {a : Int32} (h : a.toInt < 0 ∨ 2 < a.toInt) : ¬ a = 0 ∧ ¬ a = nI 1 ∧ ¬ a = nI 2 := by
  refine ⟨fun e => ?_, fun e => ?_, fun e => ?_⟩ <;> subst e <;> exact absurd h (by decide)
theorem mayC_f {a v : Int32} (h : mayC a v) : ∃ f, f < 7 ∧ a = nI f := by
  rcases h with ⟨rfl, -⟩ | ⟨rfl | rfl, -⟩ | ⟨g, -⟩
  · exact ⟨0, by decide, rfl⟩
  · exact ⟨1, by decide, rfl⟩
  · exact ⟨2, by decide, rfl⟩
  · obtain ⟨k, hk, e⟩ := bt_k (by decide) (by decide) g
    exact ⟨k, by omega, e⟩
section EK
variable {X : mSc} {Q : Option Value → mHp → Prop} {M : mM} {nt np : Nat} {r : Nat → Int32}
theorem Tc.tm {q : Nat → Int32} {N : mM} (h : Tc 1 nt np q M N) : Tm nt np q M N := h.1.tm h.2.1 (fun a ha => h.2.2 a (by omega))
theorem g27 {a1 a2 : Int32} : mT X 27 [.int a1, .int a2] (con M) (some (.int (bI (mayC a1 a2)))) (con M) := by
  refine mT.of (row := _) rfl (Nat.le_of_ble_eq_true rfl) ?_
  have hm : mMet 27 = some _ := rfl
  refine x_iload_n hm rfl rfl ?_
  refine x_ts hm rfl (fun h1 => ⟨44, rfl, ?_⟩) (fun i1 h1 g1 => ?_)
  · refine x_iload_n hm rfl rfl ?_
    refine x_iconst hm rfl (v := nI 3) (by decide) ?_
    refine x_bipush hm rfl (v := nI 6) (by decide) ?_
    refine x_callS hm rfl rfl (t6) ?_
    refine x_if_eq hm rfl (t := 68) rfl (fun h2 => ?_) (fun h2 => ?_)
    · have hv : nI 0 = bI (mayC a1 a2) := bI_f fun q => bI_eq0.mp h2 ((mayC_e (ts_ne h1).1 (ts_ne h1).2.1 (ts_ne h1).2.2).mp q).1
      refine x_iconst hm rfl (v := nI 0) (by decide) ?_
      refine x_iret hm rfl rfl (by first | rfl | exact bI_nar | decide) ?_
      exact qt (congrArg Value.int hv)
    · have h36 := bI_ne0 h2
      refine x_iload_n hm rfl rfl ?_
      refine x_iconst hm rfl (v := nI 0) (by decide) ?_
      refine x_bipush hm rfl (v := nI 9) (by decide) ?_
      refine x_callS hm rfl rfl (t6) ?_
      refine x_if_eq hm rfl (t := 68) rfl (fun h3 => ?_) (fun h3 => ?_)
      · have hv : nI 0 = bI (mayC a1 a2) := bI_f fun q => bI_eq0.mp h3 ((mayC_e (ts_ne h1).1 (ts_ne h1).2.1 (ts_ne h1).2.2).mp q).2
        refine x_iconst hm rfl (v := nI 0) (by decide) ?_
        refine x_iret hm rfl rfl (by first | rfl | exact bI_nar | decide) ?_
        exact qt (congrArg Value.int hv)
      · have hv : nI 1 = bI (mayC a1 a2) := bI_t ((mayC_e (ts_ne h1).1 (ts_ne h1).2.1 (ts_ne h1).2.2).mpr ⟨h36, bI_ne0 h3⟩)
        refine x_iconst hm rfl (v := nI 1) (by decide) ?_
        refine x_goto hm rfl (t := 69) rfl ?_
        refine x_iret hm rfl rfl (by first | rfl | exact bI_nar | decide) ?_
        exact qt (congrArg Value.int hv)
  · have k1 : i1 = 0 ∨ i1 = 1 ∨ i1 = 2 := by omega
    rcases k1 with rfl | rfl | rfl
    · refine ⟨_, 28, rfl, rfl, ?_⟩
      refine x_iload_n hm rfl rfl ?_
      refine x_iconst hm rfl (v := nI 0) (by decide) ?_
      refine x_bipush hm rfl (v := nI 6) (by decide) ?_
      refine x_callS hm rfl rfl (t6) ?_
      refine x_iret hm rfl rfl (by first | rfl | exact bI_nar | decide) ?_
      exact qt (congrArg Value.int (bIc (mayC_0 ((tn h1 (by decide)).trans (by decide)))))
    · refine ⟨_, 36, rfl, rfl, ?_⟩
      refine x_iload_n hm rfl rfl ?_
      refine x_iconst hm rfl (v := nI 0) (by decide) ?_
      refine x_bipush hm rfl (v := nI 15) (by decide) ?_
      refine x_callS hm rfl rfl (t6) ?_
      refine x_iret hm rfl rfl (by first | rfl | exact bI_nar | decide) ?_
      first
        | exact qt (congrArg Value.int (bIc (mayC_12 (Or.inl (tn h1 (by decide))))))
        | exact qt (congrArg Value.int (bIc (mayC_12 (Or.inr (tn h1 (by decide))))))
    · refine ⟨_, 36, rfl, rfl, ?_⟩
      refine x_iload_n hm rfl rfl ?_
      refine x_iconst hm rfl (v := nI 0) (by decide) ?_
      refine x_bipush hm rfl (v := nI 15) (by decide) ?_
      refine x_callS hm rfl rfl (t6) ?_
      refine x_iret hm rfl rfl (by first | rfl | exact bI_nar | decide) ?_
      first
        | exact qt (congrArg Value.int (bIc (mayC_12 (Or.inl (tn h1 (by decide))))))
        | exact qt (congrArg Value.int (bIc (mayC_12 (Or.inr (tn h1 (by decide))))))
theorem g26 {a1 a2 a3 : Int32} (hR : Rel 1 nt np M r) (hn8 : nt ≤ 8) (hp8 : np ≤ 8) : ∃ v M', mT X 26 [.ref 0, .int a1, .int a2, .int a3] (con M) (some (.int v)) (con M') ∧ Tq (fChange nt np r a1 a2 a3) v M M' := by
  refine ti_of (row := _) rfl (Nat.le_of_ble_eq_true rfl) ?_
  have hm : mMet 26 = some _ := rfl
  refine x_aload_n hm rfl rfl ?_
  refine x_getf hm rfl (gR rfl rfl) ?_
  refine x_iload_n hm rfl rfl ?_
  refine x_callV hm rfl rfl (t19 (by decide)) ?_
  rw [hR.2.1]
  refine x_if_eq hm rfl (t := 19) rfl (fun h1 => ?_) (fun h1 => ?_)
  · refine x_aload_n hm rfl rfl ?_
    refine x_ldcI hm rfl (v := (-1000001 : Int32)) (by decide +kernel) ?_
    refine x_cVi hm rfl rfl (t7 (by decide +kernel)) (fun v2 M2 r2 => ?_)
    refine x_iret hm rfl rfl (by first | rfl | exact bI_nar | decide) ?_
    first
      | (have hq : fChange nt np r a1 a2 a3 = (-1000001, nt, np, r) := by
           unfold fChange
           rw [if_pos (by assumption)]
         exact ⟨_, _, rfl, rfl, by rw [hq]; exact ⟨r2.1, hR.bq r2.2⟩⟩)
      | (have hq : fChange nt np r (nI p) a2 a3 = (-1000001, nt, np, r) := by
           unfold fChange
           rw [if_neg (by assumption), if_pos (by assumption)]
         exact ⟨_, _, rfl, rfl, by rw [hq]; exact ⟨r2.1, hR.bq r2.2⟩⟩)
      | (have hq : fChange nt np r a1 a2 a3 = (-1000001, nt, np, r) := by
           unfold fChange
           rw [if_pos (by assumption)]
         exact ⟨_, _, rfl, rfl, by rw [hq]; exact ⟨r1.1, hR.bq r1.2⟩⟩)
      | (have hq : fChange nt np r a1 a2 a3 = (-1000001, nt, np, r) := by
           unfold fChange
           rw [if_pos (by assumption)]
         exact ⟨_, _, rfl, rfl, by rw [hq]; exact ⟨r3.1, hR.bq r3.2⟩⟩)
      | (have hq : fChange nt np r a1 a2 a3 = (-1000001, nt, np, r) := by
           unfold fChange
           rw [if_pos (by assumption)]
         exact ⟨_, _, rfl, rfl, by rw [hq]; exact ⟨r4.1, hR.bq r4.2⟩⟩)
      | (have hq : fChange nt np r a1 a2 a3 = (-1000001, nt, np, r) := by
           unfold fChange
           rw [if_pos (by assumption)]
         exact ⟨_, _, rfl, rfl, by rw [hq]; exact ⟨r5.1, hR.bq r5.2⟩⟩)
      | (have hq : fChange nt np r a1 a2 a3 = (-1000001, nt, np, r) := by
           unfold fChange
           rw [if_pos (by assumption)]
         exact ⟨_, _, rfl, rfl, by rw [hq]; exact ⟨r6.1, hR.bq r6.2⟩⟩)
      | (have hq : fChange nt np r a1 a2 a3 = (-1000001, nt, np, r) := by
           unfold fChange
           rw [if_pos (by assumption)]
         exact ⟨_, _, rfl, rfl, by rw [hq]; exact ⟨r7.1, hR.bq r7.2⟩⟩)
      | (have hq : fChange nt np r a1 a2 a3 = (-1000001, nt, np, r) := by
           unfold fChange
           rw [if_pos (by assumption)]
         exact ⟨_, _, rfl, rfl, by rw [hq]; exact ⟨r8.1, hR.bq r8.2⟩⟩)
      | (have hq : fChange nt np r (nI p) a2 a3 = (-1000001, nt, np, r) := by
           unfold fChange
           rw [if_neg (by assumption), if_pos (by assumption)]
         exact ⟨_, _, rfl, rfl, by rw [hq]; exact ⟨r1.1, hR.bq r1.2⟩⟩)
      | (have hq : fChange nt np r (nI p) a2 a3 = (-1000001, nt, np, r) := by
           unfold fChange
           rw [if_neg (by assumption), if_pos (by assumption)]
         exact ⟨_, _, rfl, rfl, by rw [hq]; exact ⟨r3.1, hR.bq r3.2⟩⟩)
      | (have hq : fChange nt np r (nI p) a2 a3 = (-1000001, nt, np, r) := by
           unfold fChange
           rw [if_neg (by assumption), if_pos (by assumption)]
         exact ⟨_, _, rfl, rfl, by rw [hq]; exact ⟨r4.1, hR.bq r4.2⟩⟩)
      | (have hq : fChange nt np r (nI p) a2 a3 = (-1000001, nt, np, r) := by
           unfold fChange
           rw [if_neg (by assumption), if_pos (by assumption)]
         exact ⟨_, _, rfl, rfl, by rw [hq]; exact ⟨r5.1, hR.bq r5.2⟩⟩)
      | (have hq : fChange nt np r (nI p) a2 a3 = (-1000001, nt, np, r) := by
           unfold fChange
           rw [if_neg (by assumption), if_pos (by assumption)]
         exact ⟨_, _, rfl, rfl, by rw [hq]; exact ⟨r6.1, hR.bq r6.2⟩⟩)
      | (have hq : fChange nt np r (nI p) a2 a3 = (-1000001, nt, np, r) := by
           unfold fChange
           rw [if_neg (by assumption), if_pos (by assumption)]
         exact ⟨_, _, rfl, rfl, by rw [hq]; exact ⟨r7.1, hR.bq r7.2⟩⟩)
      | (have hq : fChange nt np r (nI p) a2 a3 = (-1000001, nt, np, r) := by
           unfold fChange
           rw [if_neg (by assumption), if_pos (by assumption)]
         exact ⟨_, _, rfl, rfl, by rw [hq]; exact ⟨r8.1, hR.bq r8.2⟩⟩)
  · obtain ⟨p, hp, rfl⟩ := in_k rfl (by omega) (bI_ne0 h1)
    refine x_iload_n hm rfl rfl ?_
    refine x_iload_n hm rfl rfl ?_
    refine x_callS hm rfl rfl (g27) ?_
    refine x_if_ne hm rfl (t := 26) rfl (fun h3 => ?_) (fun h3 => ?_)
    · obtain ⟨f, hf, rfl⟩ := mayC_f (bI_ne0 h3)
      refine x_aload_n hm rfl rfl ?_
      refine x_getf hm rfl (gR rfl rfl) ?_
      refine x_getf hm rfl (gR rfl rfl) ?_
      refine x_iload_n hm rfl rfl ?_
      refine x_aald hm rfl (lQ 3 (Or.inr (Or.inl rfl)) (tF (b := 1) (by decide)) (tFk (by omega)) (by omega) (by decide)) ?_
      refine x_iload_n hm rfl rfl ?_
      refine x_iald hm rfl (lI (tRowF (b := 1) (by decide) (by omega)) (by omega) (by decide)) ?_
      refine x_istore hm rfl rfl ?_
      refine x_aload_n hm rfl rfl ?_
      refine x_getf hm rfl (gR rfl rfl) ?_
      refine x_getf hm rfl (gR rfl rfl) ?_
      refine x_iload_n hm rfl rfl ?_
      refine x_aald hm rfl (lQ 3 (Or.inr (Or.inl rfl)) (tF (b := 1) (by decide)) (tFk (by omega)) (by omega) (by decide)) ?_
      refine x_iload_n hm rfl rfl ?_
      refine x_iload_n hm rfl rfl ?_
      refine x_iast hm rfl (sI (tRowF (b := 1) (by decide) (by omega)) (by omega) (by decide)) ?_
      refine x_iload hm rfl rfl ?_
      refine x_iret hm rfl rfl (by first | rfl | exact bI_nar | decide) ?_
      have hq : fChange nt np r (nI p) (nI f) a3 = (r (62 + 7 * p + f), nt, np, put1 r (62 + 7 * p + f) a3) := by
        unfold fChange
        rw [if_neg (by assumption), if_neg (by assumption)]
        rw [jI_nat (k := p) (by omega)]
        rw [jI_nat (k := f) (by omega)]
      exact ⟨_, _, rfl, rfl, by rw [hq]; exact ⟨hR.folk hf hp, (hR.pf hn8 hf hp).tm (mpn (by omega)) (fun a ha => mpo (by omega))⟩⟩
    · refine x_aload_n hm rfl rfl ?_
      refine x_ldcI hm rfl (v := (-1000001 : Int32)) (by decide +kernel) ?_
      refine x_cVi hm rfl rfl (t7 (by decide +kernel)) (fun v4 M4 r4 => ?_)
      refine x_iret hm rfl rfl (by first | rfl | exact bI_nar | decide) ?_
      first
        | (have hq : fChange nt np r a1 a2 a3 = (-1000001, nt, np, r) := by
             unfold fChange
             rw [if_pos (by assumption)]
           exact ⟨_, _, rfl, rfl, by rw [hq]; exact ⟨r4.1, hR.bq r4.2⟩⟩)
        | (have hq : fChange nt np r (nI p) a2 a3 = (-1000001, nt, np, r) := by
             unfold fChange
             rw [if_neg (by assumption), if_pos (by assumption)]
           exact ⟨_, _, rfl, rfl, by rw [hq]; exact ⟨r4.1, hR.bq r4.2⟩⟩)
        | (have hq : fChange nt np r a1 a2 a3 = (-1000001, nt, np, r) := by
             unfold fChange
             rw [if_pos (by assumption)]
           exact ⟨_, _, rfl, rfl, by rw [hq]; exact ⟨r1.1, hR.bq r1.2⟩⟩)
        | (have hq : fChange nt np r a1 a2 a3 = (-1000001, nt, np, r) := by
             unfold fChange
             rw [if_pos (by assumption)]
           exact ⟨_, _, rfl, rfl, by rw [hq]; exact ⟨r2.1, hR.bq r2.2⟩⟩)
        | (have hq : fChange nt np r a1 a2 a3 = (-1000001, nt, np, r) := by
             unfold fChange
             rw [if_pos (by assumption)]
           exact ⟨_, _, rfl, rfl, by rw [hq]; exact ⟨r3.1, hR.bq r3.2⟩⟩)
        | (have hq : fChange nt np r a1 a2 a3 = (-1000001, nt, np, r) := by
             unfold fChange
             rw [if_pos (by assumption)]
           exact ⟨_, _, rfl, rfl, by rw [hq]; exact ⟨r5.1, hR.bq r5.2⟩⟩)
        | (have hq : fChange nt np r a1 a2 a3 = (-1000001, nt, np, r) := by
             unfold fChange
             rw [if_pos (by assumption)]
           exact ⟨_, _, rfl, rfl, by rw [hq]; exact ⟨r6.1, hR.bq r6.2⟩⟩)
        | (have hq : fChange nt np r a1 a2 a3 = (-1000001, nt, np, r) := by
             unfold fChange
             rw [if_pos (by assumption)]
           exact ⟨_, _, rfl, rfl, by rw [hq]; exact ⟨r7.1, hR.bq r7.2⟩⟩)
        | (have hq : fChange nt np r a1 a2 a3 = (-1000001, nt, np, r) := by
             unfold fChange
             rw [if_pos (by assumption)]
           exact ⟨_, _, rfl, rfl, by rw [hq]; exact ⟨r8.1, hR.bq r8.2⟩⟩)
        | (have hq : fChange nt np r (nI p) a2 a3 = (-1000001, nt, np, r) := by
             unfold fChange
             rw [if_neg (by assumption), if_pos (by assumption)]
           exact ⟨_, _, rfl, rfl, by rw [hq]; exact ⟨r1.1, hR.bq r1.2⟩⟩)
        | (have hq : fChange nt np r (nI p) a2 a3 = (-1000001, nt, np, r) := by
             unfold fChange
             rw [if_neg (by assumption), if_pos (by assumption)]
           exact ⟨_, _, rfl, rfl, by rw [hq]; exact ⟨r2.1, hR.bq r2.2⟩⟩)
        | (have hq : fChange nt np r (nI p) a2 a3 = (-1000001, nt, np, r) := by
             unfold fChange
             rw [if_neg (by assumption), if_pos (by assumption)]
           exact ⟨_, _, rfl, rfl, by rw [hq]; exact ⟨r3.1, hR.bq r3.2⟩⟩)
        | (have hq : fChange nt np r (nI p) a2 a3 = (-1000001, nt, np, r) := by
             unfold fChange
             rw [if_neg (by assumption), if_pos (by assumption)]
           exact ⟨_, _, rfl, rfl, by rw [hq]; exact ⟨r5.1, hR.bq r5.2⟩⟩)
        | (have hq : fChange nt np r (nI p) a2 a3 = (-1000001, nt, np, r) := by
             unfold fChange
             rw [if_neg (by assumption), if_pos (by assumption)]
           exact ⟨_, _, rfl, rfl, by rw [hq]; exact ⟨r6.1, hR.bq r6.2⟩⟩)
        | (have hq : fChange nt np r (nI p) a2 a3 = (-1000001, nt, np, r) := by
             unfold fChange
             rw [if_neg (by assumption), if_pos (by assumption)]
           exact ⟨_, _, rfl, rfl, by rw [hq]; exact ⟨r7.1, hR.bq r7.2⟩⟩)
        | (have hq : fChange nt np r (nI p) a2 a3 = (-1000001, nt, np, r) := by
             unfold fChange
             rw [if_neg (by assumption), if_pos (by assumption)]
           exact ⟨_, _, rfl, rfl, by rw [hq]; exact ⟨r8.1, hR.bq r8.2⟩⟩)
end EK
