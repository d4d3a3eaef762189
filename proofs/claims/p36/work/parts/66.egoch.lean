/-! ===== change, go, strolls ===== -/
abbrev mayC (a v : Int32) : Prop := (a = 0 ∧ (nI 0 ≤ v ∧ v ≤ nI 6)) ∨ ((a = nI 1 ∨ a = nI 2) ∧ (nI 0 ≤ v ∧ v ≤ nI 15)) ∨ ((nI 3 ≤ a ∧ a ≤ nI 6) ∧ (nI 0 ≤ v ∧ v ≤ nI 9))
def fChange (nt np : Nat) (r : Nat → Int32) (a1 a2 a3 : Int32) : Sq4 :=
  if bI (nI 0 ≤ a1 ∧ a1 ≤ nI np - nI 1) = 0 then (-1000001, nt, np, r) else if bI (mayC a2 a3) = 0 then (-1000001, nt, np, r) else (r (62 + 7 * a1.toNatClampNeg + a2.toNatClampNeg), nt, np, put1 r (62 + 7 * a1.toNatClampNeg + a2.toNatClampNeg) a3)
theorem bIc {p q : Prop} [Decidable p] [Decidable q] (h : p ↔ q) : bI p = bI q := by
  by_cases g : p
  · exact (bI_t g).symm.trans (bI_t (h.mp g))
  · exact (bI_f g).symm.trans (bI_f fun z => g (h.mpr z))
theorem le36 {a : Int32} (h : nI 3 ≤ a ∧ a ≤ nI 6) : 3 ≤ a.toInt ∧ a.toInt ≤ 6 := by
  have h1 := Int32.le_iff_toInt_le.mp h.1
  have h2 := Int32.le_iff_toInt_le.mp h.2
  rw [jI_int (by decide)] at h1 h2
  omega
theorem mayC_0 {a v : Int32} (h : a = 0) : (nI 0 ≤ v ∧ v ≤ nI 6) ↔ mayC a v := by
  subst h
  refine ⟨fun g => Or.inl ⟨rfl, g⟩, fun g => ?_⟩
  rcases g with g | ⟨g, -⟩ | ⟨g, -⟩
  · exact g.2
  · exact absurd g (by decide)
  · exact absurd g (by decide)
theorem mayC_12 {a v : Int32} (h : a = nI 1 ∨ a = nI 2) : (nI 0 ≤ v ∧ v ≤ nI 15) ↔ mayC a v := by
  refine ⟨fun g => Or.inr (Or.inl ⟨h, g⟩), fun g => ?_⟩
  rcases g with ⟨rfl, -⟩ | g | ⟨g, -⟩
  · exact absurd h (by decide)
  · exact g.2
  · rcases h with rfl | rfl <;> exact absurd g (by decide)
theorem mayC_e {a v : Int32} (h0 : ¬ a = 0) (h1 : ¬ a = nI 1) (h2 : ¬ a = nI 2) : mayC a v ↔ ((nI 3 ≤ a ∧ a ≤ nI 6) ∧ (nI 0 ≤ v ∧ v ≤ nI 9)) := by
  refine ⟨fun g => ?_, fun g => Or.inr (Or.inr g)⟩
  rcases g with ⟨g, -⟩ | ⟨g, -⟩ | g
  · exact absurd g h0
  · rcases g with g | g
    · exact absurd g h1
    · exact absurd g h2
  · exact g
theorem ts_ne {a : Int32} (h : a.toInt < 0 ∨ 2 < a.toInt) : ¬ a = 0 ∧ ¬ a = nI 1 ∧ ¬ a = nI 2 := by
  refine ⟨fun e => ?_, fun e => ?_, fun e => ?_⟩ <;> subst e <;> exact absurd h (by decide)
theorem mayC_f {a v : Int32} (h : mayC a v) : ∃ f, f < 7 ∧ a = nI f := by
  rcases h with ⟨rfl, -⟩ | ⟨rfl | rfl, -⟩ | ⟨g, -⟩
  · exact ⟨0, by decide, rfl⟩
  · exact ⟨1, by decide, rfl⟩
  · exact ⟨2, by decide, rfl⟩
  · obtain ⟨k, hk, e⟩ := bt_k (by decide) (by decide) g
    exact ⟨k, by omega, e⟩
section EK
variable {X : mSc} {Q : Option Value → mHp → Prop} {M : mM} {nt np : Nat} {r : Nat → Int32}
theorem Tc.tm {q : Nat → Int32} {N : mM} (h : Tc 1 nt np q M N) : Tm nt np q M N := h.1.tm h.2.1 (fun a ha => h.2.2 a (by omega))
theorem g27 {a1 a2 : Int32} : mT X 27 [.int a1, .int a2] (con M) (some (.int (bI (mayC a1 a2)))) (con M) := by
  refine mT.of (row := _) rfl (Nat.le_of_ble_eq_true rfl) ?_
  have hm : mMet 27 = some _ := rfl
  refine x_iload_n hm rfl rfl ?_
  refine x_ts hm rfl (fun h1 => ⟨44, rfl, ?_⟩) (fun i1 h1 g1 => ?_)
  · refine x_iload_n hm rfl rfl ?_
    refine x_iconst hm rfl (v := nI 3) (by decide) ?_
    refine x_bipush hm rfl (v := nI 6) (by decide) ?_
    refine x_callS hm rfl rfl (t6) ?_
    refine x_if_eq hm rfl (t := 68) rfl (fun h2 => ?_) (fun h2 => ?_)
    · have hv : nI 0 = bI (mayC a1 a2) := bI_f fun q => bI_eq0.mp h2 ((mayC_e (ts_ne h1).1 (ts_ne h1).2.1 (ts_ne h1).2.2).mp q).1
      refine x_iconst hm rfl (v := nI 0) (by decide) ?_
      refine x_iret hm rfl rfl (by first | rfl | exact bI_nar | decide) ?_
      exact qt (congrArg Value.int hv)
    · have h36 := bI_ne0 h2
      refine x_iload_n hm rfl rfl ?_
      refine x_iconst hm rfl (v := nI 0) (by decide) ?_
      refine x_bipush hm rfl (v := nI 9) (by decide) ?_
      refine x_callS hm rfl rfl (t6) ?_
      refine x_if_eq hm rfl (t := 68) rfl (fun h3 => ?_) (fun h3 => ?_)
      · have hv : nI 0 = bI (mayC a1 a2) := bI_f fun q => bI_eq0.mp h3 ((mayC_e (ts_ne h1).1 (ts_ne h1).2.1 (ts_ne h1).2.2).mp q).2
        refine x_iconst hm rfl (v := nI 0) (by decide) ?_
        refine x_iret hm rfl rfl (by first | rfl | exact bI_nar | decide) ?_
        exact qt (congrArg Value.int hv)
      · have hv : nI 1 = bI (mayC a1 a2) := bI_t ((mayC_e (ts_ne h1).1 (ts_ne h1).2.1 (ts_ne h1).2.2).mpr ⟨h36, bI_ne0 h3⟩)
        refine x_iconst hm rfl (v := nI 1) (by decide) ?_
        refine x_goto hm rfl (t := 69) rfl ?_
        refine x_iret hm rfl rfl (by first | rfl | exact bI_nar | decide) ?_
        exact qt (congrArg Value.int hv)
  · have k1 : i1 = 0 ∨ i1 = 1 ∨ i1 = 2 := by omega
    rcases k1 with rfl | rfl | rfl
    · refine ⟨_, 28, rfl, rfl, ?_⟩
      refine x_iload_n hm rfl rfl ?_
      refine x_iconst hm rfl (v := nI 0) (by decide) ?_
      refine x_bipush hm rfl (v := nI 6) (by decide) ?_
      refine x_callS hm rfl rfl (t6) ?_
      refine x_iret hm rfl rfl (by first | rfl | exact bI_nar | decide) ?_
      exact qt (congrArg Value.int (bIc (mayC_0 ((tn h1 (by decide)).trans (by decide)))))
    · refine ⟨_, 36, rfl, rfl, ?_⟩
      refine x_iload_n hm rfl rfl ?_
      refine x_iconst hm rfl (v := nI 0) (by decide) ?_
      refine x_bipush hm rfl (v := nI 15) (by decide) ?_
      refine x_callS hm rfl rfl (t6) ?_
      refine x_iret hm rfl rfl (by first | rfl | exact bI_nar | decide) ?_
      first
        | exact qt (congrArg Value.int (bIc (mayC_12 (Or.inl (tn h1 (by decide))))))
        | exact qt (congrArg Value.int (bIc (mayC_12 (Or.inr (tn h1 (by decide))))))
    · refine ⟨_, 36, rfl, rfl, ?_⟩
      refine x_iload_n hm rfl rfl ?_
      refine x_iconst hm rfl (v := nI 0) (by decide) ?_
      refine x_bipush hm rfl (v := nI 15) (by decide) ?_
      refine x_callS hm rfl rfl (t6) ?_
      refine x_iret hm rfl rfl (by first | rfl | exact bI_nar | decide) ?_
      first
        | exact qt (congrArg Value.int (bIc (mayC_12 (Or.inl (tn h1 (by decide))))))
        | exact qt (congrArg Value.int (bIc (mayC_12 (Or.inr (tn h1 (by decide))))))
theorem g26 {a1 a2 a3 : Int32} (hR : Rel 1 nt np M r) (hn8 : nt ≤ 8) (hp8 : np ≤ 8) : ∃ v M', mT X 26 [.ref 0, .int a1, .int a2, .int a3] (con M) (some (.int v)) (con M') ∧ Tq (fChange nt np r a1 a2 a3) v M M' := by
  refine ti_of (row := _) rfl (Nat.le_of_ble_eq_true rfl) ?_
  have hm : mMet 26 = some _ := rfl
  refine x_aload_n hm rfl rfl ?_
  refine x_getf hm rfl (gR rfl rfl) ?_
  refine x_iload_n hm rfl rfl ?_
  refine x_callV hm rfl rfl (t19 (by decide)) ?_
  rw [hR.2.1]
  refine x_if_eq hm rfl (t := 19) rfl (fun h1 => ?_) (fun h1 => ?_)
  · refine x_aload_n hm rfl rfl ?_
    refine x_ldcI hm rfl (v := (-1000001 : Int32)) (by decide +kernel) ?_
    refine x_cVi hm rfl rfl (t7 (by decide +kernel)) (fun v2 M2 r2 => ?_)
    refine x_iret hm rfl rfl (by first | rfl | exact bI_nar | decide) ?_
    first
      | (have hq : fChange nt np r a1 a2 a3 = (-1000001, nt, np, r) := by
           unfold fChange
           rw [if_pos (by assumption)]
         exact ⟨_, _, rfl, rfl, by rw [hq]; exact ⟨r2.1, hR.bq r2.2⟩⟩)
      | (have hq : fChange nt np r (nI p) a2 a3 = (-1000001, nt, np, r) := by
           unfold fChange
           rw [if_neg (by assumption), if_pos (by assumption)]
         exact ⟨_, _, rfl, rfl, by rw [hq]; exact ⟨r2.1, hR.bq r2.2⟩⟩)
      | (have hq : fChange nt np r a1 a2 a3 = (-1000001, nt, np, r) := by
           unfold fChange
           rw [if_pos (by assumption)]
         exact ⟨_, _, rfl, rfl, by rw [hq]; exact ⟨r1.1, hR.bq r1.2⟩⟩)
      | (have hq : fChange nt np r a1 a2 a3 = (-1000001, nt, np, r) := by
           unfold fChange
           rw [if_pos (by assumption)]
         exact ⟨_, _, rfl, rfl, by rw [hq]; exact ⟨r3.1, hR.bq r3.2⟩⟩)
      | (have hq : fChange nt np r a1 a2 a3 = (-1000001, nt, np, r) := by
           unfold fChange
           rw [if_pos (by assumption)]
         exact ⟨_, _, rfl, rfl, by rw [hq]; exact ⟨r4.1, hR.bq r4.2⟩⟩)
      | (have hq : fChange nt np r a1 a2 a3 = (-1000001, nt, np, r) := by
           unfold fChange
           rw [if_pos (by assumption)]
         exact ⟨_, _, rfl, rfl, by rw [hq]; exact ⟨r5.1, hR.bq r5.2⟩⟩)
      | (have hq : fChange nt np r a1 a2 a3 = (-1000001, nt, np, r) := by
           unfold fChange
           rw [if_pos (by assumption)]
         exact ⟨_, _, rfl, rfl, by rw [hq]; exact ⟨r6.1, hR.bq r6.2⟩⟩)
      | (have hq : fChange nt np r a1 a2 a3 = (-1000001, nt, np, r) := by
           unfold fChange
           rw [if_pos (by assumption)]
         exact ⟨_, _, rfl, rfl, by rw [hq]; exact ⟨r7.1, hR.bq r7.2⟩⟩)
      | (have hq : fChange nt np r a1 a2 a3 = (-1000001, nt, np, r) := by
           unfold fChange
           rw [if_pos (by assumption)]
         exact ⟨_, _, rfl, rfl, by rw [hq]; exact ⟨r8.1, hR.bq r8.2⟩⟩)
      | (have hq : fChange nt np r (nI p) a2 a3 = (-1000001, nt, np, r) := by
           unfold fChange
           rw [if_neg (by assumption), if_pos (by assumption)]
         exact ⟨_, _, rfl, rfl, by rw [hq]; exact ⟨r1.1, hR.bq r1.2⟩⟩)
      | (have hq : fChange nt np r (nI p) a2 a3 = (-1000001, nt, np, r) := by
           unfold fChange
           rw [if_neg (by assumption), if_pos (by assumption)]
         exact ⟨_, _, rfl, rfl, by rw [hq]; exact ⟨r3.1, hR.bq r3.2⟩⟩)
      | (have hq : fChange nt np r (nI p) a2 a3 = (-1000001, nt, np, r) := by
           unfold fChange
           rw [if_neg (by assumption), if_pos (by assumption)]
         exact ⟨_, _, rfl, rfl, by rw [hq]; exact ⟨r4.1, hR.bq r4.2⟩⟩)
      | (have hq : fChange nt np r (nI p) a2 a3 = (-1000001, nt, np, r) := by
           unfold fChange
           rw [if_neg (by assumption), if_pos (by assumption)]
         exact ⟨_, _, rfl, rfl, by rw [hq]; exact ⟨r5.1, hR.bq r5.2⟩⟩)
      | (have hq : fChange nt np r (nI p) a2 a3 = (-1000001, nt, np, r) := by
           unfold fChange
           rw [if_neg (by assumption), if_pos (by assumption)]
         exact ⟨_, _, rfl, rfl, by rw [hq]; exact ⟨r6.1, hR.bq r6.2⟩⟩)
      | (have hq : fChange nt np r (nI p) a2 a3 = (-1000001, nt, np, r) := by
           unfold fChange
           rw [if_neg (by assumption), if_pos (by assumption)]
         exact ⟨_, _, rfl, rfl, by rw [hq]; exact ⟨r7.1, hR.bq r7.2⟩⟩)
      | (have hq : fChange nt np r (nI p) a2 a3 = (-1000001, nt, np, r) := by
           unfold fChange
           rw [if_neg (by assumption), if_pos (by assumption)]
         exact ⟨_, _, rfl, rfl, by rw [hq]; exact ⟨r8.1, hR.bq r8.2⟩⟩)
  · obtain ⟨p, hp, rfl⟩ := in_k rfl (by omega) (bI_ne0 h1)
    refine x_iload_n hm rfl rfl ?_
    refine x_iload_n hm rfl rfl ?_
    refine x_callS hm rfl rfl (g27) ?_
    refine x_if_ne hm rfl (t := 26) rfl (fun h3 => ?_) (fun h3 => ?_)
    · obtain ⟨f, hf, rfl⟩ := mayC_f (bI_ne0 h3)
      refine x_aload_n hm rfl rfl ?_
      refine x_getf hm rfl (gR rfl rfl) ?_
      refine x_getf hm rfl (gR rfl rfl) ?_
      refine x_iload_n hm rfl rfl ?_
      refine x_aald hm rfl (lQ 3 (Or.inr (Or.inl rfl)) (tF (b := 1) (by decide)) (tFk (by omega)) (by omega) (by decide)) ?_
      refine x_iload_n hm rfl rfl ?_
      refine x_iald hm rfl (lI (tRowF (b := 1) (by decide) (by omega)) (by omega) (by decide)) ?_
      refine x_istore hm rfl rfl ?_
      refine x_aload_n hm rfl rfl ?_
      refine x_getf hm rfl (gR rfl rfl) ?_
      refine x_getf hm rfl (gR rfl rfl) ?_
      refine x_iload_n hm rfl rfl ?_
      refine x_aald hm rfl (lQ 3 (Or.inr (Or.inl rfl)) (tF (b := 1) (by decide)) (tFk (by omega)) (by omega) (by decide)) ?_
      refine x_iload_n hm rfl rfl ?_
      refine x_iload_n hm rfl rfl ?_
      refine x_iast hm rfl (sI (tRowF (b := 1) (by decide) (by omega)) (by omega) (by decide)) ?_
      refine x_iload hm rfl rfl ?_
      refine x_iret hm rfl rfl (by first | rfl | exact bI_nar | decide) ?_
      have hq : fChange nt np r (nI p) (nI f) a3 = (r (62 + 7 * p + f), nt, np, put1 r (62 + 7 * p + f) a3) := by
        unfold fChange
        rw [if_neg (by assumption), if_neg (by assumption)]
        rw [jI_nat (k := p) (by omega)]
        rw [jI_nat (k := f) (by omega)]
      exact ⟨_, _, rfl, rfl, by rw [hq]; exact ⟨hR.folk hf hp, (hR.pf hn8 hf hp).tm (mpn (by omega)) (fun a ha => mpo (by omega))⟩⟩
    · refine x_aload_n hm rfl rfl ?_
      refine x_ldcI hm rfl (v := (-1000001 : Int32)) (by decide +kernel) ?_
      refine x_cVi hm rfl rfl (t7 (by decide +kernel)) (fun v4 M4 r4 => ?_)
      refine x_iret hm rfl rfl (by first | rfl | exact bI_nar | decide) ?_
      first
        | (have hq : fChange nt np r a1 a2 a3 = (-1000001, nt, np, r) := by
             unfold fChange
             rw [if_pos (by assumption)]
           exact ⟨_, _, rfl, rfl, by rw [hq]; exact ⟨r4.1, hR.bq r4.2⟩⟩)
        | (have hq : fChange nt np r (nI p) a2 a3 = (-1000001, nt, np, r) := by
             unfold fChange
             rw [if_neg (by assumption), if_pos (by assumption)]
           exact ⟨_, _, rfl, rfl, by rw [hq]; exact ⟨r4.1, hR.bq r4.2⟩⟩)
        | (have hq : fChange nt np r a1 a2 a3 = (-1000001, nt, np, r) := by
             unfold fChange
             rw [if_pos (by assumption)]
           exact ⟨_, _, rfl, rfl, by rw [hq]; exact ⟨r1.1, hR.bq r1.2⟩⟩)
        | (have hq : fChange nt np r a1 a2 a3 = (-1000001, nt, np, r) := by
             unfold fChange
             rw [if_pos (by assumption)]
           exact ⟨_, _, rfl, rfl, by rw [hq]; exact ⟨r2.1, hR.bq r2.2⟩⟩)
        | (have hq : fChange nt np r a1 a2 a3 = (-1000001, nt, np, r) := by
             unfold fChange
             rw [if_pos (by assumption)]
           exact ⟨_, _, rfl, rfl, by rw [hq]; exact ⟨r3.1, hR.bq r3.2⟩⟩)
        | (have hq : fChange nt np r a1 a2 a3 = (-1000001, nt, np, r) := by
             unfold fChange
             rw [if_pos (by assumption)]
           exact ⟨_, _, rfl, rfl, by rw [hq]; exact ⟨r5.1, hR.bq r5.2⟩⟩)
        | (have hq : fChange nt np r a1 a2 a3 = (-1000001, nt, np, r) := by
             unfold fChange
             rw [if_pos (by assumption)]
           exact ⟨_, _, rfl, rfl, by rw [hq]; exact ⟨r6.1, hR.bq r6.2⟩⟩)
        | (have hq : fChange nt np r a1 a2 a3 = (-1000001, nt, np, r) := by
             unfold fChange
             rw [if_pos (by assumption)]
           exact ⟨_, _, rfl, rfl, by rw [hq]; exact ⟨r7.1, hR.bq r7.2⟩⟩)
        | (have hq : fChange nt np r a1 a2 a3 = (-1000001, nt, np, r) := by
             unfold fChange
             rw [if_pos (by assumption)]
           exact ⟨_, _, rfl, rfl, by rw [hq]; exact ⟨r8.1, hR.bq r8.2⟩⟩)
        | (have hq : fChange nt np r (nI p) a2 a3 = (-1000001, nt, np, r) := by
             unfold fChange
             rw [if_neg (by assumption), if_pos (by assumption)]
           exact ⟨_, _, rfl, rfl, by rw [hq]; exact ⟨r1.1, hR.bq r1.2⟩⟩)
        | (have hq : fChange nt np r (nI p) a2 a3 = (-1000001, nt, np, r) := by
             unfold fChange
             rw [if_neg (by assumption), if_pos (by assumption)]
           exact ⟨_, _, rfl, rfl, by rw [hq]; exact ⟨r2.1, hR.bq r2.2⟩⟩)
        | (have hq : fChange nt np r (nI p) a2 a3 = (-1000001, nt, np, r) := by
             unfold fChange
             rw [if_neg (by assumption), if_pos (by assumption)]
           exact ⟨_, _, rfl, rfl, by rw [hq]; exact ⟨r3.1, hR.bq r3.2⟩⟩)
        | (have hq : fChange nt np r (nI p) a2 a3 = (-1000001, nt, np, r) := by
             unfold fChange
             rw [if_neg (by assumption), if_pos (by assumption)]
           exact ⟨_, _, rfl, rfl, by rw [hq]; exact ⟨r5.1, hR.bq r5.2⟩⟩)
        | (have hq : fChange nt np r (nI p) a2 a3 = (-1000001, nt, np, r) := by
             unfold fChange
             rw [if_neg (by assumption), if_pos (by assumption)]
           exact ⟨_, _, rfl, rfl, by rw [hq]; exact ⟨r6.1, hR.bq r6.2⟩⟩)
        | (have hq : fChange nt np r (nI p) a2 a3 = (-1000001, nt, np, r) := by
             unfold fChange
             rw [if_neg (by assumption), if_pos (by assumption)]
           exact ⟨_, _, rfl, rfl, by rw [hq]; exact ⟨r7.1, hR.bq r7.2⟩⟩)
        | (have hq : fChange nt np r (nI p) a2 a3 = (-1000001, nt, np, r) := by
             unfold fChange
             rw [if_neg (by assumption), if_pos (by assumption)]
           exact ⟨_, _, rfl, rfl, by rw [hq]; exact ⟨r8.1, hR.bq r8.2⟩⟩)
theorem g161 {a1 a2 a3 : Int32} (h67 : M 67 = r) (hnt : M 67 1 = nI nt) (hn8 : nt ≤ 8) (hnp : M 67 2 = nI np) (hp8 : np ≤ 8) : ∃ v M', mT X 161 [.ref 66, .int a1, .int a2, .int a3] (con M) (some (.int v)) (con M') ∧ Uq (fChange nt np r a1 a2 a3) v M M' := by
  refine ti_of (row := _) rfl (Nat.le_of_ble_eq_true rfl) ?_
  have hm : mMet 161 = some _ := rfl
  have J52 : ∀ (v4 : Int32) (hv : v4 = bI (mayC a2 a3)), mEv X (QI (fun v M' => Uq (fChange nt np r a1 a2 a3) v M M')) 161 52 [some (.ref 66), some (.int a1), some (.int a2), some (.int a3), some (.int v4)] [] (con M) := by
    intro v4 hv
    refine x_aload_n hm rfl rfl ?_
    refine x_iload_n hm rfl rfl ?_
    refine x_callV hm rfl rfl (t153) ?_
    rw [hnp]
    refine x_if_eq hm rfl (t := 78) rfl (fun h1 => ?_) (fun h1 => ?_)
    · refine x_aload_n hm rfl rfl ?_
      refine x_ldcI hm rfl (v := (-1000001 : Int32)) (by decide +kernel) ?_
      refine x_callV hm rfl rfl (e135 (by decide +kernel)) ?_
      refine x_iret hm rfl rfl (by first | rfl | exact bI_nar | decide) ?_
      first
        | (have hq : fChange nt np r a1 a2 a3 = (-1000001, nt, np, r) := by
             unfold fChange
             rw [if_pos (by assumption)]
           exact ⟨_, _, rfl, rfl, by rw [hq]; exact ⟨rfl, fnd_rm h67⟩⟩)
        | (have hq : fChange nt np r (nI p) a2 a3 = (-1000001, nt, np, r) := by
             unfold fChange
             rw [if_neg (by assumption), if_pos (by assumption)]
           exact ⟨_, _, rfl, rfl, by rw [hq]; exact ⟨rfl, fnd_rm h67⟩⟩)
        | (have hq : fChange nt np r (nI p) (nI f) a3 = (r (62 + 7 * p + f), nt, np, put1 r (62 + 7 * p + f) a3) := by
             unfold fChange
             rw [if_neg (by assumption), if_neg (by assumption)]
             rw [jI_nat (k := p) (by omega)]
             rw [jI_nat (k := f) (by omega)]
           exact ⟨_, _, rfl, rfl, by rw [hq]; exact ⟨congrFun h67 _, by rw [← h67]; exact mput67, fun a h _ _ _ => mpo h⟩⟩)
    · obtain ⟨p, hp, rfl⟩ := in_k rfl (by omega) (bI_ne0 h1)
      refine x_iload hm rfl rfl ?_
      rw [hv]
      refine x_if_eq hm rfl (t := 78) rfl (fun h2 => ?_) (fun h2 => ?_)
      · refine x_aload_n hm rfl rfl ?_
        refine x_ldcI hm rfl (v := (-1000001 : Int32)) (by decide +kernel) ?_
        refine x_callV hm rfl rfl (e135 (by decide +kernel)) ?_
        refine x_iret hm rfl rfl (by first | rfl | exact bI_nar | decide) ?_
        first
          | (have hq : fChange nt np r a1 a2 a3 = (-1000001, nt, np, r) := by
               unfold fChange
               rw [if_pos (by assumption)]
             exact ⟨_, _, rfl, rfl, by rw [hq]; exact ⟨rfl, fnd_rm h67⟩⟩)
          | (have hq : fChange nt np r (nI p) a2 a3 = (-1000001, nt, np, r) := by
               unfold fChange
               rw [if_neg (by assumption), if_pos (by assumption)]
             exact ⟨_, _, rfl, rfl, by rw [hq]; exact ⟨rfl, fnd_rm h67⟩⟩)
          | (have hq : fChange nt np r (nI p) (nI f) a3 = (r (62 + 7 * p + f), nt, np, put1 r (62 + 7 * p + f) a3) := by
               unfold fChange
               rw [if_neg (by assumption), if_neg (by assumption)]
               rw [jI_nat (k := p) (by omega)]
               rw [jI_nat (k := f) (by omega)]
             exact ⟨_, _, rfl, rfl, by rw [hq]; exact ⟨congrFun h67 _, by rw [← h67]; exact mput67, fun a h _ _ _ => mpo h⟩⟩)
      · obtain ⟨f, hf, rfl⟩ := mayC_f (bI_ne0 h2)
        refine x_aload_n hm rfl rfl ?_
        refine x_iload_n hm rfl rfl ?_
        refine x_iload_n hm rfl rfl ?_
        refine x_callS hm rfl rfl (t142) ?_
        refine x_iload_n hm rfl rfl ?_
        refine x_callV hm rfl rfl (t155 (by omega)) ?_
        refine x_goto hm rfl (t := 84) rfl ?_
        refine x_iret hm rfl rfl (by first | rfl | exact bI_nar | decide) ?_
        first
          | (have hq : fChange nt np r a1 a2 a3 = (-1000001, nt, np, r) := by
               unfold fChange
               rw [if_pos (by assumption)]
             exact ⟨_, _, rfl, rfl, by rw [hq]; exact ⟨rfl, fnd_rm h67⟩⟩)
          | (have hq : fChange nt np r (nI p) a2 a3 = (-1000001, nt, np, r) := by
               unfold fChange
               rw [if_neg (by assumption), if_pos (by assumption)]
             exact ⟨_, _, rfl, rfl, by rw [hq]; exact ⟨rfl, fnd_rm h67⟩⟩)
          | (have hq : fChange nt np r (nI p) (nI f) a3 = (r (62 + 7 * p + f), nt, np, put1 r (62 + 7 * p + f) a3) := by
               unfold fChange
               rw [if_neg (by assumption), if_neg (by assumption)]
               rw [jI_nat (k := p) (by omega)]
               rw [jI_nat (k := f) (by omega)]
             exact ⟨_, _, rfl, rfl, by rw [hq]; exact ⟨congrFun h67 _, by rw [← h67]; exact mput67, fun a h _ _ _ => mpo h⟩⟩)
  refine x_iload_n hm rfl rfl ?_
  refine x_if_ne hm rfl (t := 11) rfl (fun h3 => ?_) (fun h3 => ?_)
  · have n0 := h3
    refine x_iload_n hm rfl rfl ?_
    refine x_iconst hm rfl (v := nI 1) (by decide) ?_
    refine x_icmp_eq hm rfl (t := 21) rfl (fun h4 => ?_) (fun h4 => ?_)
    · have hv : bI (nI 0 ≤ a3 ∧ a3 ≤ nI 15) = bI (mayC a2 a3) := bIc (mayC_12 (Or.inl h4))
      refine x_iload_n hm rfl rfl ?_
      refine x_callS hm rfl rfl (t134) ?_
      refine x_goto hm rfl (t := 50) rfl ?_
      refine x_istore hm rfl rfl ?_
      exact J52 _ hv
    · have n1 := h4
      refine x_iload_n hm rfl rfl ?_
      refine x_iconst hm rfl (v := nI 2) (by decide) ?_
      refine x_icmp_ne hm rfl (t := 28) rfl (fun h5 => ?_) (fun h5 => ?_)
      · have n2 := h5
        refine x_iload_n hm rfl rfl ?_
        refine x_iconst hm rfl (v := nI 3) (by decide) ?_
        refine x_bipush hm rfl (v := nI 6) (by decide) ?_
        refine x_callS hm rfl rfl (t133) ?_
        refine x_if_eq hm rfl (t := 49) rfl (fun h6 => ?_) (fun h6 => ?_)
        · have hv : nI 0 = bI (mayC a2 a3) := bI_f fun q => bI_eq0.mp h6 ((mayC_e n0 n1 n2).mp q).1
          refine x_iconst hm rfl (v := nI 0) (by decide) ?_
          refine x_istore hm rfl rfl ?_
          exact J52 _ hv
        · have h36 := bI_ne0 h6
          refine x_iload_n hm rfl rfl ?_
          refine x_callS hm rfl rfl (t152) ?_
          refine x_if_eq hm rfl (t := 49) rfl (fun h7 => ?_) (fun h7 => ?_)
          · have hv : nI 0 = bI (mayC a2 a3) := bI_f fun q => bI_eq0.mp h7 ((mayC_e n0 n1 n2).mp q).2
            refine x_iconst hm rfl (v := nI 0) (by decide) ?_
            refine x_istore hm rfl rfl ?_
            exact J52 _ hv
          · have hv : nI 1 = bI (mayC a2 a3) := bI_t ((mayC_e n0 n1 n2).mpr ⟨h36, bI_ne0 h7⟩)
            refine x_iconst hm rfl (v := nI 1) (by decide) ?_
            refine x_goto hm rfl (t := 50) rfl ?_
            refine x_istore hm rfl rfl ?_
            exact J52 _ hv
      · have hv : bI (nI 0 ≤ a3 ∧ a3 ≤ nI 15) = bI (mayC a2 a3) := bIc (mayC_12 (Or.inr h5))
        refine x_iload_n hm rfl rfl ?_
        refine x_callS hm rfl rfl (t134) ?_
        refine x_goto hm rfl (t := 50) rfl ?_
        refine x_istore hm rfl rfl ?_
        exact J52 _ hv
  · have hv : bI (nI 0 ≤ a3 ∧ a3 ≤ nI 6) = bI (mayC a2 a3) := bIc (mayC_0 h3)
    refine x_iload_n hm rfl rfl ?_
    refine x_callS hm rfl rfl (t157) ?_
    refine x_goto hm rfl (t := 50) rfl ?_
    refine x_istore hm rfl rfl ?_
    exact J52 _ hv
theorem g36 {s : Nat} (hs : s < 256) : mT X 36 [.int (nI s)] (con M) (some (.int (sBits 256 (nI 0) (nI s)))) (con M) := by
  refine mT.of (row := _) rfl (Nat.le_of_ble_eq_true rfl) ?_
  have hm : mMet 36 = some _ := rfl
  refine x_iload_n hm rfl rfl ?_
  refine x_iload_n hm rfl rfl ?_
  refine x_iconst hm rfl (v := nI 1) (by decide) ?_
  refine x_iushr hm rfl ?_
  refine x_ldc_wI hm rfl (v := nI 1431655765) (by decide) ?_
  refine x_iand hm rfl ?_
  refine x_isub hm rfl ?_
  refine x_istore_n hm rfl rfl ?_
  refine x_iload_n hm rfl rfl ?_
  refine x_ldc_wI hm rfl (v := nI 858993459) (by decide) ?_
  refine x_iand hm rfl ?_
  refine x_iload_n hm rfl rfl ?_
  refine x_iconst hm rfl (v := nI 2) (by decide) ?_
  refine x_iushr hm rfl ?_
  refine x_ldc_wI hm rfl (v := nI 858993459) (by decide) ?_
  refine x_iand hm rfl ?_
  refine x_iadd hm rfl ?_
  refine x_istore_n hm rfl rfl ?_
  refine x_iload_n hm rfl rfl ?_
  refine x_iload_n hm rfl rfl ?_
  refine x_iconst hm rfl (v := nI 4) (by decide) ?_
  refine x_iushr hm rfl ?_
  refine x_iadd hm rfl ?_
  refine x_ldc_wI hm rfl (v := nI 252645135) (by decide) ?_
  refine x_iand hm rfl ?_
  refine x_istore_n hm rfl rfl ?_
  refine x_iload_n hm rfl rfl ?_
  refine x_iload_n hm rfl rfl ?_
  refine x_bipush hm rfl (v := nI 8) (by decide) ?_
  refine x_iushr hm rfl ?_
  refine x_iadd hm rfl ?_
  refine x_istore_n hm rfl rfl ?_
  refine x_iload_n hm rfl rfl ?_
  refine x_iload_n hm rfl rfl ?_
  refine x_bipush hm rfl (v := nI 16) (by decide) ?_
  refine x_iushr hm rfl ?_
  refine x_iadd hm rfl ?_
  refine x_istore_n hm rfl rfl ?_
  refine x_iload_n hm rfl rfl ?_
  refine x_bipush hm rfl (v := nI 63) (by decide) ?_
  refine x_iand hm rfl ?_
  refine x_iret hm rfl rfl (by first | rfl | exact bI_nar | decide) ?_
  exact qt (congrArg Value.int (bcn_eq s hs))
theorem m168 {a1 : Int32} : ∀ (n k : Nat) (s : Int32), k < n → k < 256 → ∀ f, k < f → mEv X (fun r D => r = some (.int (sBits f s (nI k))) ∧ D = con M) 168 4 [some (.int a1), some (.int s), some (.int (nI k))] [] (con M) := by
  have hm : mMet 168 = some _ := rfl
  intro n
  induction n with
  | zero =>
    intro k s hkn hk f hf
    omega
  | succ n ih =>
    intro k s hkn hk f hf
    obtain ⟨f, rfl⟩ : ∃ g, f = g + 1 := ⟨f - 1, by omega⟩
    obtain ⟨g1, g2, g3⟩ := bits_le k hk
    refine x_iload_n hm rfl rfl ?_
    refine x_if_eq hm rfl (t := 20) rfl (fun h1 => ?_) (fun h1 => ?_)
    · have hq : sBits (f + 1) s (nI k) = s := if_pos h1
      refine x_iload_n hm rfl rfl ?_
      refine x_iret hm rfl rfl (by first | rfl | exact bI_nar | decide) ?_
      exact ⟨by rw [hq], rfl⟩
    · have h0 : ¬ k = 0 := fun e => h1 (by rw [e]; rfl)
      have hq : sBits (f + 1) s (nI k) = sBits f (s + nI 1) (nI k &&& (nI k - nI 1)) := if_neg h1
      refine x_iinc hm rfl rfl (v := nI 1) (by decide) rfl ?_
      refine x_iload_n hm rfl rfl ?_
      refine x_iload_n hm rfl rfl ?_
      refine x_iconst hm rfl (v := nI 1) (by decide) ?_
      refine x_isub hm rfl ?_
      refine x_iand hm rfl ?_
      refine x_istore_n hm rfl rfl ?_
      refine x_goto hm rfl (t := 4) rfl ?_
      rw [hq, ← g2]
      exact ih _ _ (by have := g3 h0; omega) g1 f (by have := g3 h0; omega)
theorem g168 {s : Nat} (hs : s < 256) : mT X 168 [.int (nI s)] (con M) (some (.int (sBits 256 (nI 0) (nI s)))) (con M) := by
  refine mT.of (row := _) rfl (Nat.le_of_ble_eq_true rfl) ?_
  have hm : mMet 168 = some _ := rfl
  refine x_iconst hm rfl (v := nI 0) (by decide) ?_
  refine x_istore_n hm rfl rfl ?_
  refine x_iload_n hm rfl rfl ?_
  refine x_istore_n hm rfl rfl ?_
  exact m168 _ s _ (Nat.lt_succ_self _) hs 256 hs
theorem g29 {a1 : Int32} (hR : Rel 1 nt np M r) (hn8 : nt ≤ 8) (hp8 : np ≤ 8) (hV : Vs nt np r) (hc : M 1 7 = -1) : ∃ v M', mT X 29 [.ref 0, .int a1] (con M) (some (.int v)) (con M') ∧ Tq (fGo nt np r a1) v M M' := by
  refine ti_of (row := _) rfl (Nat.le_of_ble_eq_true rfl) ?_
  have hm : mMet 29 = some _ := rfl
  refine x_iload_n hm rfl rfl ?_
  refine x_iconst hm rfl (v := nI 1) (by decide) ?_
  refine x_bipush hm rfl (v := nI 60) (by decide) ?_
  refine x_callS hm rfl rfl (t6) ?_
  refine x_if_ne hm rfl (t := 17) rfl (fun h1 => ?_) (fun h1 => ?_)
  · obtain ⟨a, ha, ha1, rfl⟩ := le1_k (by omega) (bI_ne0 h1)
    refine x_aload_n hm rfl rfl ?_
    refine x_getf hm rfl (gR rfl rfl) ?_
    refine x_getf hm rfl (gI rfl rfl) ?_
    rw [hR.2.2.1]
    refine x_iload_n hm rfl rfl ?_
    refine x_iadd hm rfl ?_
    refine x_ldcI hm rfl (v := nI 99999) (by decide +kernel) ?_
    refine x_icmp_le hm rfl (t := 38) rfl (fun h2 => ?_) (fun h2 => ?_)
    · have hng : ¬ nI 99999 < r 0 + nI a := Int32.not_lt.mpr h2
      refine x_aload_n hm rfl rfl ?_
      refine x_getf hm rfl (gR rfl rfl) ?_
      refine x_iload_n hm rfl rfl ?_
      refine x_cVv hm rfl rfl (e30 (by decide) hR hV (by omega)) (fun M3 r3 => ?_)
      rw [hc] at r3
      refine x_aload_n hm rfl rfl ?_
      refine x_getf hm rfl (gR rfl rfl) ?_
      refine x_callV hm rfl rfl (e35 (by decide) r3.1 (hV.days _)) ?_
      obtain ⟨g, hg, eg⟩ := sGone_k (sDays (-1) nt np a r) nt hn8
      have hg2 : g < 256 := Nat.lt_of_lt_of_le hg (Nat.pow_le_pow_right (by decide) hn8)
      rw [eg]
      refine x_callS hm rfl rfl (g36 hg2) ?_
      refine x_iret hm rfl rfl (by first | rfl | exact bI_nar | decide) ?_
      have hq : fGo nt np r (nI a) = (sBits 256 (nI 0) (sGone (sDays (-1) nt np a r) nt), nt, np, sDays (-1) nt np a r) := by
        unfold fGo
        rw [if_neg (by assumption), if_neg (by assumption)]
        rw [jI_nat (k := a) (by omega)]
      exact ⟨_, _, rfl, rfl, by rw [hq]; exact ⟨by rw [eg], r3.tm⟩⟩
    · have hps : nI 99999 < r 0 + nI a := Int32.not_le.mp h2
      refine x_aload_n hm rfl rfl ?_
      refine x_ldcI hm rfl (v := (-1000005 : Int32)) (by decide +kernel) ?_
      refine x_cVi hm rfl rfl (t7 (by decide +kernel)) (fun v4 M4 r4 => ?_)
      refine x_iret hm rfl rfl (by first | rfl | exact bI_nar | decide) ?_
      first
        | (have hq : fGo nt np r (nI a) = (-1000005, nt, np, r) := by
             unfold fGo
             rw [if_neg (by assumption), if_pos (by assumption)]
           exact ⟨_, _, rfl, rfl, by rw [hq]; exact ⟨r4.1, hR.bq r4.2⟩⟩)
        | (have hq : fGo nt np r (nI a) = (-1000005, nt, np, r) := by
             unfold fGo
             rw [if_neg (by assumption), if_pos (by assumption)]
           exact ⟨_, _, rfl, rfl, by rw [hq]; exact ⟨r1.1, hR.bq r1.2⟩⟩)
        | (have hq : fGo nt np r (nI a) = (-1000005, nt, np, r) := by
             unfold fGo
             rw [if_neg (by assumption), if_pos (by assumption)]
           exact ⟨_, _, rfl, rfl, by rw [hq]; exact ⟨r2.1, hR.bq r2.2⟩⟩)
        | (have hq : fGo nt np r (nI a) = (-1000005, nt, np, r) := by
             unfold fGo
             rw [if_neg (by assumption), if_pos (by assumption)]
           exact ⟨_, _, rfl, rfl, by rw [hq]; exact ⟨r3.1, hR.bq r3.2⟩⟩)
        | (have hq : fGo nt np r (nI a) = (-1000005, nt, np, r) := by
             unfold fGo
             rw [if_neg (by assumption), if_pos (by assumption)]
           exact ⟨_, _, rfl, rfl, by rw [hq]; exact ⟨r5.1, hR.bq r5.2⟩⟩)
        | (have hq : fGo nt np r (nI a) = (-1000005, nt, np, r) := by
             unfold fGo
             rw [if_neg (by assumption), if_pos (by assumption)]
           exact ⟨_, _, rfl, rfl, by rw [hq]; exact ⟨r6.1, hR.bq r6.2⟩⟩)
        | (have hq : fGo nt np r (nI a) = (-1000005, nt, np, r) := by
             unfold fGo
             rw [if_neg (by assumption), if_pos (by assumption)]
           exact ⟨_, _, rfl, rfl, by rw [hq]; exact ⟨r7.1, hR.bq r7.2⟩⟩)
        | (have hq : fGo nt np r (nI a) = (-1000005, nt, np, r) := by
             unfold fGo
             rw [if_neg (by assumption), if_pos (by assumption)]
           exact ⟨_, _, rfl, rfl, by rw [hq]; exact ⟨r8.1, hR.bq r8.2⟩⟩)
  · refine x_aload_n hm rfl rfl ?_
    refine x_ldcI hm rfl (v := (-1000001 : Int32)) (by decide +kernel) ?_
    refine x_cVi hm rfl rfl (t7 (by decide +kernel)) (fun v5 M5 r5 => ?_)
    refine x_iret hm rfl rfl (by first | rfl | exact bI_nar | decide) ?_
    first
      | (have hq : fGo nt np r a1 = (-1000001, nt, np, r) := by
           unfold fGo
           rw [if_pos (by assumption)]
         exact ⟨_, _, rfl, rfl, by rw [hq]; exact ⟨r5.1, hR.bq r5.2⟩⟩)
      | (have hq : fGo nt np r a1 = (-1000001, nt, np, r) := by
           unfold fGo
           rw [if_pos (by assumption)]
         exact ⟨_, _, rfl, rfl, by rw [hq]; exact ⟨r1.1, hR.bq r1.2⟩⟩)
      | (have hq : fGo nt np r a1 = (-1000001, nt, np, r) := by
           unfold fGo
           rw [if_pos (by assumption)]
         exact ⟨_, _, rfl, rfl, by rw [hq]; exact ⟨r2.1, hR.bq r2.2⟩⟩)
      | (have hq : fGo nt np r a1 = (-1000001, nt, np, r) := by
           unfold fGo
           rw [if_pos (by assumption)]
         exact ⟨_, _, rfl, rfl, by rw [hq]; exact ⟨r3.1, hR.bq r3.2⟩⟩)
      | (have hq : fGo nt np r a1 = (-1000001, nt, np, r) := by
           unfold fGo
           rw [if_pos (by assumption)]
         exact ⟨_, _, rfl, rfl, by rw [hq]; exact ⟨r4.1, hR.bq r4.2⟩⟩)
      | (have hq : fGo nt np r a1 = (-1000001, nt, np, r) := by
           unfold fGo
           rw [if_pos (by assumption)]
         exact ⟨_, _, rfl, rfl, by rw [hq]; exact ⟨r6.1, hR.bq r6.2⟩⟩)
      | (have hq : fGo nt np r a1 = (-1000001, nt, np, r) := by
           unfold fGo
           rw [if_pos (by assumption)]
         exact ⟨_, _, rfl, rfl, by rw [hq]; exact ⟨r7.1, hR.bq r7.2⟩⟩)
      | (have hq : fGo nt np r a1 = (-1000001, nt, np, r) := by
           unfold fGo
           rw [if_pos (by assumption)]
         exact ⟨_, _, rfl, rfl, by rw [hq]; exact ⟨r8.1, hR.bq r8.2⟩⟩)
theorem g163 {a1 : Int32} (h67 : M 67 = r) (hnt : M 67 1 = nI nt) (hn8 : nt ≤ 8) (hnp : M 67 2 = nI np) (hp8 : np ≤ 8) (hW : Wf M) (h6 : M 66 6 = -1) : ∃ v M', mT X 163 [.ref 66, .int a1] (con M) (some (.int v)) (con M') ∧ Uq (fGo nt np r a1) v M M' := by
  refine ti_of (row := _) rfl (Nat.le_of_ble_eq_true rfl) ?_
  have hm : mMet 163 = some _ := rfl
  refine x_iload_n hm rfl rfl ?_
  refine x_iconst hm rfl (v := nI 1) (by decide) ?_
  refine x_bipush hm rfl (v := nI 60) (by decide) ?_
  refine x_callS hm rfl rfl (t133) ?_
  refine x_if_ne hm rfl (t := 17) rfl (fun h1 => ?_) (fun h1 => ?_)
  · obtain ⟨a, ha, ha1, rfl⟩ := le1_k (by omega) (bI_ne0 h1)
    refine x_aload_n hm rfl rfl ?_
    refine x_getf hm rfl (gR rfl rfl) ?_
    refine x_iconst hm rfl (v := nI 0) (by decide) ?_
    refine x_iald hm rfl (lI rfl (by omega) (by decide)) ?_
    rw [h67]
    refine x_iload_n hm rfl rfl ?_
    refine x_iadd hm rfl ?_
    refine x_ldcI hm rfl (v := nI 99999) (by decide +kernel) ?_
    refine x_icmp_le hm rfl (t := 37) rfl (fun h2 => ?_) (fun h2 => ?_)
    · have hng : ¬ nI 99999 < r 0 + nI a := Int32.not_lt.mpr h2
      refine x_aload_n hm rfl rfl ?_
      refine x_iload_n hm rfl rfl ?_
      refine x_cVv hm rfl rfl (e164 hW hnt hn8 hnp hp8 (by omega)) (fun M3 r3 => ?_)
      rw [h6, h67] at r3
      have e67 := r3.2.1
      refine x_aload_n hm rfl rfl ?_
      refine x_callV hm rfl rfl (e167 (r3.1.1.2.1.trans hnt) hn8) ?_
      rw [e67]
      obtain ⟨g, hg, eg⟩ := sGone_k (sDays (-1) nt np a r) nt hn8
      have hg2 : g < 256 := Nat.lt_of_lt_of_le hg (Nat.pow_le_pow_right (by decide) hn8)
      rw [eg]
      refine x_callS hm rfl rfl (g168 hg2) ?_
      refine x_iret hm rfl rfl (by first | rfl | exact bI_nar | decide) ?_
      have hq : fGo nt np r (nI a) = (sBits 256 (nI 0) (sGone (sDays (-1) nt np a r) nt), nt, np, sDays (-1) nt np a r) := by
        unfold fGo
        rw [if_neg (by assumption), if_neg (by assumption)]
        rw [jI_nat (k := a) (by omega)]
      exact ⟨_, _, rfl, rfl, by rw [hq]; exact ⟨by rw [eg], e67, fun a h1 _ _ h4 => r3.2.2 a h1 h4⟩⟩
    · have hps : nI 99999 < r 0 + nI a := Int32.not_le.mp h2
      refine x_aload_n hm rfl rfl ?_
      refine x_ldcI hm rfl (v := (-1000005 : Int32)) (by decide +kernel) ?_
      refine x_callV hm rfl rfl (e135 (by decide +kernel)) ?_
      refine x_iret hm rfl rfl (by first | rfl | exact bI_nar | decide) ?_
      have hq : fGo nt np r (nI a) = (-1000005, nt, np, r) := by
        unfold fGo
        rw [if_neg (by assumption), if_pos (by assumption)]
      exact ⟨_, _, rfl, rfl, by rw [hq]; exact ⟨rfl, fnd_rm h67⟩⟩
  · refine x_aload_n hm rfl rfl ?_
    refine x_ldcI hm rfl (v := (-1000001 : Int32)) (by decide +kernel) ?_
    refine x_callV hm rfl rfl (e135 (by decide +kernel)) ?_
    refine x_iret hm rfl rfl (by first | rfl | exact bI_nar | decide) ?_
    have hq : fGo nt np r a1 = (-1000001, nt, np, r) := by
      unfold fGo
      rw [if_pos (by assumption)]
    exact ⟨_, _, rfl, rfl, by rw [hq]; exact ⟨rfl, fnd_rm h67⟩⟩
theorem Gd.go {a1 : Int32} (h : Gd nt np r) : Gd (fGo nt np r a1).2.1 (fGo nt np r a1).2.2.1 (fGo nt np r a1).2.2.2 := by
  unfold fGo
  split
  · exact h
  · rename_i h1
    obtain ⟨a, ha, ha1, rfl⟩ := le1_k (by decide) (bI_ne0 h1)
    split
    · exact h
    · rename_i h2
      rw [jI_nat (by omega)]
      obtain ⟨d, hd, ed⟩ := h.2.2.2.1
      refine (h.days ed a ?_).1
      rw [ed, jI_add] at h2
      rcases Nat.lt_or_ge 99999 (d + a) with g | g
      · exact absurd ((jI_lt (by omega) (by omega)).mpr g) h2
      · exact g
theorem Gd.pf {p f : Nat} {v : Int32} (h : Gd nt np r) (hp : p < np) (hf : f < 7) (h0 : f = 0 → Le 6 v) (h1 : f = 1 ∨ f = 2 → Le 15 v) (h3 : 3 ≤ f → Le 9 v) : Gd nt np (put1 r (62 + 7 * p + f) v) := by
  obtain ⟨g1, g2, ⟨v1, v2, v3, v4⟩, ⟨w1, w2, w3, w4⟩⟩ := h
  refine ⟨(put1_o (by omega)).trans g1, (put1_o (by omega)).trans g2, ⟨v1, v2, fun t ht => ?_, fun q hq => ?_⟩, ⟨?_, fun z hz => ?_, fun t ht => ?_, fun q hq => ?_⟩⟩
  · rw [put1_o (by omega), put1_o (by omega), put1_o (by omega)]; exact v3 t ht
  · by_cases e : q = p ∧ f = 0
    · obtain ⟨rfl, rfl⟩ := e
      rw [put1_s]; exact h0 rfl
    · rw [put1_o (by omega)]; exact v4 q hq
  · rw [put1_o (by omega)]; exact w1
  · rw [put1_o (by omega)]; exact w2 z hz
  · rw [put1_o (by omega), put1_o (by omega), put1_o (by omega)]; exact w3 t ht
  · obtain ⟨k1, k2, k3⟩ := w4 q hq
    refine ⟨?_, ?_, fun z hz => ?_⟩
    · by_cases e : q = p ∧ f = 1
      · obtain ⟨rfl, rfl⟩ := e
        rw [put1_s]; exact h1 (Or.inl rfl)
      · rw [put1_o (by omega)]; exact k1
    · by_cases e : q = p ∧ f = 2
      · obtain ⟨rfl, rfl⟩ := e
        rw [put1_s]; exact h1 (Or.inr rfl)
      · rw [put1_o (by omega)]; exact k2
    · by_cases e : q = p ∧ f = 3 + z
      · obtain ⟨rfl, rfl⟩ := e
        rw [put1_s]; exact h3 (by omega)
      · rw [put1_o (by omega)]; exact k3 z hz
theorem Gd.change {a1 a2 a3 : Int32} (h : Gd nt np r) : Gd (fChange nt np r a1 a2 a3).2.1 (fChange nt np r a1 a2 a3).2.2.1 (fChange nt np r a1 a2 a3).2.2.2 := by
  unfold fChange
  split
  · exact h
  · rename_i h1
    have hp8 := h.2.2.1.2.1
    obtain ⟨p, hp, rfl⟩ := in_k rfl (by omega) (bI_ne0 h1)
    split
    · exact h
    · rename_i h2
      have hm := bI_ne0 h2
      obtain ⟨f, hf, rfl⟩ := mayC_f hm
      rw [jI_nat (by omega), jI_nat (by omega)]
      refine h.pf hp hf (fun e => ?_) (fun e => ?_) (fun e => ?_)
      · subst e
        exact le_k (by decide) ((mayC_0 rfl).mpr hm)
      · have : nI f = nI 1 ∨ nI f = nI 2 := e.imp (fun e => by rw [e]) (fun e => by rw [e])
        exact le_k (by decide) ((mayC_12 this).mpr hm)
      · have n0 : ¬ nI f = 0 := fun q => by have := jI_inj (b := 0) (by omega) (by decide) q; omega
        have n1 : ¬ nI f = nI 1 := fun q => by have := jI_inj (by omega) (by decide) q; omega
        have n2 : ¬ nI f = nI 2 := fun q => by have := jI_inj (by omega) (by decide) q; omega
        exact le_k (by decide) ((mayC_e n0 n1 n2).mp hm).2
theorem j_change {a1 a2 a3 : Int32} (hJ : J M) : JJ X 26 161 [.ref 0, .int a1, .int a2, .int a3] [.ref 66, .int a1, .int a2, .int a3] M Eq := by
  obtain ⟨nt, np, hR, h1, h2, hV, hr, -⟩ := hJ.2.2.1
  exact J.join hJ (t26 hJ.1.1) (g26 hR hV.1 hV.2.1) (fun M1 i => t161 i) (fun M1 _ k => g161 (k 67 (by decide)) (by rw [k 67 (by decide)]; exact h1) hV.1 (by rw [k 67 (by decide)]; exact h2) hV.2.1) (Gd.change ⟨h1, h2, hV, hr⟩)
theorem j_go {a1 : Int32} (hJ : J M) : JJ X 29 163 [.ref 0, .int a1] [.ref 66, .int a1] M Eq := by
  obtain ⟨nt, np, hR, h1, h2, hV, hr, hc⟩ := hJ.2.2.1
  exact J.join hJ (t29 hJ.1.1) (g29 hR hV.1 hV.2.1 hV hc) (fun M1 i => t163 i) (fun M1 i k => g163 (k 67 (by decide)) (by rw [k 67 (by decide)]; exact h1) hV.1 (by rw [k 67 (by decide)]; exact h2) hV.2.1 i.1 (by rw [k 66 (by decide)]; exact hJ.2.2.2.2.2.2)) (Gd.go ⟨h1, h2, hV, hr⟩)
end EK
