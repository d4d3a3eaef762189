/-! ===== load ===== -/
def sLd (g : Nat → Int32) (m : Nat) : Nat → Nat → (Nat → Int32) → Int32 × (Nat → Int32)
  | 0, k, r => (nI k, r)
  | f + 1, k, r => if k < m then (if bI (nI 0 ≤ g k ∧ g k ≤ nI 999) = 0 then (nI k, r) else sLd g m f (k + 1) (put1 r (14 + 6 * k + 2) (g k))) else (nI k, r)
theorem sLd_n {g : Nat → Int32} {m f k : Nat} {r : Nat → Int32} (h : ¬ k < m) : sLd g m f k r = (nI k, r) := by
  cases f with
  | zero => rfl
  | succ f => exact if_neg h
theorem sLd_b {g : Nat → Int32} {m f k : Nat} {r : Nat → Int32} (h : bI (nI 0 ≤ g k ∧ g k ≤ nI 999) = 0) : sLd g m f k r = (nI k, r) := by
  cases f with
  | zero => rfl
  | succ f =>
    unfold sLd
    by_cases hk : k < m
    · rw [if_pos hk, if_pos h]
    · rw [if_neg hk]
theorem sLd_s {g : Nat → Int32} {m f k : Nat} {r : Nat → Int32} (hk : k < m) (hf : k < f) (h : ¬ bI (nI 0 ≤ g k ∧ g k ≤ nI 999) = 0) : sLd g m (f - k) k r = sLd g m (f - (k + 1)) (k + 1) (put1 r (14 + 6 * k + 2) (g k)) := by
  rw [show f - k = (f - (k + 1)) + 1 by omega]
  show (if k < m then _ else _) = _
  rw [if_pos hk, if_neg h]
/-- the numbers of a sheet -/
def sY (y : Nat → Int32) (s : Nat) : Nat → Int32 := fun j => y (40 * s + j)
def fLoad (w z y : Nat → Int32) (nt np : Nat) (r : Nat → Int32) (a1 : Int32) : Sq4 :=
  if ¬ lkS w a1 = 0 then (lkS w a1, nt, np, r) else ((sLd (sY y a1.toNatClampNeg) (min (z a1.toNatClampNeg).toNatClampNeg nt) 9 0 r).1, nt, np, (sLd (sY y a1.toNatClampNeg) (min (z a1.toNatClampNeg).toNatClampNeg nt) 9 0 r).2)
section EW
variable {X : mSc} {Q : Option Value → mHp → Prop} {M : mM} {s nt np : Nat} {w z y r : Nat → Int32}
theorem m122 {c : Int32} {m : Nat} (hS : Rs w z y M) (hn8 : nt ≤ 8) (hs : s ≤ 3) (hm40 : m ≤ 40) (hm8 : m ≤ nt) : ∀ (n k : Nat) (x5 : Option Value) (q : Nat → Int32) (M1 : mM), m - k < n → k ≤ m → Tc 1 nt np q M M1 → mEv X (QI (fun v M' => v = (sLd (sY y s) m (9 - k) k q).1 ∧ Tc 1 nt np (sLd (sY y s) m (9 - k) k q).2 M M')) 122 39 [some (.ref 0), some (.int (nI s)), some (.int c), some (.int (nI m)), some (.int (nI k)), x5] [] (con M1) := by
  have hm : mMet 122 = some _ := rfl
  intro n
  induction n with
  | zero =>
    intro k x5 q M1 hkn hkb hC
    omega
  | succ n ih =>
    intro k x5 q M1 hkn hkb hC
    have hrow : ∀ j, j < 40 → M1 (2 * s + 59) j = sY y s j := fun j hj => (congrFun (hC.2.2 _ (by omega)) j).trans ((hS s (by omega)).2.2 j hj)
    refine x_iload hm rfl rfl ?_
    refine x_iload_n hm rfl rfl ?_
    refine x_icmp_ge hm rfl (t := 94) rfl (fun h1 => ?_) (fun h1 => ?_)
    · have hge : ¬ k < m := fun h => absurd h1 (Int32.not_le.mpr ((jI_lt (by omega) (by omega)).mpr h))
      refine x_iload_n hm rfl rfl ?_
      refine x_iret hm rfl rfl (by first | rfl | exact bI_nar | decide) ?_
      exact ⟨_, _, rfl, rfl, by rw [sLd_n hge, Nat.le_antisymm hkb (Nat.le_of_not_lt hge)], by rw [sLd_n hge]; exact hC⟩
    · have hk : k < m := Nat.lt_of_not_le fun h => h1 (nI_le h (by omega))
      refine x_aload_n hm rfl rfl ?_
      refine x_getf hm rfl (gR rfl rfl) ?_
      refine x_iload_n hm rfl rfl ?_
      refine x_aald hm rfl (by first | exact lQ 2 (Or.inl rfl) rfl (shk hs) (by omega) (by decide) | exact lQ 3 (Or.inr (Or.inl rfl)) rfl rfl (by omega) (by decide)) ?_
      refine x_getf hm rfl (by first | exact gR (sO hs) rfl) ?_
      refine x_iload hm rfl rfl ?_
      refine x_iald hm rfl (by first | exact lI (sRow hs) (by omega) (by decide) | exact lI rfl (by omega) (by decide)) ?_
      rw [hrow k (by omega)]
      refine x_istore hm rfl rfl ?_
      refine x_iload hm rfl rfl ?_
      refine x_iconst hm rfl (v := nI 0) (by decide) ?_
      refine x_sipush hm rfl (v := nI 999) (by decide) ?_
      refine x_callS hm rfl rfl (t6) ?_
      refine x_if_ne hm rfl (t := 74) rfl (fun h2 => ?_) (fun h2 => ?_)
      · have hgd := h2
        refine x_aload_n hm rfl rfl ?_
        refine x_getf hm rfl (gR rfl rfl) ?_
        refine x_getf hm rfl (gR rfl rfl) ?_
        refine x_iconst hm rfl (v := nI 2) (by decide) ?_
        refine x_aald hm rfl (by first | exact lQ 2 (Or.inl rfl) rfl (shk hs) (by omega) (by decide) | exact lQ 3 (Or.inr (Or.inl rfl)) rfl rfl (by omega) (by decide)) ?_
        refine x_iload hm rfl rfl ?_
        refine x_iload hm rfl rfl ?_
        refine x_iast hm rfl (by first | exact sI (sRow hs) (by omega) (by decide) | exact sI rfl (by omega) (by decide)) ?_
        refine x_iinc hm rfl rfl (v := nI 1) (by decide) rfl ?_
        rw [jI_add]
        refine x_goto hm rfl (t := 39) rfl ?_
        rw [sLd_s hk (by omega) hgd]
        exact ih _ _ _ _ (by omega) (by omega) (hC.pi (f := 2) hn8 (by decide) (by omega))
      · have hbd := h2
        refine x_iload hm rfl rfl ?_
        refine x_iret hm rfl rfl (by first | rfl | exact bI_nar | decide) ?_
        exact ⟨_, _, rfl, rfl, by rw [sLd_b hbd], by rw [sLd_b hbd]; exact hC⟩
theorem g122 {a1 : Int32} (hR : Rel 1 nt np M r) (hS : Rs w z y M) (hn8 : nt ≤ 8) (hz : ∀ u, u < 4 → ∃ k, k ≤ 40 ∧ z u = nI k) : ∃ v M', mT X 122 [.ref 0, .int a1] (con M) (some (.int v)) (con M') ∧ Tq (fLoad w z y nt np r a1) v M M' := by
  refine ti_of (row := _) rfl (Nat.le_of_ble_eq_true rfl) ?_
  have hm : mMet 122 = some _ := rfl
  refine x_aload_n hm rfl rfl ?_
  refine x_iload_n hm rfl rfl ?_
  refine x_callV hm rfl rfl (g77 hS) ?_
  refine x_istore_n hm rfl rfl ?_
  refine x_iload_n hm rfl rfl ?_
  refine x_if_eq hm rfl (t := 16) rfl (fun h1 => ?_) (fun h1 => ?_)
  · have hlk := h1
    obtain ⟨s, hs, hs3, hw0⟩ := lkS_0 hlk
    subst hs3
    obtain ⟨zz, hz40, hzk⟩ := hz s (by omega)
    have hRs := hS s (by omega)
    refine x_aload_n hm rfl rfl ?_
    refine x_getf hm rfl (gR rfl rfl) ?_
    refine x_iload_n hm rfl rfl ?_
    refine x_aald hm rfl (by first | exact lQ 2 (Or.inl rfl) rfl (shk hs) (by omega) (by decide) | exact lQ 3 (Or.inr (Or.inl rfl)) rfl rfl (by omega) (by decide)) ?_
    refine x_getf hm rfl (by first | exact gI (sO hs) rfl) ?_
    rw [hRs.2.1, hzk]
    refine x_aload_n hm rfl rfl ?_
    refine x_getf hm rfl (gR rfl rfl) ?_
    refine x_getf hm rfl (gI rfl rfl) ?_
    rw [hR.1]
    refine x_lib hm rfl rfl ?_
    dsimp only
    rw [min_k (by omega) (by omega)]
    refine x_istore_n hm rfl rfl ?_
    refine x_iconst hm rfl (v := nI 0) (by decide) ?_
    refine x_istore hm rfl rfl ?_
    have hq : fLoad w z y nt np r (nI s) = ((sLd (sY y s) (min zz nt) 9 0 r).1, nt, np, (sLd (sY y s) (min zz nt) 9 0 r).2) := by
      unfold fLoad
      rw [if_neg (not_not_intro hlk), jI_nat (by omega), hzk, jI_nat (by omega)]
    exact ev_mono (m122 (m := min zz nt) hS hn8 hs (by omega) (by omega) _ 0 none r _ (Nat.lt_succ_self _) (Nat.zero_le _) hR.tc) (fun r0 D ⟨v, M2, g1, g2, g3, g4⟩ => ⟨v, M2, g1, g2, by rw [hq]; exact ⟨g3, g4.tm⟩⟩)
  · refine x_aload_n hm rfl rfl ?_
    refine x_iload_n hm rfl rfl ?_
    refine x_cVi hm rfl rfl (t7 (lkS_fd h1)) (fun v2 M2 r2 => ?_)
    refine x_iret hm rfl rfl (by first | rfl | exact bI_nar | decide) ?_
    first
      | (have hq : fLoad w z y nt np r a1 = (lkS w a1, nt, np, r) := by
           unfold fLoad
           rw [if_pos h1]
         exact ⟨_, _, rfl, rfl, by rw [hq]; exact ⟨r2.1, hR.bq r2.2⟩⟩)
      | (have hq : fLoad w z y nt np r a1 = (lkS w a1, nt, np, r) := by
           unfold fLoad
           rw [if_pos h1]
         exact ⟨_, _, rfl, rfl, by rw [hq]; exact ⟨r1.1, hR.bq r1.2⟩⟩)
      | (have hq : fLoad w z y nt np r a1 = (lkS w a1, nt, np, r) := by
           unfold fLoad
           rw [if_pos h1]
         exact ⟨_, _, rfl, rfl, by rw [hq]; exact ⟨r3.1, hR.bq r3.2⟩⟩)
      | (have hq : fLoad w z y nt np r a1 = (lkS w a1, nt, np, r) := by
           unfold fLoad
           rw [if_pos h1]
         exact ⟨_, _, rfl, rfl, by rw [hq]; exact ⟨r4.1, hR.bq r4.2⟩⟩)
      | (have hq : fLoad w z y nt np r a1 = (lkS w a1, nt, np, r) := by
           unfold fLoad
           rw [if_pos h1]
         exact ⟨_, _, rfl, rfl, by rw [hq]; exact ⟨r5.1, hR.bq r5.2⟩⟩)
      | (have hq : fLoad w z y nt np r a1 = (lkS w a1, nt, np, r) := by
           unfold fLoad
           rw [if_pos h1]
         exact ⟨_, _, rfl, rfl, by rw [hq]; exact ⟨r6.1, hR.bq r6.2⟩⟩)
      | (have hq : fLoad w z y nt np r a1 = (lkS w a1, nt, np, r) := by
           unfold fLoad
           rw [if_pos h1]
         exact ⟨_, _, rfl, rfl, by rw [hq]; exact ⟨r7.1, hR.bq r7.2⟩⟩)
      | (have hq : fLoad w z y nt np r a1 = (lkS w a1, nt, np, r) := by
           unfold fLoad
           rw [if_pos h1]
         exact ⟨_, _, rfl, rfl, by rw [hq]; exact ⟨r8.1, hR.bq r8.2⟩⟩)
theorem m238 {zz : Nat} (hs : s ≤ 3) (hnt : M 67 1 = nI nt) (hn8 : nt ≤ 8) (hz40 : zz ≤ 40) (hzk : M 77 s = nI zz) (m : Nat) (hm : m = min zz nt) : ∀ (n k : Nat) (q : Nat → Int32) (M1 : mM), m - k < n → k ≤ m → q 1 = nI nt → Dd q M M1 → mEv X (QI (fun v M' => v = (sLd (sY (M 78) s) m (9 - k) k q).1 ∧ Dd (sLd (sY (M 78) s) m (9 - k) k q).2 M M')) 238 20 [some (.ref 66), some (.int (nI s)), some (.int (nI k))] [] (con M1) := by
  have hm : mMet 238 = some _ := rfl
  intro n
  induction n with
  | zero =>
    intro k q M1 hkn hkb hq1 hd
    omega
  | succ n ih =>
    intro k q M1 hkn hkb hq1 hd
    have h78 : M1 78 = M 78 := hd.2 78 (by decide) (by decide)
    have h77 : M1 77 s = nI zz := (congrFun (hd.2 77 (by decide) (by decide)) s).trans hzk
    have hn1 : M1 67 1 = nI nt := (congrFun hd.1 1).trans hq1
    refine x_iload_n hm rfl rfl ?_
    refine x_aload_n hm rfl rfl ?_
    refine x_getf hm rfl (gR rfl rfl) ?_
    refine x_iload_n hm rfl rfl ?_
    refine x_iald hm rfl (lI rfl (by omega) (by decide)) ?_
    rw [h77]
    refine x_icmp_ge hm rfl (t := 82) rfl (fun h1 => ?_) (fun h1 => ?_)
    · have hge : ¬ k < m := fun h => absurd h1 (Int32.not_le.mpr ((jI_lt (by omega) (by omega)).mpr (by omega)))
      refine x_iload_n hm rfl rfl ?_
      refine x_iret hm rfl rfl (by first | rfl | exact bI_nar | decide) ?_
      first
        | exact ⟨_, _, rfl, rfl, by rw [sLd_n hge], by rw [sLd_n hge]; exact hd⟩
        | exact ⟨_, _, rfl, rfl, by rw [sLd_b hbd], by rw [sLd_b hbd]; exact hd⟩
    · have hkz : k < zz := Nat.lt_of_not_le fun h => h1 (nI_le h (by omega))
      refine x_aload_n hm rfl rfl ?_
      refine x_iload_n hm rfl rfl ?_
      refine x_callV hm rfl rfl (t139) ?_
      rw [hn1]
      refine x_if_eq hm rfl (t := 82) rfl (fun h2 => ?_) (fun h2 => ?_)
      · have hge : ¬ k < m := fun h => bI_eq0.mp h2 ⟨(jI_le (by omega) (by omega)).mpr (Nat.zero_le _), by rw [show nI 1 = nI 1 from rfl, sub_le (by omega)]; exact (jI_le (by omega) (by omega)).mpr (by omega)⟩
        refine x_iload_n hm rfl rfl ?_
        refine x_iret hm rfl rfl (by first | rfl | exact bI_nar | decide) ?_
        first
          | exact ⟨_, _, rfl, rfl, by rw [sLd_n hge], by rw [sLd_n hge]; exact hd⟩
          | exact ⟨_, _, rfl, rfl, by rw [sLd_b hbd], by rw [sLd_b hbd]; exact hd⟩
      · have hkt : k < nt := by
          obtain ⟨x, hx, ex⟩ := in_k rfl (by omega) (bI_ne0 h2)
          have := jI_inj (by omega) (by omega) ex
          omega
        have hk : k < m := by omega
        refine x_aload_n hm rfl rfl ?_
        refine x_getf hm rfl (gR rfl rfl) ?_
        refine x_bipush hm rfl (v := nI 40) (by decide) ?_
        refine x_iload_n hm rfl rfl ?_
        refine x_imul hm rfl ?_
        rw [jI_mul]
        refine x_iload_n hm rfl rfl ?_
        refine x_iadd hm rfl ?_
        rw [jI_add]
        refine x_iald hm rfl (lI rfl (by omega) (by decide)) ?_
        rw [h78]
        refine x_callS hm rfl rfl (t151) ?_
        refine x_if_eq hm rfl (t := 82) rfl (fun h3 => ?_) (fun h3 => ?_)
        · have hbd : bI (nI 0 ≤ sY (M 78) s k ∧ sY (M 78) s k ≤ nI 999) = 0 := h3
          refine x_iload_n hm rfl rfl ?_
          refine x_iret hm rfl rfl (by first | rfl | exact bI_nar | decide) ?_
          first
            | exact ⟨_, _, rfl, rfl, by rw [sLd_n hge], by rw [sLd_n hge]; exact hd⟩
            | exact ⟨_, _, rfl, rfl, by rw [sLd_b hbd], by rw [sLd_b hbd]; exact hd⟩
        · have hgd : ¬ bI (nI 0 ≤ sY (M 78) s k ∧ sY (M 78) s k ≤ nI 999) = 0 := h3
          refine x_aload_n hm rfl rfl ?_
          refine x_getf hm rfl (gR rfl rfl) ?_
          refine x_iload_n hm rfl rfl ?_
          refine x_iconst hm rfl (v := nI 2) (by decide) ?_
          refine x_callS hm rfl rfl (t137) ?_
          refine x_aload_n hm rfl rfl ?_
          refine x_getf hm rfl (gR rfl rfl) ?_
          refine x_bipush hm rfl (v := nI 40) (by decide) ?_
          refine x_iload_n hm rfl rfl ?_
          refine x_imul hm rfl ?_
          rw [jI_mul]
          refine x_iload_n hm rfl rfl ?_
          refine x_iadd hm rfl ?_
          rw [jI_add]
          refine x_iald hm rfl (lI rfl (by omega) (by decide)) ?_
          rw [h78]
          refine x_iast hm rfl (sI rfl (by omega) (by decide)) ?_
          refine x_iinc hm rfl rfl (v := nI 1) (by decide) rfl ?_
          rw [jI_add]
          refine x_goto hm rfl (t := 20) rfl ?_
          rw [sLd_s hk (by omega) hgd]
          exact ih _ _ _ (by omega) (by omega) ((put1_o (by omega)).trans hq1) hd.p67
theorem lk_S {a : Int32} : lk M a = lkS (M 76) a := by
  unfold lk lkS
  by_cases h : nI 0 ≤ a ∧ a ≤ nI 3
  · rw [if_pos h, if_neg (fun q => bI_eq0.mp q h)]
  · rw [if_neg h, if_pos (bI_eq0.mpr h)]
theorem g238 {a1 : Int32} (h67 : M 67 = r) (hnt : M 67 1 = nI nt) (hn8 : nt ≤ 8) (hz : ∀ u, u < 4 → ∃ k, k ≤ 40 ∧ M 77 u = nI k) : ∃ v M', mT X 238 [.ref 66, .int a1] (con M) (some (.int v)) (con M') ∧ Uq (fLoad (M 76) (M 77) (M 78) nt np r a1) v M M' := by
  refine ti_of (row := _) rfl (Nat.le_of_ble_eq_true rfl) ?_
  have hm : mMet 238 = some _ := rfl
  refine x_aload_n hm rfl rfl ?_
  refine x_iload_n hm rfl rfl ?_
  refine x_callV hm rfl rfl (t209) ?_
  refine x_if_eq hm rfl (t := 18) rfl (fun h1 => ?_) (fun h1 => ?_)
  · have hlk2 : lkS (M 76) a1 = 0 := by rw [← lk_S]; exact h1
    obtain ⟨s, hs, hs3, hw0⟩ := lkS_0 hlk2
    subst hs3
    obtain ⟨zz, hz40, hzk⟩ := hz s (by omega)
    refine x_iconst hm rfl (v := nI 0) (by decide) ?_
    refine x_istore_n hm rfl rfl ?_
    have hq : fLoad (M 76) (M 77) (M 78) nt np r (nI s) = ((sLd (sY (M 78) s) (min zz nt) 9 0 r).1, nt, np, (sLd (sY (M 78) s) (min zz nt) 9 0 r).2) := by
      unfold fLoad
      rw [if_neg (not_not_intro hlk2), jI_nat (by omega), hzk, jI_nat (by omega)]
    have hm := m238 (X := X) hs hnt hn8 hz40 hzk _ rfl _ 0 (M 67) M (Nat.lt_succ_self _) (Nat.zero_le _) hnt Dd.rf
    rw [h67] at hm
    exact ev_mono hm (fun r0 D ⟨v, M2, g1, g2, g3, g4⟩ => ⟨v, M2, g1, g2, by rw [hq]; exact ⟨g3, g4.1, fun a h1 _ _ h4 => g4.2 a h1 h4⟩⟩)
  · have hlk : ¬ lkS (M 76) a1 = 0 := by rw [← lk_S]; exact h1
    refine x_aload_n hm rfl rfl ?_
    refine x_aload_n hm rfl rfl ?_
    refine x_iload_n hm rfl rfl ?_
    refine x_callV hm rfl rfl (t209) ?_
    refine x_callV hm rfl rfl (e135 (lk_fd h1)) ?_
    refine x_iret hm rfl rfl (by first | rfl | exact bI_nar | decide) ?_
    have hq : fLoad (M 76) (M 77) (M 78) nt np r a1 = (lkS (M 76) a1, nt, np, r) := by
      unfold fLoad
      rw [if_pos hlk]
    exact ⟨_, _, rfl, rfl, by rw [hq]; exact ⟨lk_S, fnd_rm h67⟩⟩
theorem Gd.pt {t f : Nat} {v : Int32} (h : Gd nt np r) (ht : t < nt) (hf : f < 6) (h0 : f = 0 → Le 3 v) (h1 : f = 1 → Le 15 v) (h2 : f = 2 → Le 999 v) (h3 : f = 3 → Le 9 v) (h4 : f = 4 → Lo np v) (h5 : f = 5 → Lo nt v) : Gd nt np (put1 r (14 + 6 * t + f) v) := by
  obtain ⟨g1, g2, ⟨v1, v2, v3, v4⟩, ⟨w1, w2, w3, w4⟩⟩ := h
  refine ⟨(put1_o (by omega)).trans g1, (put1_o (by omega)).trans g2, ⟨v1, v2, fun u hu => ?_, fun q hq => ?_⟩, ⟨?_, fun x hx => ?_, fun u hu => ?_, fun q hq => ?_⟩⟩
  · obtain ⟨k1, k2, k3⟩ := v3 u hu
    refine ⟨?_, ?_, ?_⟩
    · by_cases e : u = t ∧ f = 0
      · obtain ⟨rfl, rfl⟩ := e; rw [put1_s]; exact h0 rfl
      · rw [put1_o (by omega)]; exact k1
    · by_cases e : u = t ∧ f = 4
      · obtain ⟨rfl, rfl⟩ := e; rw [put1_s]; exact h4 rfl
      · rw [put1_o (by omega)]; exact k2
    · by_cases e : u = t ∧ f = 5
      · obtain ⟨rfl, rfl⟩ := e; rw [put1_s]; exact h5 rfl
      · rw [put1_o (by omega)]; exact k3
  · rw [put1_o (by omega)]; exact v4 q hq
  · rw [put1_o (by omega)]; exact w1
  · rw [put1_o (by omega)]; exact w2 x hx
  · obtain ⟨k1, k2, k3⟩ := w3 u hu
    refine ⟨?_, ?_, ?_⟩
    · by_cases e : u = t ∧ f = 1
      · obtain ⟨rfl, rfl⟩ := e; rw [put1_s]; exact h1 rfl
      · rw [put1_o (by omega)]; exact k1
    · by_cases e : u = t ∧ f = 2
      · obtain ⟨rfl, rfl⟩ := e; rw [put1_s]; exact h2 rfl
      · rw [put1_o (by omega)]; exact k2
    · by_cases e : u = t ∧ f = 3
      · obtain ⟨rfl, rfl⟩ := e; rw [put1_s]; exact h3 rfl
      · rw [put1_o (by omega)]; exact k3
  · obtain ⟨k1, k2, k3⟩ := w4 q hq
    exact ⟨by rw [put1_o (by omega)]; exact k1, by rw [put1_o (by omega)]; exact k2, fun x hx => by rw [put1_o (by omega)]; exact k3 x hx⟩
theorem Gd.ld {g : Nat → Int32} {m : Nat} (hm : m ≤ nt) : ∀ (f k : Nat) (r : Nat → Int32), Gd nt np r → Gd nt np (sLd g m f k r).2 := by
  intro f
  induction f with
  | zero => intro k r h; exact h
  | succ f ih =>
    intro k r h
    unfold sLd
    split
    · rename_i hk
      split
      · exact h
      · rename_i h2
        exact ih _ _ (h.pt (f := 2) (by omega) (by decide) (fun e => absurd e (by decide)) (fun e => absurd e (by decide)) (fun _ => le_k (by decide) (bI_ne0 h2)) (fun e => absurd e (by decide)) (fun e => absurd e (by decide)) (fun e => absurd e (by decide)))
    · exact h
theorem Gd.load {a1 : Int32} (h : Gd nt np r) : Gd (fLoad w z y nt np r a1).2.1 (fLoad w z y nt np r a1).2.2.1 (fLoad w z y nt np r a1).2.2.2 := by
  unfold fLoad
  split
  · exact h
  · exact Gd.ld (Nat.min_le_right _ _) _ _ _ h
theorem j_load {a1 : Int32} (hJ : J M) : JJ X 122 238 [.ref 0, .int a1] [.ref 66, .int a1] M Eq := by
  obtain ⟨nt, np, hR, h1, h2, hV, hr, hc⟩ := hJ.2.2.1
  refine J.join hJ (t122 hJ.1.1) (g122 hR hJ.rs.1 hV.1 (fun u _ => hJ.1.1.size u)) (fun M1 i => t238 i) (fun M1 i k => ?_) (Gd.load ⟨h1, h2, hV, hr⟩)
  rw [← k 76 (by decide), ← k 77 (by decide), ← k 78 (by decide)]
  exact g238 (k 67 (by decide)) (by rw [k 67 (by decide)]; exact h1) hV.1 (fun u _ => i.1.size u)
end EW
