/-! ===== what is asked of what will be, more; the reference ===== -/
def sWo (r : Nat → Int32) (nt np n k : Nat) (z : Int32 × Int32) : Int32 × Int32 :=
  (if sThick r nt - sThick (sDays (nI k) nt np n r) nt < z.2 then nI k else z.1, mn2 z.2 (sThick r nt - sThick (sDays (nI k) nt np n r) nt))
def sNd (r : Nat → Int32) (w : Int32) (nt np n t k : Nat) (z : Int32) : Int32 := if 0 < sDays w nt np n (put1 r (14 + 6 * t + 3) (nI (9 - k))) (14 + 6 * t + 2) then nI (9 - k) else z
def sLa (w : Int32) (nt np t : Nat) : Nat → Nat → (Nat → Int32) → Int32
  | 0, n, r => if r (14 + 6 * t + 2) = 0 then nI n else -1
  | f + 1, n, r => if r (14 + 6 * t + 2) = 0 then nI n else sLa w nt np t f (n + 1) (sDay w nt np r)
def sSe (goal walk : Int32) : Nat → Nat → Int32 → Int32 × Bool
  | 0, _, _ => (-1000004, true)
  | f + 1, n, x => if x = goal then (nI n, false) else sSe goal walk f (n + 1) (rem16 (x + walk))
def qWorst (r : Nat → Int32) (nt np : Nat) (a1 : Int32) : Int32 × Bool := if bI (nI 0 ≤ a1 ∧ a1 ≤ nI 60) = 0 then (-1000001, true) else orN (fo (sWo r nt np a1.toNatClampNeg) np (-1, 2147483647)).1
def qNeeds (r : Nat → Int32) (nt np : Nat) (a1 a2 : Int32) : Int32 × Bool := if bI (nI 0 ≤ a1 ∧ a1 ≤ nI nt - nI 1) = 0 then (-1000001, true) else if bI (nI 0 ≤ a2 ∧ a2 ≤ nI 60) = 0 then (-1000001, true) else orN (fo (sNd r (-1) nt np a2.toNatClampNeg a1.toNatClampNeg) 10 (-1))
def qLasts (r : Nat → Int32) (nt np : Nat) (a1 : Int32) : Int32 × Bool := if bI (nI 0 ≤ a1 ∧ a1 ≤ nI nt - nI 1) = 0 then (-1000001, true) else orN (sLa (-1) nt np a1.toNatClampNeg 100 0 r)
def qSees (r : Nat → Int32) (nt np : Nat) (a1 a2 : Int32) : Int32 × Bool := if bI (nI 0 ≤ a1 ∧ a1 ≤ nI np - nI 1) = 0 then (-1000001, true) else if bI (nI 0 ≤ a2 ∧ a2 ≤ nI nt - nI 1) = 0 then (-1000001, true) else sSe (r (14 + 6 * a2.toNatClampNeg + 1)) (r (62 + 7 * a1.toNatClampNeg + 2)) 16 0 (r (62 + 7 * a1.toNatClampNeg + 1))
section EH
variable {X : mSc} {Q : Option Value → mHp → Prop} {M : mM}
def Kz (M M1 : mM) : Prop := (Wf M → Wf M1) ∧ (∀ a, a ≠ 66 → a ≠ 69 → a ≠ 71 → M1 a = M a) ∧ M1 66 3 = M 66 3 ∧ M1 66 9 = M 66 9
theorem Kz.rf : Kz M M := ⟨fun h => h, fun _ _ _ _ => rfl, rfl, rfl⟩
theorem Kz.kr {M1 M2 : mM} (h : Kz M M1) (g : Kr M1 M2) : Kz M M2 := ⟨fun w => g.1 (h.1 w), fun a h1 h2 h3 => (g.2 a h2 h3).trans (h.2.1 a h1 h2 h3), by rw [g.2 66 (by decide) (by decide)]; exact h.2.2.1, by rw [g.2 66 (by decide) (by decide)]; exact h.2.2.2⟩
theorem Kz.put {M1 : mM} {v : Int32} (h : Kz M M1) : Kz M (mput M1 66 6 v) := ⟨fun w => (h.1 w).put0 (kd66 (by decide)), fun a h1 h2 h3 => (mpo h1).trans (h.2.1 a h1 h2 h3), (mpf (by decide)).trans h.2.2.1, (mpf (by decide)).trans h.2.2.2⟩
theorem Kz.fin {M1 : mM} (h : Kz M M1) (h6 : M 66 6 = -1) : Kq M (mput M1 66 6 (-1)) := ⟨h.put.1, fun a h1 h2 _ h4 _ => h.put.2.1 a h1 h2 h4, h.put.2.2.1, mp0.trans h6.symm, h.put.2.2.2⟩
theorem orn_fin {v v' : Int32} {q : Int32 × Bool} {M1 M2 : mM} (hq : q = orN v) (hk : Kq M M1) (h70 : M1 70 = M 70) (h : v' = (orN v).1 ∧ Kq M1 M2 ∧ Fq (orN v) M1 M2) : v' = q.1 ∧ Kq M M2 ∧ Fq q M M2 := by
  subst hq
  exact ⟨h.1, hk.to h.2.1, h.2.2.of h70⟩
theorem m188 {a : Nat} {nt np : Nat} (hW : Wf M) (hnt : M 67 1 = nI nt) (hn8 : nt ≤ 8) (hnp : M 67 2 = nI np) (hp8 : np ≤ 8) (h6 : M 66 6 = -1) (ha : a ≤ 1000) : ∀ (n k : Nat) (b l : Int32) (x5 : Option Value) (M1 : mM), np - k < n → k ≤ np → Kz M M1 → (b, l) = fo (sWo (M 67) nt np a) k (-1, 2147483647) → mEv X (QI (fun v M' => v = (orN (fo (sWo (M 67) nt np a) np (-1, 2147483647)).1).1 ∧ Kq M M' ∧ Fq (orN (fo (sWo (M 67) nt np a) np (-1, 2147483647)).1) M M')) 188 25 [some (.ref 66), some (.int (nI a)), some (.int b), some (.int l), some (.int (nI k)), x5] [] (con M1) := by
  have hm : mMet 188 = some _ := rfl
  intro n
  induction n with
  | zero =>
    intro k b l x5 M1 hkn hkb hS hz
    omega
  | succ n ih =>
    intro k b l x5 M1 hkn hkb hS hz
    have hp1 : M1 67 2 = nI np := (congrFun (hS.2.1 67 (by decide) (by decide) (by decide)) 2).trans hnp
    refine x_iload hm rfl rfl ?_
    refine x_aload_n hm rfl rfl ?_
    refine x_getf hm rfl (gR rfl rfl) ?_
    refine x_iconst hm rfl (v := nI 2) (by decide) ?_
    refine x_iald hm rfl (lI rfl (by omega) (by decide)) ?_
    rw [hp1]
    refine x_icmp_ge hm rfl (t := 75) rfl (fun h1 => ?_) (fun h1 => ?_)
    · have hkn2 : k = np := Nat.le_antisymm hkb ((jI_le (by omega) (by omega)).mp h1)
      rw [hkn2] at hz
      refine x_aload_n hm rfl rfl ?_
      refine x_iconst hm rfl (v := (-1 : Int32)) (by decide) ?_
      refine x_putf hm rfl (pI rfl rfl (by decide) (by first | exact mFit_int | rfl | decide) rfl) ?_
      refine x_aload_n hm rfl rfl ?_
      refine x_iload_n hm rfl rfl ?_
      refine x_cVi hm rfl rfl (e177) (fun v2 M2 r2 => ?_)
      refine x_iret hm rfl rfl (by first | rfl | exact bI_nar | decide) ?_
      obtain ⟨g1, g2, g3⟩ := orn_fin (M := M) (q := orN (fo (sWo (M 67) nt np a) np (-1, 2147483647)).1) (by rw [← hz]) (hS.fin h6) ((mpo (by decide)).trans (hS.2.1 70 (by decide) (by decide) (by decide))) r2
      exact ⟨_, _, rfl, rfl, g1, g2, g3⟩
    · have hk : k < np := Nat.lt_of_not_le fun h => h1 (nI_le h (by omega))
      refine x_aload_n hm rfl rfl ?_
      refine x_iload hm rfl rfl ?_
      refine x_putf hm rfl (pI rfl rfl (by decide) (by first | exact mFit_int | rfl | decide) rfl) ?_
      have hS2 := hS.put (v := nI k)
      have h67 : mput M1 66 6 (nI k) 67 = M 67 := hS2.2.1 67 (by decide) (by decide) (by decide)
      refine x_aload_n hm rfl rfl ?_
      refine x_iload_n hm rfl rfl ?_
      refine x_cVi hm rfl rfl (e180 (hS2.1 hW) ((congrFun h67 1).trans hnt) hn8 ((congrFun h67 2).trans hnp) hp8 ha) (fun v3 M3 r3 => ?_)
      have hv := r3.1
      rw [h67, mp0] at hv
      subst hv
      refine x_istore hm rfl rfl ?_
      refine x_iload hm rfl rfl ?_
      refine x_iload_n hm rfl rfl ?_
      refine x_icmp_ge hm rfl (t := 60) rfl (fun h4 => ?_) (fun h4 => ?_)
      · refine x_iload_n hm rfl rfl ?_
        refine x_istore_n hm rfl rfl ?_
        refine x_iload_n hm rfl rfl ?_
        refine x_iload hm rfl rfl ?_
        refine x_lib hm rfl rfl ?_
        dsimp only
        refine x_istore_n hm rfl rfl ?_
        refine x_iinc hm rfl rfl (v := nI 1) (by decide) rfl ?_
        rw [jI_add]
        refine x_goto hm rfl (t := 25) rfl ?_
        first
          | exact ih _ _ _ _ _ (by omega) (by omega) (hS2.kr r3.2) (by show _ = sWo (M 67) nt np a k _; rw [← hz]; unfold sWo mn2; dsimp only; rw [if_pos (by first | assumption | exact Int32.not_le.mp (by assumption)), if_pos (by first | assumption | exact Int32.not_le.mp (by assumption))])
          | exact ih _ _ _ _ _ (by omega) (by omega) (hS2.kr r3.2) (by show _ = sWo (M 67) nt np a k _; rw [← hz]; unfold sWo mn2; dsimp only; rw [if_neg (by first | assumption | exact Int32.not_lt.mpr (by assumption)), if_neg (by first | assumption | exact Int32.not_lt.mpr (by assumption))])
      · refine x_iload hm rfl rfl ?_
        refine x_goto hm rfl (t := 61) rfl ?_
        refine x_istore_n hm rfl rfl ?_
        refine x_iload_n hm rfl rfl ?_
        refine x_iload hm rfl rfl ?_
        refine x_lib hm rfl rfl ?_
        dsimp only
        refine x_istore_n hm rfl rfl ?_
        refine x_iinc hm rfl rfl (v := nI 1) (by decide) rfl ?_
        rw [jI_add]
        refine x_goto hm rfl (t := 25) rfl ?_
        first
          | exact ih _ _ _ _ _ (by omega) (by omega) (hS2.kr r3.2) (by show _ = sWo (M 67) nt np a k _; rw [← hz]; unfold sWo mn2; dsimp only; rw [if_pos (by first | assumption | exact Int32.not_le.mp (by assumption)), if_pos (by first | assumption | exact Int32.not_le.mp (by assumption))])
          | exact ih _ _ _ _ _ (by omega) (by omega) (hS2.kr r3.2) (by show _ = sWo (M 67) nt np a k _; rw [← hz]; unfold sWo mn2; dsimp only; rw [if_neg (by first | assumption | exact Int32.not_lt.mpr (by assumption)), if_neg (by first | assumption | exact Int32.not_lt.mpr (by assumption))])
theorem e188 {a1 : Int32} {nt np : Nat} (hW : Wf M) (hnt : M 67 1 = nI nt) (hn8 : nt ≤ 8) (hnp : M 67 2 = nI np) (hp8 : np ≤ 8) (h6 : M 66 6 = -1) : ∃ v M', mT X 188 [.ref 66, .int a1] (con M) (some (.int v)) (con M') ∧ v = (qWorst (M 67) nt np a1).1 ∧ Kq M M' ∧ Fq (qWorst (M 67) nt np a1) M M' := by
  refine ti_of (row := _) rfl (Nat.le_of_ble_eq_true rfl) ?_
  have hm : mMet 188 = some _ := rfl
  refine x_iload_n hm rfl rfl ?_
  refine x_iconst hm rfl (v := nI 0) (by decide) ?_
  refine x_bipush hm rfl (v := nI 60) (by decide) ?_
  refine x_callS hm rfl rfl (t133) ?_
  refine x_if_ne hm rfl (t := 17) rfl (fun h1 => ?_) (fun h1 => ?_)
  · obtain ⟨a, ha, rfl⟩ := le_k (by omega) (bI_ne0 h1)
    refine x_iconst hm rfl (v := (-1 : Int32)) (by decide) ?_
    refine x_istore_n hm rfl rfl ?_
    refine x_ldcI hm rfl (v := nI 2147483647) (by decide) ?_
    refine x_istore_n hm rfl rfl ?_
    refine x_iconst hm rfl (v := nI 0) (by decide) ?_
    refine x_istore hm rfl rfl ?_
    have hq : qWorst (M 67) nt np (nI a) = orN (fo (sWo (M 67) nt np a) np (-1, 2147483647)).1 := by
      unfold qWorst
      rw [if_neg (by assumption)]
      rw [jI_nat (k := a) (by omega)]
    rw [hq]
    exact m188 hW hnt hn8 hnp hp8 h6 (by omega) _ 0 _ _ _ _ (Nat.lt_succ_self _) (Nat.zero_le _) Kz.rf rfl
  · refine x_aload_n hm rfl rfl ?_
    refine x_ldcI hm rfl (v := (-1000001 : Int32)) (by decide) ?_
    refine x_callV hm rfl rfl (e135 (by decide)) ?_
    refine x_iret hm rfl rfl (by first | rfl | exact bI_nar | decide) ?_
    have hq : qWorst (M 67) nt np a1 = (-1000001, true) := by
      unfold qWorst
      first
        | rw [if_pos (by assumption)]
    exact ⟨_, _, rfl, rfl, congrArg Prod.fst hq.symm, fndR_kq, by rw [hq]; exact fndR_fq⟩
theorem m192 {t a : Nat} {nt np : Nat} (hW : Wf M) (hnt : M 67 1 = nI nt) (hn8 : nt ≤ 8) (hnp : M 67 2 = nI np) (hp8 : np ≤ 8) (h6 : M 66 6 = -1) (ht8 : t < 8) (ha : a ≤ 1000) : ∀ (n j : Nat) (b : Int32) (M1 : mM), j < n → j ≤ 10 → Ky (14 + 6 * t + 3) M M1 → b = fo (sNd (M 67) (-1) nt np a t) (10 - j) (-1) → mEv X (QI (fun v M' => v = (orN (fo (sNd (M 67) (-1) nt np a t) 10 (-1))).1 ∧ Kq M M' ∧ Fq (orN (fo (sNd (M 67) (-1) nt np a t) 10 (-1))) M M')) 192 39 [some (.ref 66), some (.int (nI t)), some (.int (nI a)), some (.int (M 67 (14 + 6 * t + 3))), some (.int b), some (.int (nI j + (-1)))] [] (con M1) := by
  have hm : mMet 192 = some _ := rfl
  intro n
  induction n with
  | zero =>
    intro j b M1 hjn hj10 hS hz
    omega
  | succ n ih =>
    intro j b M1 hjn hj10 hS hz
    refine x_iload hm rfl rfl ?_
    refine x_if_lt hm rfl (t := 80) rfl (fun h1 => ?_) (fun h1 => ?_)
    · obtain rfl : j = 0 := by
        cases j with
        | zero => rfl
        | succ i => rw [dec1] at h1; exact absurd h1 (jI_nn (by omega))
      refine x_aload_n hm rfl rfl ?_
      refine x_getf hm rfl (gR rfl rfl) ?_
      refine x_iload_n hm rfl rfl ?_
      refine x_iconst hm rfl (v := nI 3) (by decide) ?_
      refine x_callS hm rfl rfl (t137) ?_
      refine x_iload_n hm rfl rfl ?_
      refine x_iast hm rfl (sI rfl (by omega) (by decide)) ?_
      have hF := hS.fin (Sf.thing (M := M1) ht8 (by decide : 3 < 5) (by decide) (by decide))
      refine x_aload_n hm rfl rfl ?_
      refine x_iload hm rfl rfl ?_
      refine x_cVi hm rfl rfl (e177) (fun v2 M2 r2 => ?_)
      refine x_iret hm rfl rfl (by first | rfl | exact bI_nar | decide) ?_
      obtain ⟨g1, g2, g3⟩ := orn_fin (M := M) (q := orN (fo (sNd (M 67) (-1) nt np a t) 10 (-1))) (congrArg orN hz.symm) hF.kq (hF.2 70 (by decide) (by decide)) r2
      exact ⟨_, _, rfl, rfl, g1, g2, g3⟩
    · obtain ⟨i, rfl⟩ : ∃ i, j = i + 1 := by
        cases j with
        | zero => exact absurd (by decide) h1
        | succ i => exact ⟨i, rfl⟩
      rw [dec1]
      refine x_aload_n hm rfl rfl ?_
      refine x_getf hm rfl (gR rfl rfl) ?_
      refine x_iload_n hm rfl rfl ?_
      refine x_iconst hm rfl (v := nI 3) (by decide) ?_
      refine x_callS hm rfl rfl (t137) ?_
      refine x_iload hm rfl rfl ?_
      refine x_iast hm rfl (sI rfl (by omega) (by decide)) ?_
      obtain ⟨hS2, hrow⟩ := hS.put (v := nI i) (Sf.thing (M := M1) (v := nI i) ht8 (by decide : 3 < 5) (by decide) (by decide))
      have h66 : mput M1 67 (14 + 6 * t + 3) (nI i) 66 6 = -1 := by rw [hS2.2.2 66 (by decide) (by decide) (by decide)]; exact h6
      refine x_aload_n hm rfl rfl ?_
      refine x_iload_n hm rfl rfl ?_
      refine x_iload_n hm rfl rfl ?_
      refine x_cVi hm rfl rfl (e173 (hS2.1.1 hW) (hS2.1.2.1.trans hnt) hn8 (hS2.1.2.2.1.trans hnp) hp8 ht8 ha) (fun v3 M3 r3 => ?_)
      have hv := r3.1
      rw [hrow, h66] at hv
      subst hv
      refine x_if_le hm rfl (t := 70) rfl (fun h4 => ?_) (fun h4 => ?_)
      · have hng := Int32.not_lt.mpr h4
        refine x_iload hm rfl rfl ?_
        refine x_istore hm rfl rfl ?_
        refine x_iinc hm rfl rfl (v := (-1 : Int32)) (by decide) rfl ?_
        refine x_goto hm rfl (t := 39) rfl ?_
        have e9 : 10 - i = (10 - (i + 1)) + 1 := by omega
        have e8 : 9 - (10 - (i + 1)) = i := by omega
        first
          | exact ih i _ _ (by omega) (by omega) (hS2.kr r3.2) (by rw [e9]; show _ = sNd (M 67) (-1) nt np a t _ _; unfold sNd; rw [e8, if_pos hps])
          | exact ih i _ _ (by omega) (by omega) (hS2.kr r3.2) (by rw [e9]; show _ = sNd (M 67) (-1) nt np a t _ _; unfold sNd; rw [e8, if_neg hng]; exact hz)
      · have hps := Int32.not_le.mp h4
        refine x_iload hm rfl rfl ?_
        refine x_goto hm rfl (t := 72) rfl ?_
        refine x_istore hm rfl rfl ?_
        refine x_iinc hm rfl rfl (v := (-1 : Int32)) (by decide) rfl ?_
        refine x_goto hm rfl (t := 39) rfl ?_
        have e9 : 10 - i = (10 - (i + 1)) + 1 := by omega
        have e8 : 9 - (10 - (i + 1)) = i := by omega
        first
          | exact ih i _ _ (by omega) (by omega) (hS2.kr r3.2) (by rw [e9]; show _ = sNd (M 67) (-1) nt np a t _ _; unfold sNd; rw [e8, if_pos hps])
          | exact ih i _ _ (by omega) (by omega) (hS2.kr r3.2) (by rw [e9]; show _ = sNd (M 67) (-1) nt np a t _ _; unfold sNd; rw [e8, if_neg hng]; exact hz)
theorem e192 {a1 a2 : Int32} {nt np : Nat} (hW : Wf M) (hnt : M 67 1 = nI nt) (hn8 : nt ≤ 8) (hnp : M 67 2 = nI np) (hp8 : np ≤ 8) (h6 : M 66 6 = -1) : ∃ v M', mT X 192 [.ref 66, .int a1, .int a2] (con M) (some (.int v)) (con M') ∧ v = (qNeeds (M 67) nt np a1 a2).1 ∧ Kq M M' ∧ Fq (qNeeds (M 67) nt np a1 a2) M M' := by
  refine ti_of (row := _) rfl (Nat.le_of_ble_eq_true rfl) ?_
  have hm : mMet 192 = some _ := rfl
  refine x_aload_n hm rfl rfl ?_
  refine x_iload_n hm rfl rfl ?_
  refine x_callV hm rfl rfl (t139) ?_
  rw [hnt]
  refine x_if_eq hm rfl (t := 18) rfl (fun h1 => ?_) (fun h1 => ?_)
  · refine x_aload_n hm rfl rfl ?_
    refine x_ldcI hm rfl (v := (-1000001 : Int32)) (by decide) ?_
    refine x_callV hm rfl rfl (e135 (by decide)) ?_
    refine x_iret hm rfl rfl (by first | rfl | exact bI_nar | decide) ?_
    first
      | (have hq : qNeeds (M 67) nt np a1 a2 = (-1000001, true) := by
           unfold qNeeds
           first
             | rw [if_pos (by assumption)]
         exact ⟨_, _, rfl, rfl, congrArg Prod.fst hq.symm, fndR_kq, by rw [hq]; exact fndR_fq⟩)
      | (have hq : qNeeds (M 67) nt np (nI t) a2 = (-1000001, true) := by
           unfold qNeeds
           first
             | rw [if_pos (by assumption)]
             | rw [if_neg (by assumption), if_pos (by assumption)]
         exact ⟨_, _, rfl, rfl, congrArg Prod.fst hq.symm, fndR_kq, by rw [hq]; exact fndR_fq⟩)
  · obtain ⟨t, ht, rfl⟩ := in_k rfl (by omega) (bI_ne0 h1)
    refine x_iload_n hm rfl rfl ?_
    refine x_iconst hm rfl (v := nI 0) (by decide) ?_
    refine x_bipush hm rfl (v := nI 60) (by decide) ?_
    refine x_callS hm rfl rfl (t133) ?_
    refine x_if_ne hm rfl (t := 25) rfl (fun h2 => ?_) (fun h2 => ?_)
    · obtain ⟨a, ha, rfl⟩ := le_k (by omega) (bI_ne0 h2)
      refine x_aload_n hm rfl rfl ?_
      refine x_iload_n hm rfl rfl ?_
      refine x_iconst hm rfl (v := nI 3) (by decide) ?_
      refine x_callV hm rfl rfl (t143 (by omega) (by omega)) ?_
      refine x_istore_n hm rfl rfl ?_
      refine x_iconst hm rfl (v := (-1 : Int32)) (by decide) ?_
      refine x_istore hm rfl rfl ?_
      refine x_bipush hm rfl (v := nI 9) (by decide) ?_
      refine x_istore hm rfl rfl ?_
      have hq : qNeeds (M 67) nt np (nI t) (nI a) = orN (fo (sNd (M 67) (-1) nt np a t) 10 (-1)) := by
        unfold qNeeds
        rw [if_neg (by assumption), if_neg (by assumption)]
        rw [jI_nat (k := t) (by omega)]
        rw [jI_nat (k := a) (by omega)]
      rw [hq, show (nI 9 : Int32) = nI 10 + (-1) by decide]
      exact m192 hW hnt hn8 hnp hp8 h6 (by omega) (by omega) _ 10 _ _ (Nat.lt_succ_self _) (Nat.le_refl _) Ky.rf rfl
    · refine x_aload_n hm rfl rfl ?_
      refine x_ldcI hm rfl (v := (-1000001 : Int32)) (by decide) ?_
      refine x_callV hm rfl rfl (e135 (by decide)) ?_
      refine x_iret hm rfl rfl (by first | rfl | exact bI_nar | decide) ?_
      first
        | (have hq : qNeeds (M 67) nt np a1 a2 = (-1000001, true) := by
             unfold qNeeds
             first
               | rw [if_pos (by assumption)]
           exact ⟨_, _, rfl, rfl, congrArg Prod.fst hq.symm, fndR_kq, by rw [hq]; exact fndR_fq⟩)
        | (have hq : qNeeds (M 67) nt np (nI t) a2 = (-1000001, true) := by
             unfold qNeeds
             first
               | rw [if_pos (by assumption)]
               | rw [if_neg (by assumption), if_pos (by assumption)]
           exact ⟨_, _, rfl, rfl, congrArg Prod.fst hq.symm, fndR_kq, by rw [hq]; exact fndR_fq⟩)
theorem la_g {w : Int32} {nt np t k : Nat} {r : Nat → Int32} {f : Nat} (h : r (14 + 6 * t + 2) = 0) : sLa w nt np t f k r = nI k := by
  cases f <;> exact if_pos h
theorem la_n {w : Int32} {nt np t k : Nat} {r : Nat → Int32} (hk : k = 100) (h : ¬ r (14 + 6 * t + 2) = 0) : sLa w nt np t (100 - k) k r = -1 := by
  subst hk
  exact if_neg h
theorem la_s {w : Int32} {nt np t k : Nat} {r : Nat → Int32} (hk : k < 100) (h : ¬ sDays w nt np k r (14 + 6 * t + 2) = 0) : sLa w nt np t (100 - k) k (sDays w nt np k r) = sLa w nt np t (100 - (k + 1)) (k + 1) (sDays w nt np (k + 1) r) := by
  rw [show 100 - k = (100 - (k + 1)) + 1 by omega]
  exact if_neg h
theorem m176 {t : Nat} {nt np : Nat} (hW : Wf M) (hnt : M 67 1 = nI nt) (hn8 : nt ≤ 8) (hnp : M 67 2 = nI np) (hp8 : np ≤ 8) (h6 : M 66 6 = -1) (ht8 : t < 8) : ∀ (n k : Nat) (M1 : mM), 100 - k < n → k ≤ 100 → Dy (cp M 67 69 118) M1 → Dd (sDays (-1) nt np k (M 67)) (cp M 67 69 118) M1 → mEv X (QI (fun v M' => v = (orN (sLa (-1) nt np t (100 - k) k (sDays (-1) nt np k (M 67)))).1 ∧ Kq M M' ∧ Fq (orN (sLa (-1) nt np t (100 - k) k (sDays (-1) nt np k (M 67)))) M M')) 176 28 [some (.ref 66), some (.int (nI t)), some (.int (nI k))] [] (con M1) := by
  have hm : mMet 176 = some _ := rfl
  intro n
  induction n with
  | zero =>
    intro k M1 hkn hkb hD hd
    omega
  | succ n ih =>
    intro k M1 hkn hkb hD hd
    have hthk : M1 67 (14 + 6 * t + 2) = sDays (-1) nt np k (M 67) (14 + 6 * t + 2) := congrFun hd.1 _
    have hB := Kr.back hD hd (fun j hj => sDays_118 hn8 hp8 hj _)
    refine x_iload_n hm rfl rfl ?_
    refine x_bipush hm rfl (v := nI 100) (by decide) ?_
    refine x_icmp_ge hm rfl (t := 52) rfl (fun h1 => ?_) (fun h1 => ?_)
    · have hk100 : k = 100 := Nat.le_antisymm hkb ((jI_le (by decide) (by omega)).mp h1)
      refine x_aload_n hm rfl rfl ?_
      refine x_aload_n hm rfl rfl ?_
      refine x_aload_n hm rfl rfl ?_
      refine x_iload_n hm rfl rfl ?_
      refine x_callV hm rfl rfl (t146 (by omega)) ?_
      rw [hthk]
      refine x_if_eq hm rfl (t := 66) rfl (fun h2 => ?_) (fun h2 => ?_)
      · have hl : sLa (-1) nt np t (100 - k) k (sDays (-1) nt np k (M 67)) = -1 := by
          first
          | exact la_n hk100 (bI_eq0.mp h2)
          | exact absurd h2 (by assumption)
        refine x_iconst hm rfl (v := (-1 : Int32)) (by decide) ?_
        refine x_callV hm rfl rfl (t175) ?_
        refine x_cVi hm rfl rfl (e177) (fun v3 M3 r3 => ?_)
        refine x_iret hm rfl rfl (by first | rfl | exact bI_nar | decide) ?_
        first
          | exact ⟨_, _, rfl, rfl, orn_fin (M := M) (q := orN (sLa (-1) nt np t (100 - k) k (sDays (-1) nt np k (M 67)))) (by rw [hl]) hB.kq (hB.2 70 (by decide) (by decide)) r3⟩
          | exact ⟨_, _, rfl, rfl, orn_fin (M := M) (q := orN (sLa (-1) nt np t (100 - k) k (sDays (-1) nt np k (M 67)))) (by rw [hl]) hB.kq (hB.2 70 (by decide) (by decide)) r4⟩
          | exact ⟨_, _, rfl, rfl, orn_fin (M := M) (q := orN (sLa (-1) nt np t (100 - k) k (sDays (-1) nt np k (M 67)))) (by rw [hl]) hB.kq (hB.2 70 (by decide) (by decide)) r8⟩
          | exact ⟨_, _, rfl, rfl, orn_fin (M := M) (q := orN (sLa (-1) nt np t (100 - k) k (sDays (-1) nt np k (M 67)))) (by rw [hl]) hB.kq (hB.2 70 (by decide) (by decide)) r7⟩
      · have hl : sLa (-1) nt np t (100 - k) k (sDays (-1) nt np k (M 67)) = nI k := la_g (bI_ne0 h2)
        refine x_iload_n hm rfl rfl ?_
        refine x_goto hm rfl (t := 67) rfl ?_
        refine x_callV hm rfl rfl (t175) ?_
        refine x_cVi hm rfl rfl (e177) (fun v4 M4 r4 => ?_)
        refine x_iret hm rfl rfl (by first | rfl | exact bI_nar | decide) ?_
        first
          | exact ⟨_, _, rfl, rfl, orn_fin (M := M) (q := orN (sLa (-1) nt np t (100 - k) k (sDays (-1) nt np k (M 67)))) (by rw [hl]) hB.kq (hB.2 70 (by decide) (by decide)) r4⟩
          | exact ⟨_, _, rfl, rfl, orn_fin (M := M) (q := orN (sLa (-1) nt np t (100 - k) k (sDays (-1) nt np k (M 67)))) (by rw [hl]) hB.kq (hB.2 70 (by decide) (by decide)) r3⟩
          | exact ⟨_, _, rfl, rfl, orn_fin (M := M) (q := orN (sLa (-1) nt np t (100 - k) k (sDays (-1) nt np k (M 67)))) (by rw [hl]) hB.kq (hB.2 70 (by decide) (by decide)) r8⟩
          | exact ⟨_, _, rfl, rfl, orn_fin (M := M) (q := orN (sLa (-1) nt np t (100 - k) k (sDays (-1) nt np k (M 67)))) (by rw [hl]) hB.kq (hB.2 70 (by decide) (by decide)) r7⟩
    · have hk : k < 100 := Nat.lt_of_not_le fun h => h1 (nI_le h (by omega))
      refine x_aload_n hm rfl rfl ?_
      refine x_iload_n hm rfl rfl ?_
      refine x_callV hm rfl rfl (t146 (by omega)) ?_
      rw [hthk]
      refine x_if_ne hm rfl (t := 52) rfl (fun h5 => ?_) (fun h5 => ?_)
      · refine x_aload_n hm rfl rfl ?_
        refine x_aload_n hm rfl rfl ?_
        refine x_aload_n hm rfl rfl ?_
        refine x_iload_n hm rfl rfl ?_
        refine x_callV hm rfl rfl (t146 (by omega)) ?_
        rw [hthk]
        refine x_if_eq hm rfl (t := 66) rfl (fun h6 => ?_) (fun h6 => ?_)
        · have hl : sLa (-1) nt np t (100 - k) k (sDays (-1) nt np k (M 67)) = -1 := by
            first
            | exact la_n hk100 (bI_eq0.mp h6)
            | exact absurd h6 (by assumption)
          refine x_iconst hm rfl (v := (-1 : Int32)) (by decide) ?_
          refine x_callV hm rfl rfl (t175) ?_
          refine x_cVi hm rfl rfl (e177) (fun v7 M7 r7 => ?_)
          refine x_iret hm rfl rfl (by first | rfl | exact bI_nar | decide) ?_
          first
            | exact ⟨_, _, rfl, rfl, orn_fin (M := M) (q := orN (sLa (-1) nt np t (100 - k) k (sDays (-1) nt np k (M 67)))) (by rw [hl]) hB.kq (hB.2 70 (by decide) (by decide)) r7⟩
            | exact ⟨_, _, rfl, rfl, orn_fin (M := M) (q := orN (sLa (-1) nt np t (100 - k) k (sDays (-1) nt np k (M 67)))) (by rw [hl]) hB.kq (hB.2 70 (by decide) (by decide)) r4⟩
            | exact ⟨_, _, rfl, rfl, orn_fin (M := M) (q := orN (sLa (-1) nt np t (100 - k) k (sDays (-1) nt np k (M 67)))) (by rw [hl]) hB.kq (hB.2 70 (by decide) (by decide)) r3⟩
            | exact ⟨_, _, rfl, rfl, orn_fin (M := M) (q := orN (sLa (-1) nt np t (100 - k) k (sDays (-1) nt np k (M 67)))) (by rw [hl]) hB.kq (hB.2 70 (by decide) (by decide)) r8⟩
        · have hl : sLa (-1) nt np t (100 - k) k (sDays (-1) nt np k (M 67)) = nI k := la_g (bI_ne0 h6)
          refine x_iload_n hm rfl rfl ?_
          refine x_goto hm rfl (t := 67) rfl ?_
          refine x_callV hm rfl rfl (t175) ?_
          refine x_cVi hm rfl rfl (e177) (fun v8 M8 r8 => ?_)
          refine x_iret hm rfl rfl (by first | rfl | exact bI_nar | decide) ?_
          first
            | exact ⟨_, _, rfl, rfl, orn_fin (M := M) (q := orN (sLa (-1) nt np t (100 - k) k (sDays (-1) nt np k (M 67)))) (by rw [hl]) hB.kq (hB.2 70 (by decide) (by decide)) r8⟩
            | exact ⟨_, _, rfl, rfl, orn_fin (M := M) (q := orN (sLa (-1) nt np t (100 - k) k (sDays (-1) nt np k (M 67)))) (by rw [hl]) hB.kq (hB.2 70 (by decide) (by decide)) r4⟩
            | exact ⟨_, _, rfl, rfl, orn_fin (M := M) (q := orN (sLa (-1) nt np t (100 - k) k (sDays (-1) nt np k (M 67)))) (by rw [hl]) hB.kq (hB.2 70 (by decide) (by decide)) r3⟩
            | exact ⟨_, _, rfl, rfl, orn_fin (M := M) (q := orN (sLa (-1) nt np t (100 - k) k (sDays (-1) nt np k (M 67)))) (by rw [hl]) hB.kq (hB.2 70 (by decide) (by decide)) r7⟩
      · refine x_aload_n hm rfl rfl ?_
        refine x_cVv hm rfl rfl (e165 (hD.1.1 hW.aside) (hD.1.2.1.trans ((congrFun (cp_o (by decide)) 1).trans hnt)) hn8 (hD.1.2.2.1.trans ((congrFun (cp_o (by decide)) 2).trans hnp)) hp8) (fun M9 r9 => ?_)
        refine x_iinc hm rfl rfl (v := nI 1) (by decide) rfl ?_
        rw [jI_add]
        refine x_goto hm rfl (t := 28) rfl ?_
        first
          | (have hs := hd.to r9.2
             rw [hd.1, hd.2 66 (by decide) (by decide), cp_o (by decide), h6] at hs
             have h9 := ih (k + 1) _ (by omega) (by omega) (hD.trans r9.1) hs
             rw [la_s hk (bI_eq0.mp (by assumption))]
             exact h9)
theorem e176 {a1 : Int32} {nt np : Nat} (hW : Wf M) (hnt : M 67 1 = nI nt) (hn8 : nt ≤ 8) (hnp : M 67 2 = nI np) (hp8 : np ≤ 8) (h6 : M 66 6 = -1) : ∃ v M', mT X 176 [.ref 66, .int a1] (con M) (some (.int v)) (con M') ∧ v = (qLasts (M 67) nt np a1).1 ∧ Kq M M' ∧ Fq (qLasts (M 67) nt np a1) M M' := by
  refine ti_of (row := _) rfl (Nat.le_of_ble_eq_true rfl) ?_
  have hm : mMet 176 = some _ := rfl
  refine x_aload_n hm rfl rfl ?_
  refine x_iload_n hm rfl rfl ?_
  refine x_callV hm rfl rfl (t139) ?_
  rw [hnt]
  refine x_if_ne hm rfl (t := 15) rfl (fun h1 => ?_) (fun h1 => ?_)
  · obtain ⟨t, ht, rfl⟩ := in_k rfl (by omega) (bI_ne0 h1)
    refine x_aload_n hm rfl rfl ?_
    refine x_getf hm rfl (gR rfl rfl) ?_
    refine x_aload_n hm rfl rfl ?_
    refine x_getf hm rfl (gR rfl rfl) ?_
    refine x_callS hm rfl rfl (t174 rfl rfl (by decide)) ?_
    refine x_iconst hm rfl (v := nI 0) (by decide) ?_
    refine x_istore_n hm rfl rfl ?_
    have hq : qLasts (M 67) nt np (nI t) = orN (sLa (-1) nt np t (100 - 0) 0 (sDays (-1) nt np 0 (M 67))) := by
      unfold qLasts
      rw [if_neg (by assumption)]
      rw [jI_nat (k := t) (by omega)]
      rfl
    rw [hq]
    exact m176 hW hnt hn8 hnp hp8 h6 (by omega) _ 0 _ (Nat.lt_succ_self _) (Nat.zero_le _) Dy.rf (by have h := Dd.rf (M := cp M 67 69 118); rw [cp_o (by decide)] at h; exact h)
  · refine x_aload_n hm rfl rfl ?_
    refine x_ldcI hm rfl (v := (-1000001 : Int32)) (by decide) ?_
    refine x_callV hm rfl rfl (e135 (by decide)) ?_
    refine x_iret hm rfl rfl (by first | rfl | exact bI_nar | decide) ?_
    have hq : qLasts (M 67) nt np a1 = (-1000001, true) := by
      unfold qLasts
      first
        | rw [if_pos (by assumption)]
    exact ⟨_, _, rfl, rfl, congrArg Prod.fst hq.symm, fndR_kq, by rw [hq]; exact fndR_fq⟩
theorem m181 {p t : Nat} (hp : p < 8) (ht : t < 8) : ∀ (n k : Nat) (x : Int32), 16 - k < n → k ≤ 16 → mEv X (QI (fun v M' => v = (sSe (M 67 (14 + 6 * t + 1)) (M 67 (62 + 7 * p + 2)) (16 - k) k x).1 ∧ Kq M M' ∧ Fq (sSe (M 67 (14 + 6 * t + 1)) (M 67 (62 + 7 * p + 2)) (16 - k) k x) M M')) 181 33 [some (.ref 66), some (.int (nI p)), some (.int (nI t)), some (.int x), some (.int (nI k))] [] (con M) := by
  have hm : mMet 181 = some _ := rfl
  intro n
  induction n with
  | zero =>
    intro k x hkn hkb
    omega
  | succ n ih =>
    intro k x hkn hkb
    refine x_iload hm rfl rfl ?_
    refine x_bipush hm rfl (v := nI 16) (by decide) ?_
    refine x_icmp_ge hm rfl (t := 68) rfl (fun h1 => ?_) (fun h1 => ?_)
    · obtain rfl : k = 16 := Nat.le_antisymm hkb ((jI_le (by decide) (by omega)).mp h1)
      refine x_iload hm rfl rfl ?_
      refine x_bipush hm rfl (v := nI 16) (by decide) ?_
      refine x_icmp_ge hm rfl (t := 80) rfl (fun h2 => ?_) (fun h2 => ?_)
      · refine x_aload_n hm rfl rfl ?_
        refine x_ldcI hm rfl (v := (-1000004 : Int32)) (by decide) ?_
        refine x_callV hm rfl rfl (e135 (by decide)) ?_
        refine x_iret hm rfl rfl (by first | rfl | exact bI_nar | decide) ?_
        first
          | exact ⟨_, _, rfl, rfl, rfl, fndR_kq, fndR_fq⟩
          | (have hq : sSe (M 67 (14 + 6 * t + 1)) (M 67 (62 + 7 * p + 2)) ((16 - (k + 1)) + 1) k x = (nI k, false) := if_pos (by assumption)
             exact ⟨_, _, rfl, rfl, fst_q hq, Kq.rf, by rw [hq]; exact rfl⟩)
          | exact absurd (show nI 16 ≤ nI k by assumption) (show ¬ nI 16 ≤ nI k by assumption)
          | exact absurd (nI_le (Nat.le_refl 16) (by decide)) (by assumption)
      · refine x_iload hm rfl rfl ?_
        refine x_goto hm rfl (t := 86) rfl ?_
        refine x_iret hm rfl rfl (by first | rfl | exact bI_nar | decide) ?_
        first
          | exact ⟨_, _, rfl, rfl, rfl, fndR_kq, fndR_fq⟩
          | (have hq : sSe (M 67 (14 + 6 * t + 1)) (M 67 (62 + 7 * p + 2)) ((16 - (k + 1)) + 1) k x = (nI k, false) := if_pos (by assumption)
             exact ⟨_, _, rfl, rfl, fst_q hq, Kq.rf, by rw [hq]; exact rfl⟩)
          | exact absurd (show nI 16 ≤ nI k by assumption) (show ¬ nI 16 ≤ nI k by assumption)
          | exact absurd (nI_le (Nat.le_refl 16) (by decide)) (by assumption)
    · have hk : k < 16 := Nat.lt_of_not_le fun h => h1 (nI_le h (by omega))
      have e16 : 16 - k = (16 - (k + 1)) + 1 := by omega
      rw [e16]
      refine x_iload_n hm rfl rfl ?_
      refine x_aload_n hm rfl rfl ?_
      refine x_iload_n hm rfl rfl ?_
      refine x_iconst hm rfl (v := nI 1) (by decide) ?_
      refine x_callV hm rfl rfl (t143 (by omega) (by omega)) ?_
      refine x_icmp_eq hm rfl (t := 68) rfl (fun h3 => ?_) (fun h3 => ?_)
      · refine x_iload hm rfl rfl ?_
        refine x_bipush hm rfl (v := nI 16) (by decide) ?_
        refine x_icmp_ge hm rfl (t := 80) rfl (fun h4 => ?_) (fun h4 => ?_)
        · refine x_aload_n hm rfl rfl ?_
          refine x_ldcI hm rfl (v := (-1000004 : Int32)) (by decide) ?_
          refine x_callV hm rfl rfl (e135 (by decide)) ?_
          refine x_iret hm rfl rfl (by first | rfl | exact bI_nar | decide) ?_
          first
            | exact ⟨_, _, rfl, rfl, rfl, fndR_kq, fndR_fq⟩
            | (have hq : sSe (M 67 (14 + 6 * t + 1)) (M 67 (62 + 7 * p + 2)) ((16 - (k + 1)) + 1) k x = (nI k, false) := if_pos (by assumption)
               exact ⟨_, _, rfl, rfl, fst_q hq, Kq.rf, by rw [hq]; exact rfl⟩)
            | exact absurd (show nI 16 ≤ nI k by assumption) (show ¬ nI 16 ≤ nI k by assumption)
            | exact absurd (nI_le (Nat.le_refl 16) (by decide)) (by assumption)
        · refine x_iload hm rfl rfl ?_
          refine x_goto hm rfl (t := 86) rfl ?_
          refine x_iret hm rfl rfl (by first | rfl | exact bI_nar | decide) ?_
          first
            | exact ⟨_, _, rfl, rfl, rfl, fndR_kq, fndR_fq⟩
            | (have hq : sSe (M 67 (14 + 6 * t + 1)) (M 67 (62 + 7 * p + 2)) ((16 - (k + 1)) + 1) k x = (nI k, false) := if_pos (by assumption)
               exact ⟨_, _, rfl, rfl, fst_q hq, Kq.rf, by rw [hq]; exact rfl⟩)
            | exact absurd (show nI 16 ≤ nI k by assumption) (show ¬ nI 16 ≤ nI k by assumption)
            | exact absurd (nI_le (Nat.le_refl 16) (by decide)) (by assumption)
      · refine x_iload_n hm rfl rfl ?_
        refine x_aload_n hm rfl rfl ?_
        refine x_iload_n hm rfl rfl ?_
        refine x_iconst hm rfl (v := nI 2) (by decide) ?_
        refine x_callV hm rfl rfl (t141 (by omega) (by omega)) ?_
        refine x_iadd hm rfl ?_
        refine x_bipush hm rfl (v := nI 16) (by decide) ?_
        refine x_irem hm rfl (by decide) ?_
        refine x_istore_n hm rfl rfl ?_
        refine x_iinc hm rfl rfl (v := nI 1) (by decide) rfl ?_
        rw [jI_add]
        refine x_goto hm rfl (t := 33) rfl ?_
        rw [show sSe (M 67 (14 + 6 * t + 1)) (M 67 (62 + 7 * p + 2)) ((16 - (k + 1)) + 1) k x = sSe (M 67 (14 + 6 * t + 1)) (M 67 (62 + 7 * p + 2)) (16 - (k + 1)) (k + 1) (rem16 (x + M 67 (62 + 7 * p + 2))) from if_neg (by assumption)]
        exact ih _ _ (by omega) (by omega)
theorem e181 {a1 a2 : Int32} {nt np : Nat} (hW : Wf M) (hnt : M 67 1 = nI nt) (hn8 : nt ≤ 8) (hnp : M 67 2 = nI np) (hp8 : np ≤ 8) (h6 : M 66 6 = -1) : ∃ v M', mT X 181 [.ref 66, .int a1, .int a2] (con M) (some (.int v)) (con M') ∧ v = (qSees (M 67) nt np a1 a2).1 ∧ Kq M M' ∧ Fq (qSees (M 67) nt np a1 a2) M M' := by
  refine ti_of (row := _) rfl (Nat.le_of_ble_eq_true rfl) ?_
  have hm : mMet 181 = some _ := rfl
  refine x_aload_n hm rfl rfl ?_
  refine x_iload_n hm rfl rfl ?_
  refine x_callV hm rfl rfl (t153) ?_
  rw [hnp]
  refine x_if_eq hm rfl (t := 16) rfl (fun h1 => ?_) (fun h1 => ?_)
  · refine x_aload_n hm rfl rfl ?_
    refine x_ldcI hm rfl (v := (-1000001 : Int32)) (by decide) ?_
    refine x_callV hm rfl rfl (e135 (by decide)) ?_
    refine x_iret hm rfl rfl (by first | rfl | exact bI_nar | decide) ?_
    first
      | (have hq : qSees (M 67) nt np a1 a2 = (-1000001, true) := by
           unfold qSees
           first
             | rw [if_pos (by assumption)]
         exact ⟨_, _, rfl, rfl, congrArg Prod.fst hq.symm, fndR_kq, by rw [hq]; exact fndR_fq⟩)
      | (have hq : qSees (M 67) nt np (nI p) a2 = (-1000001, true) := by
           unfold qSees
           first
             | rw [if_pos (by assumption)]
             | rw [if_neg (by assumption), if_pos (by assumption)]
         exact ⟨_, _, rfl, rfl, congrArg Prod.fst hq.symm, fndR_kq, by rw [hq]; exact fndR_fq⟩)
  · obtain ⟨p, hp, rfl⟩ := in_k rfl (by omega) (bI_ne0 h1)
    refine x_aload_n hm rfl rfl ?_
    refine x_iload_n hm rfl rfl ?_
    refine x_callV hm rfl rfl (t139) ?_
    rw [hnt]
    refine x_if_ne hm rfl (t := 23) rfl (fun h2 => ?_) (fun h2 => ?_)
    · obtain ⟨t, ht, rfl⟩ := in_k rfl (by omega) (bI_ne0 h2)
      refine x_aload_n hm rfl rfl ?_
      refine x_iload_n hm rfl rfl ?_
      refine x_iconst hm rfl (v := nI 1) (by decide) ?_
      refine x_callV hm rfl rfl (t141 (by omega) (by omega)) ?_
      refine x_istore_n hm rfl rfl ?_
      refine x_iconst hm rfl (v := nI 0) (by decide) ?_
      refine x_istore hm rfl rfl ?_
      have hq : qSees (M 67) nt np (nI p) (nI t) = sSe (M 67 (14 + 6 * t + 1)) (M 67 (62 + 7 * p + 2)) (16 - 0) 0 (M 67 (62 + 7 * p + 1)) := by
        unfold qSees
        rw [if_neg (by assumption), if_neg (by assumption)]
        rw [jI_nat (k := p) (by omega)]
        rw [jI_nat (k := t) (by omega)]
      rw [hq]
      exact m181 (by omega) (by omega) _ 0 _ (Nat.lt_succ_self _) (Nat.zero_le _)
    · refine x_aload_n hm rfl rfl ?_
      refine x_ldcI hm rfl (v := (-1000001 : Int32)) (by decide) ?_
      refine x_callV hm rfl rfl (e135 (by decide)) ?_
      refine x_iret hm rfl rfl (by first | rfl | exact bI_nar | decide) ?_
      first
        | (have hq : qSees (M 67) nt np a1 a2 = (-1000001, true) := by
             unfold qSees
             first
               | rw [if_pos (by assumption)]
           exact ⟨_, _, rfl, rfl, congrArg Prod.fst hq.symm, fndR_kq, by rw [hq]; exact fndR_fq⟩)
        | (have hq : qSees (M 67) nt np (nI p) a2 = (-1000001, true) := by
             unfold qSees
             first
               | rw [if_pos (by assumption)]
               | rw [if_neg (by assumption), if_pos (by assumption)]
           exact ⟨_, _, rfl, rfl, congrArg Prod.fst hq.symm, fndR_kq, by rw [hq]; exact fndR_fq⟩)
end EH
