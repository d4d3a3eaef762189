/-! ===== the reference, exactly: trials ===== -/
section EF
variable {X : mSc} {Q : Option Value → mHp → Prop} {M : mM}
/-- a finding counted -/
def fndR (M : mM) (v : Int32) : mM := mput (mput M 70 ((-1000001 : Int32) - v + nI 1).toNatClampNeg (M 70 ((-1000001 : Int32) - v + nI 1).toNatClampNeg + nI 1)) 70 0 (mput M 70 ((-1000001 : Int32) - v + nI 1).toNatClampNeg (M 70 ((-1000001 : Int32) - v + nI 1).toNatClampNeg + nI 1) 70 0 + nI 1)
/-- what asking leaves of the reference -/
def Kq (M M' : mM) : Prop := (Wf M → Wf M') ∧ (∀ a, a ≠ 66 → a ≠ 69 → a ≠ 70 → a ≠ 71 → a ≠ 72 → M' a = M a) ∧ M' 66 3 = M 66 3 ∧ M' 66 6 = M 66 6 ∧ M' 66 9 = M 66 9
def Fq (q : Int32 × Bool) (M M' : mM) : Prop := M' 70 = if q.2 = true then fndR M q.1 70 else M 70
theorem Kq.rf : Kq M M := ⟨fun h => h, fun _ _ _ _ _ _ => rfl, rfl, rfl, rfl⟩
theorem Kq.to {M1 M2 : mM} (h : Kq M M1) (g : Kq M1 M2) : Kq M M2 := ⟨fun w => g.1 (h.1 w), fun a h1 h2 h3 h4 h5 => (g.2.1 a h1 h2 h3 h4 h5).trans (h.2.1 a h1 h2 h3 h4 h5), g.2.2.1.trans h.2.2.1, g.2.2.2.1.trans h.2.2.2.1, g.2.2.2.2.trans h.2.2.2.2⟩
theorem fndR_kq {v : Int32} : Kq M (fndR M v) := ⟨fun h => (h.put0 (kd70 _)).put0 (kd70 _), fun a _ _ h3 _ _ => (mpo h3).trans (mpo h3), congrFun ((mpo (by decide)).trans (mpo (by decide))) 3, congrFun ((mpo (by decide)).trans (mpo (by decide))) 6, congrFun ((mpo (by decide)).trans (mpo (by decide))) 9⟩
theorem fndR_fq {v : Int32} : Fq (v, true) M (fndR M v) := rfl
theorem fndR_70 {M1 : mM} {v : Int32} (e : M1 70 = M 70) : fndR M1 v 70 = fndR M v 70 := by
  funext j
  unfold fndR mput
  simp only [e]
theorem Fq.of {q : Int32 × Bool} {M1 M2 : mM} (h : Fq q M1 M2) (e : M1 70 = M 70) : Fq q M M2 := by
  unfold Fq at h ⊢
  rw [h, e, fndR_70 e]
/-- days in a trial, put back -/
def Kr (M M' : mM) : Prop := (Wf M → Wf M') ∧ ∀ a, a ≠ 69 → a ≠ 71 → M' a = M a
theorem Kr.rf : Kr M M := ⟨fun h => h, fun _ _ _ => rfl⟩
theorem Kr.to {M1 M2 : mM} (h : Kr M M1) (g : Kr M1 M2) : Kr M M2 := ⟨fun w => g.1 (h.1 w), fun a h1 h2 => (g.2 a h1 h2).trans (h.2 a h1 h2)⟩
theorem Kr.kq {M1 : mM} (h : Kr M M1) : Kq M M1 := ⟨h.1, fun a _ h2 _ h4 _ => h.2 a h2 h4, by rw [h.2 66 (by decide) (by decide)], by rw [h.2 66 (by decide) (by decide)], by rw [h.2 66 (by decide) (by decide)]⟩
theorem Kr.fq {M1 : mM} {v : Int32} (h : Kr M M1) : Fq (v, false) M M1 := h.2 70 (by decide) (by decide)
theorem sWorn_118 {r0 r : Nat → Int32} {w : Int32} {np n j : Nat} (h8 : n ≤ 8) (hj : 118 ≤ j) : sWorn r0 w np n r j = r j := sWorn_o n j (fun t ht => by omega)
theorem sDays_118 {r : Nat → Int32} {w : Int32} {nt np j : Nat} (h8 : nt ≤ 8) (hp : np ≤ 8) (hj : 118 ≤ j) : ∀ n, sDays w nt np n r j = r j := by
  intro n
  induction n with
  | zero => rfl
  | succ n ih => exact (sDay_o (by omega) (fun t ht => by omega) (fun p hp => by omega)).trans ih
theorem Kr.back {M2 : mM} {q : Nat → Int32} (h : Dy (cp M 67 69 118) M2) (g : Dd q (cp M 67 69 118) M2) (hq : ∀ j, 118 ≤ j → q j = M 67 j) : Kr M (cp M2 69 67 118) := by
  refine ⟨(Sf.trial h).1, fun a h1 h2 => ?_⟩
  by_cases e : a = 67
  · subst e
    funext j
    by_cases hj : j < 118
    · rw [cp_b hj, h.2, cp_b hj]
    · show (if 67 = 67 ∧ j < 118 then M2 69 j else M2 67 j) = _
      rw [if_neg (fun z => hj z.2), g.1, hq j (by omega)]
  · rw [cp_o e, g.2 a e h2, cp_o h1]
theorem e135 {v : Int32} (hv : FD v) : mT X 135 [.ref 66, .int v] (con M) (some (.int v)) (con (fndR M v)) := by
  refine mT.of (row := _) rfl (Nat.le_of_ble_eq_true rfl) ?_
  have hm : mMet 135 = some _ := rfl
  obtain ⟨k, hk, he⟩ := FD_k hv
  have hn : ((-1000001 : Int32) - v + nI 1).toNatClampNeg = k := by rw [he, jI_nat (by omega)]
  unfold fndR
  rw [hn]
  refine x_aload_n hm rfl rfl ?_
  refine x_getf hm rfl (gR rfl rfl) ?_
  refine x_ldcI hm rfl (v := (-1000001 : Int32)) (by decide +kernel) ?_
  refine x_iload_n hm rfl rfl ?_
  refine x_isub hm rfl ?_
  refine x_iconst hm rfl (v := nI 1) (by decide) ?_
  refine x_iadd hm rfl ?_
  rw [he]
  refine x_dup2 hm rfl rfl rfl ?_
  refine x_iald hm rfl (lI rfl (by omega) (by decide)) ?_
  refine x_iconst hm rfl (v := nI 1) (by decide) ?_
  refine x_iadd hm rfl ?_
  refine x_iast hm rfl (sI rfl (by omega) (by decide)) ?_
  refine x_aload_n hm rfl rfl ?_
  refine x_getf hm rfl (gR rfl rfl) ?_
  refine x_iconst hm rfl (v := nI 0) (by decide) ?_
  refine x_dup2 hm rfl rfl rfl ?_
  refine x_iald hm rfl (lI rfl (by omega) (by decide)) ?_
  refine x_iconst hm rfl (v := nI 1) (by decide) ?_
  refine x_iadd hm rfl ?_
  refine x_iast hm rfl (sI rfl (by omega) (by decide)) ?_
  refine x_iload_n hm rfl rfl ?_
  refine x_iret hm rfl rfl (by first | rfl | exact bI_nar | decide) ?_
  exact ⟨rfl, rfl⟩
theorem f164 {a : Nat} {nt np : Nat} (hW : Wf M) (hnt : M 67 1 = nI nt) (hn8 : nt ≤ 8) (hnp : M 67 2 = nI np) (hp8 : np ≤ 8) (ha : a ≤ 1000) : ∃ M', mT X 164 [.ref 66, .int (nI a)] (con (cp M 67 69 118)) none (con M') ∧ Dy (cp M 67 69 118) M' ∧ Dd (sDays (M 66 6) nt np a (M 67)) (cp M 67 69 118) M' := by
  have h := e164 (X := X) (M := cp M 67 69 118) (a := a) hW.aside (by rw [cp_o (by decide)]; exact hnt) hn8 (by rw [cp_o (by decide)]; exact hnp) hp8 ha
  rw [cp_o (by decide), cp_o (by decide)] at h
  exact h
theorem e173 {t a : Nat} {nt np : Nat} (hW : Wf M) (hnt : M 67 1 = nI nt) (hn8 : nt ≤ 8) (hnp : M 67 2 = nI np) (hp8 : np ≤ 8) (ht : t < 8) (ha : a ≤ 1000) : ∃ v M', mT X 173 [.ref 66, .int (nI t), .int (nI a)] (con M) (some (.int v)) (con M') ∧ v = sDays (M 66 6) nt np a (M 67) (14 + 6 * t + 2) ∧ Kr M M' := by
  refine ti_of (row := _) rfl (Nat.le_of_ble_eq_true rfl) ?_
  have hm : mMet 173 = some _ := rfl
  refine x_aload_n hm rfl rfl ?_
  refine x_getf hm rfl (gR rfl rfl) ?_
  refine x_aload_n hm rfl rfl ?_
  refine x_getf hm rfl (gR rfl rfl) ?_
  refine x_callS hm rfl rfl (t174 rfl rfl (by decide)) ?_
  refine x_aload_n hm rfl rfl ?_
  refine x_iload_n hm rfl rfl ?_
  refine x_cVv hm rfl rfl (f164 hW hnt hn8 hnp hp8 (by omega)) (fun M1 r1 => ?_)
  refine x_aload_n hm rfl rfl ?_
  refine x_aload_n hm rfl rfl ?_
  refine x_iload_n hm rfl rfl ?_
  refine x_iconst hm rfl (v := nI 2) (by decide) ?_
  refine x_callV hm rfl rfl (t143 (by omega) (by omega)) ?_
  refine x_callV hm rfl rfl (t175) ?_
  refine x_iret hm rfl rfl (by first | rfl | exact bI_nar | decide) ?_
  exact ⟨_, _, rfl, rfl, congrFun r1.2.1 _, Kr.back r1.1 r1.2 (fun j hj => sDays_118 hn8 hp8 hj _)⟩
theorem e180 {a : Nat} {nt np : Nat} (hW : Wf M) (hnt : M 67 1 = nI nt) (hn8 : nt ≤ 8) (hnp : M 67 2 = nI np) (hp8 : np ≤ 8) (ha : a ≤ 1000) : ∃ v M', mT X 180 [.ref 66, .int (nI a)] (con M) (some (.int v)) (con M') ∧ v = sThick (M 67) nt - sThick (sDays (M 66 6) nt np a (M 67)) nt ∧ Kr M M' := by
  refine ti_of (row := _) rfl (Nat.le_of_ble_eq_true rfl) ?_
  have hm : mMet 180 = some _ := rfl
  refine x_aload_n hm rfl rfl ?_
  refine x_callV hm rfl rfl (e170 hnt hn8) ?_
  refine x_istore_n hm rfl rfl ?_
  refine x_aload_n hm rfl rfl ?_
  refine x_getf hm rfl (gR rfl rfl) ?_
  refine x_aload_n hm rfl rfl ?_
  refine x_getf hm rfl (gR rfl rfl) ?_
  refine x_callS hm rfl rfl (t174 rfl rfl (by decide)) ?_
  refine x_aload_n hm rfl rfl ?_
  refine x_iload_n hm rfl rfl ?_
  refine x_cVv hm rfl rfl (f164 hW hnt hn8 hnp hp8 (by omega)) (fun M1 r1 => ?_)
  refine x_aload_n hm rfl rfl ?_
  refine x_iload_n hm rfl rfl ?_
  refine x_aload_n hm rfl rfl ?_
  refine x_callV hm rfl rfl (e170 (r1.1.1.2.1.trans ((congrFun (cp_o (by decide)) 1).trans hnt)) hn8) ?_
  refine x_isub hm rfl ?_
  refine x_callV hm rfl rfl (t175) ?_
  refine x_iret hm rfl rfl (by first | rfl | exact bI_nar | decide) ?_
  exact ⟨_, _, rfl, rfl, by rw [r1.2.1], Kr.back r1.1 r1.2 (fun j hj => sDays_118 hn8 hp8 hj _)⟩
def orN (v : Int32) : Int32 × Bool := if 0 ≤ v then (v, false) else (-1000004, true)
theorem e177 {v : Int32} : ∃ v' M', mT X 177 [.ref 66, .int v] (con M) (some (.int v')) (con M') ∧ v' = (orN v).1 ∧ Kq M M' ∧ Fq (orN v) M M' := by
  refine ti_of (row := _) rfl (Nat.le_of_ble_eq_true rfl) ?_
  have hm : mMet 177 = some _ := rfl
  refine x_iload_n hm rfl rfl ?_
  refine x_if_ge hm rfl (t := 13) rfl (fun h1 => ?_) (fun h1 => ?_)
  · refine x_iload_n hm rfl rfl ?_
    refine x_iret hm rfl rfl (by first | rfl | exact bI_nar | decide) ?_
    first
      | exact ⟨_, _, rfl, rfl, by unfold orN; rw [if_pos (by assumption)], Kq.rf, by unfold orN; rw [if_pos (by assumption)]; exact rfl⟩
      | exact ⟨_, _, rfl, rfl, by unfold orN; rw [if_neg (by assumption)], fndR_kq, by unfold orN; rw [if_neg (by assumption)]; exact fndR_fq⟩
  · refine x_aload_n hm rfl rfl ?_
    refine x_ldcI hm rfl (v := (-1000004 : Int32)) (by decide +kernel) ?_
    refine x_callV hm rfl rfl (e135 (by decide +kernel)) ?_
    refine x_goto hm rfl (t := 14) rfl ?_
    refine x_iret hm rfl rfl (by first | rfl | exact bI_nar | decide) ?_
    first
      | exact ⟨_, _, rfl, rfl, by unfold orN; rw [if_pos (by assumption)], Kq.rf, by unfold orN; rw [if_pos (by assumption)]; exact rfl⟩
      | exact ⟨_, _, rfl, rfl, by unfold orN; rw [if_neg (by assumption)], fndR_kq, by unfold orN; rw [if_neg (by assumption)]; exact fndR_fq⟩
def sLl (r : Nat → Int32) (w : Int32) (nt np n pl k : Nat) (z : Int32 × Int32) : Int32 × Int32 :=
  (if sThick (put1 r pl (nI k)) nt - sThick (sDays w nt np n (put1 r pl (nI k))) nt < z.2 then nI k else z.1, mn2 z.2 (sThick (put1 r pl (nI k)) nt - sThick (sDays w nt np n (put1 r pl (nI k))) nt))
def sTk (r : Nat → Int32) (w : Int32) (nt np n t pl k : Nat) (z : Int32 × Int32) : Int32 × Int32 :=
  (if z.2 < sDays w nt np n (put1 r pl (nI k)) (14 + 6 * t + 2) then nI k else z.1, if z.2 < sDays w nt np n (put1 r pl (nI k)) (14 + 6 * t + 2) then sDays w nt np n (put1 r pl (nI k)) (14 + 6 * t + 2) else z.2)
/-- one number of the row tried -/
def Ky (pl : Nat) (M M1 : mM) : Prop := Sf M M1 ∧ (∀ v, put1 (M1 67) pl v = put1 (M 67) pl v) ∧ ∀ a, a ≠ 67 → a ≠ 69 → a ≠ 71 → M1 a = M a
theorem put1_2 {r : Nat → Int32} {i : Nat} {v w : Int32} : put1 (put1 r i v) i w = put1 r i w := by
  funext j
  unfold put1
  split <;> rfl
theorem put1_e {r : Nat → Int32} {i : Nat} : put1 r i (r i) = r := by
  funext j
  unfold put1
  split
  · rename_i h; rw [h]
  · rfl
theorem Ky.rf {pl : Nat} : Ky pl M M := ⟨Sf.rf, fun _ => rfl, fun _ _ _ _ => rfl⟩
theorem Ky.put {pl : Nat} {v : Int32} {M1 : mM} (h : Ky pl M M1) (hs : Sf M1 (mput M1 67 pl v)) : Ky pl M (mput M1 67 pl v) ∧ mput M1 67 pl v 67 = put1 (M 67) pl v := by
  refine ⟨⟨h.1.trans hs, fun w => ?_, fun a h1 h2 h3 => (mpo h1).trans (h.2.2 a h1 h2 h3)⟩, ?_⟩
  · rw [mput67, put1_2, h.2.1]
  · rw [mput67, h.2.1]
theorem Kr.sf {M1 : mM} (h : Kr M M1) : Sf M M1 := ⟨h.1, by rw [h.2 67 (by decide) (by decide)], by rw [h.2 67 (by decide) (by decide)], fun t _ => by rw [h.2 67 (by decide) (by decide)], h.2 68 (by decide) (by decide)⟩
theorem Ky.kr {pl : Nat} {M1 M2 : mM} (h : Ky pl M M1) (g : Kr M1 M2) : Ky pl M M2 := ⟨h.1.trans g.sf, fun v => by rw [g.2 67 (by decide) (by decide)]; exact h.2.1 v, fun a h1 h2 h3 => (g.2 a h2 h3).trans (h.2.2 a h1 h2 h3)⟩
theorem Ky.fin {pl : Nat} {M1 : mM} (h : Ky pl M M1) (hs : Sf M1 (mput M1 67 pl (M 67 pl))) : Kr M (mput M1 67 pl (M 67 pl)) := by
  refine ⟨fun w => hs.1 (h.1.1 w), fun a h1 h2 => ?_⟩
  by_cases e : a = 67
  · subst e
    rw [mput67, h.2.1, put1_e]
  · rw [mpo e, h.2.2 a e h1 h2]
theorem m183 {pl many a : Nat} {nt np : Nat} (hW : Wf M) (hnt : M 67 1 = nI nt) (hn8 : nt ≤ 8) (hnp : M 67 2 = nI np) (hp8 : np ≤ 8) (ha : a ≤ 1000) (hmb : many ≤ 1000) (hpl : ∀ (M1 : mM) (v : Int32), (v = M 67 pl ∨ ∃ k, k < many ∧ v = nI k) → Sf M1 (mput M1 67 pl v)) (hpb : pl < 118) : ∀ (n k : Nat) (b l : Int32) (x8 : Option Value) (M1 : mM), many - k < n → k ≤ many → Ky pl M M1 → (b, l) = fo (sLl (M 67) (M 66 6) nt np a pl) k (nI 0, 2147483647) → mEv X (QI (fun v M' => v = (fo (sLl (M 67) (M 66 6) nt np a pl) many (nI 0, 2147483647)).1 ∧ Kr M M')) 183 18 [some (.ref 66), some (.int (nI pl)), some (.int (nI many)), some (.int (nI a)), some (.int (M 67 pl)), some (.int b), some (.int l), some (.int (nI k)), x8] [] (con M1) := by
  have hm : mMet 183 = some _ := rfl
  intro n
  induction n with
  | zero =>
    intro k b l x8 M1 hkn hkb hS hz
    omega
  | succ n ih =>
    intro k b l x8 M1 hkn hkb hS hz
    refine x_iload hm rfl rfl ?_
    refine x_iload_n hm rfl rfl ?_
    refine x_icmp_ge hm rfl (t := 70) rfl (fun h1 => ?_) (fun h1 => ?_)
    · obtain rfl : k = many := Nat.le_antisymm hkb ((jI_le (by omega) (by omega)).mp h1)
      refine x_aload_n hm rfl rfl ?_
      refine x_getf hm rfl (gR rfl rfl) ?_
      refine x_iload_n hm rfl rfl ?_
      refine x_iload hm rfl rfl ?_
      refine x_iast hm rfl (sI rfl (by omega) (by decide)) ?_
      refine x_iload hm rfl rfl ?_
      refine x_iret hm rfl rfl (by first | rfl | exact bI_nar | decide) ?_
      exact ⟨_, _, rfl, rfl, congrArg Prod.fst hz, hS.fin (hpl _ _ (Or.inl rfl))⟩
    · have hk : k < many := Nat.lt_of_not_le fun h => h1 (nI_le h (by omega))
      refine x_aload_n hm rfl rfl ?_
      refine x_getf hm rfl (gR rfl rfl) ?_
      refine x_iload_n hm rfl rfl ?_
      refine x_iload hm rfl rfl ?_
      refine x_iast hm rfl (sI rfl (by omega) (by decide)) ?_
      obtain ⟨hS2, hrow⟩ := hS.put (v := nI k) (hpl M1 (nI k) (Or.inr ⟨k, hk, rfl⟩))
      have hw2 := hS2.1.1 hW
      have hn2 : mput M1 67 pl (nI k) 67 1 = nI nt := hS2.1.2.1.trans hnt
      have hp2 : mput M1 67 pl (nI k) 67 2 = nI np := hS2.1.2.2.1.trans hnp
      have h66 : mput M1 67 pl (nI k) 66 6 = M 66 6 := by rw [hS2.2.2 66 (by decide) (by decide) (by decide)]
      refine x_aload_n hm rfl rfl ?_
      refine x_iload_n hm rfl rfl ?_
      refine x_cVi hm rfl rfl (e180 hw2 hn2 hn8 hp2 hp8 ha) (fun v2 M2 r2 => ?_)
      have hv := r2.1
      rw [hrow, h66] at hv
      subst hv
      refine x_istore hm rfl rfl ?_
      refine x_iload hm rfl rfl ?_
      refine x_iload hm rfl rfl ?_
      refine x_icmp_ge hm rfl (t := 51) rfl (fun h3 => ?_) (fun h3 => ?_)
      · refine x_iload hm rfl rfl ?_
        refine x_istore hm rfl rfl ?_
        refine x_iload hm rfl rfl ?_
        refine x_iload hm rfl rfl ?_
        refine x_lib hm rfl rfl ?_
        dsimp only
        refine x_istore hm rfl rfl ?_
        refine x_iinc hm rfl rfl (v := nI 1) (by decide) rfl ?_
        rw [jI_add]
        refine x_goto hm rfl (t := 18) rfl ?_
        first
          | exact ih _ _ _ _ _ (by omega) (by omega) (hS2.kr r2.2) (by show _ = sLl (M 67) (M 66 6) nt np a pl k _; rw [← hz]; unfold sLl mn2; dsimp only; rw [if_pos (by first | assumption | exact Int32.not_le.mp (by assumption)), if_pos (by first | assumption | exact Int32.not_le.mp (by assumption))])
          | exact ih _ _ _ _ _ (by omega) (by omega) (hS2.kr r2.2) (by show _ = sLl (M 67) (M 66 6) nt np a pl k _; rw [← hz]; unfold sLl mn2; dsimp only; rw [if_neg (by first | assumption | exact Int32.not_lt.mpr (by assumption)), if_neg (by first | assumption | exact Int32.not_lt.mpr (by assumption))])
      · refine x_iload hm rfl rfl ?_
        refine x_goto hm rfl (t := 53) rfl ?_
        refine x_istore hm rfl rfl ?_
        refine x_iload hm rfl rfl ?_
        refine x_iload hm rfl rfl ?_
        refine x_lib hm rfl rfl ?_
        dsimp only
        refine x_istore hm rfl rfl ?_
        refine x_iinc hm rfl rfl (v := nI 1) (by decide) rfl ?_
        rw [jI_add]
        refine x_goto hm rfl (t := 18) rfl ?_
        first
          | exact ih _ _ _ _ _ (by omega) (by omega) (hS2.kr r2.2) (by show _ = sLl (M 67) (M 66 6) nt np a pl k _; rw [← hz]; unfold sLl mn2; dsimp only; rw [if_pos (by first | assumption | exact Int32.not_le.mp (by assumption)), if_pos (by first | assumption | exact Int32.not_le.mp (by assumption))])
          | exact ih _ _ _ _ _ (by omega) (by omega) (hS2.kr r2.2) (by show _ = sLl (M 67) (M 66 6) nt np a pl k _; rw [← hz]; unfold sLl mn2; dsimp only; rw [if_neg (by first | assumption | exact Int32.not_lt.mpr (by assumption)), if_neg (by first | assumption | exact Int32.not_lt.mpr (by assumption))])
theorem e183 {pl many a : Nat} {nt np : Nat} (hW : Wf M) (hnt : M 67 1 = nI nt) (hn8 : nt ≤ 8) (hnp : M 67 2 = nI np) (hp8 : np ≤ 8) (ha : a ≤ 1000) (hmb : many ≤ 1000) (hpl : ∀ (M1 : mM) (v : Int32), (v = M 67 pl ∨ ∃ k, k < many ∧ v = nI k) → Sf M1 (mput M1 67 pl v)) (hpb : pl < 118) : ∃ v M', mT X 183 [.ref 66, .int (nI pl), .int (nI many), .int (nI a)] (con M) (some (.int v)) (con M') ∧ v = (fo (sLl (M 67) (M 66 6) nt np a pl) many (nI 0, 2147483647)).1 ∧ Kr M M' := by
  refine ti_of (row := _) rfl (Nat.le_of_ble_eq_true rfl) ?_
  have hm : mMet 183 = some _ := rfl
  refine x_aload_n hm rfl rfl ?_
  refine x_getf hm rfl (gR rfl rfl) ?_
  refine x_iload_n hm rfl rfl ?_
  refine x_iald hm rfl (lI rfl (by omega) (by decide)) ?_
  refine x_istore hm rfl rfl ?_
  refine x_iconst hm rfl (v := nI 0) (by decide) ?_
  refine x_istore hm rfl rfl ?_
  refine x_ldcI hm rfl (v := nI 2147483647) (by decide +kernel) ?_
  refine x_istore hm rfl rfl ?_
  refine x_iconst hm rfl (v := nI 0) (by decide) ?_
  refine x_istore hm rfl rfl ?_
  exact m183 hW hnt hn8 hnp hp8 ha hmb hpl hpb _ 0 _ _ _ _ (Nat.lt_succ_self _) (Nat.zero_le _) Ky.rf rfl
theorem m186 {t pl many a : Nat} {nt np : Nat} (hW : Wf M) (hnt : M 67 1 = nI nt) (hn8 : nt ≤ 8) (hnp : M 67 2 = nI np) (hp8 : np ≤ 8) (ht : t < 8) (ha : a ≤ 1000) (hmb : many ≤ 1000) (hpl : ∀ (M1 : mM) (v : Int32), (v = M 67 pl ∨ ∃ k, k < many ∧ v = nI k) → Sf M1 (mput M1 67 pl v)) (hpb : pl < 118) : ∀ (n k : Nat) (b l : Int32) (x9 : Option Value) (M1 : mM), many - k < n → k ≤ many → Ky pl M M1 → (b, l) = fo (sTk (M 67) (M 66 6) nt np a t pl) k (-1, -1) → mEv X (QI (fun v M' => v = (fo (sTk (M 67) (M 66 6) nt np a t pl) many (-1, -1)).1 ∧ Kr M M')) 186 17 [some (.ref 66), some (.int (nI t)), some (.int (nI pl)), some (.int (nI many)), some (.int (nI a)), some (.int (M 67 pl)), some (.int b), some (.int l), some (.int (nI k)), x9] [] (con M1) := by
  have hm : mMet 186 = some _ := rfl
  intro n
  induction n with
  | zero =>
    intro k b l x9 M1 hkn hkb hS hz
    omega
  | succ n ih =>
    intro k b l x9 M1 hkn hkb hS hz
    refine x_iload hm rfl rfl ?_
    refine x_iload_n hm rfl rfl ?_
    refine x_icmp_ge hm rfl (t := 71) rfl (fun h1 => ?_) (fun h1 => ?_)
    · obtain rfl : k = many := Nat.le_antisymm hkb ((jI_le (by omega) (by omega)).mp h1)
      refine x_aload_n hm rfl rfl ?_
      refine x_getf hm rfl (gR rfl rfl) ?_
      refine x_iload_n hm rfl rfl ?_
      refine x_iload hm rfl rfl ?_
      refine x_iast hm rfl (sI rfl (by omega) (by decide)) ?_
      refine x_iload hm rfl rfl ?_
      refine x_iret hm rfl rfl (by first | rfl | exact bI_nar | decide) ?_
      exact ⟨_, _, rfl, rfl, congrArg Prod.fst hz, hS.fin (hpl _ _ (Or.inl rfl))⟩
    · have hk : k < many := Nat.lt_of_not_le fun h => h1 (nI_le h (by omega))
      refine x_aload_n hm rfl rfl ?_
      refine x_getf hm rfl (gR rfl rfl) ?_
      refine x_iload_n hm rfl rfl ?_
      refine x_iload hm rfl rfl ?_
      refine x_iast hm rfl (sI rfl (by omega) (by decide)) ?_
      obtain ⟨hS2, hrow⟩ := hS.put (v := nI k) (hpl M1 (nI k) (Or.inr ⟨k, hk, rfl⟩))
      have hw2 := hS2.1.1 hW
      have hn2 : mput M1 67 pl (nI k) 67 1 = nI nt := hS2.1.2.1.trans hnt
      have hp2 : mput M1 67 pl (nI k) 67 2 = nI np := hS2.1.2.2.1.trans hnp
      have h66 : mput M1 67 pl (nI k) 66 6 = M 66 6 := by rw [hS2.2.2 66 (by decide) (by decide) (by decide)]
      refine x_aload_n hm rfl rfl ?_
      refine x_iload_n hm rfl rfl ?_
      refine x_iload hm rfl rfl ?_
      refine x_cVi hm rfl rfl (e173 hw2 hn2 hn8 hp2 hp8 ht ha) (fun v2 M2 r2 => ?_)
      have hv := r2.1
      rw [hrow, h66] at hv
      subst hv
      refine x_istore hm rfl rfl ?_
      refine x_iload hm rfl rfl ?_
      refine x_iload hm rfl rfl ?_
      refine x_icmp_le hm rfl (t := 52) rfl (fun h3 => ?_) (fun h3 => ?_)
      · refine x_iload hm rfl rfl ?_
        refine x_istore hm rfl rfl ?_
        refine x_iload hm rfl rfl ?_
        refine x_iload hm rfl rfl ?_
        refine x_lib hm rfl rfl ?_
        dsimp only
        refine x_istore hm rfl rfl ?_
        refine x_iinc hm rfl rfl (v := nI 1) (by decide) rfl ?_
        rw [jI_add]
        refine x_goto hm rfl (t := 17) rfl ?_
        first
          | exact ih _ _ _ _ _ (by omega) (by omega) (hS2.kr r2.2) (by show _ = sTk (M 67) (M 66 6) nt np a t pl k _; rw [← hz]; unfold sTk; dsimp only; rw [if_pos (by first | assumption | exact Int32.not_le.mp (by assumption)), if_pos (by first | assumption | exact Int32.not_le.mp (by assumption))])
          | exact ih _ _ _ _ _ (by omega) (by omega) (hS2.kr r2.2) (by show _ = sTk (M 67) (M 66 6) nt np a t pl k _; rw [← hz]; unfold sTk; dsimp only; rw [if_neg (by first | assumption | exact Int32.not_lt.mpr (by assumption)), if_neg (by first | assumption | exact Int32.not_lt.mpr (by assumption))])
      · refine x_iload hm rfl rfl ?_
        refine x_goto hm rfl (t := 54) rfl ?_
        refine x_istore hm rfl rfl ?_
        refine x_iload hm rfl rfl ?_
        refine x_iload hm rfl rfl ?_
        refine x_lib hm rfl rfl ?_
        dsimp only
        refine x_istore hm rfl rfl ?_
        refine x_iinc hm rfl rfl (v := nI 1) (by decide) rfl ?_
        rw [jI_add]
        refine x_goto hm rfl (t := 17) rfl ?_
        first
          | exact ih _ _ _ _ _ (by omega) (by omega) (hS2.kr r2.2) (by show _ = sTk (M 67) (M 66 6) nt np a t pl k _; rw [← hz]; unfold sTk; dsimp only; rw [if_pos (by first | assumption | exact Int32.not_le.mp (by assumption)), if_pos (by first | assumption | exact Int32.not_le.mp (by assumption))])
          | exact ih _ _ _ _ _ (by omega) (by omega) (hS2.kr r2.2) (by show _ = sTk (M 67) (M 66 6) nt np a t pl k _; rw [← hz]; unfold sTk; dsimp only; rw [if_neg (by first | assumption | exact Int32.not_lt.mpr (by assumption)), if_neg (by first | assumption | exact Int32.not_lt.mpr (by assumption))])
theorem e186 {t pl many a : Nat} {nt np : Nat} (hW : Wf M) (hnt : M 67 1 = nI nt) (hn8 : nt ≤ 8) (hnp : M 67 2 = nI np) (hp8 : np ≤ 8) (ht : t < 8) (ha : a ≤ 1000) (hmb : many ≤ 1000) (hpl : ∀ (M1 : mM) (v : Int32), (v = M 67 pl ∨ ∃ k, k < many ∧ v = nI k) → Sf M1 (mput M1 67 pl v)) (hpb : pl < 118) : ∃ v M', mT X 186 [.ref 66, .int (nI t), .int (nI pl), .int (nI many), .int (nI a)] (con M) (some (.int v)) (con M') ∧ v = (fo (sTk (M 67) (M 66 6) nt np a t pl) many (-1, -1)).1 ∧ Kr M M' := by
  refine ti_of (row := _) rfl (Nat.le_of_ble_eq_true rfl) ?_
  have hm : mMet 186 = some _ := rfl
  refine x_aload_n hm rfl rfl ?_
  refine x_getf hm rfl (gR rfl rfl) ?_
  refine x_iload_n hm rfl rfl ?_
  refine x_iald hm rfl (lI rfl (by omega) (by decide)) ?_
  refine x_istore hm rfl rfl ?_
  refine x_iconst hm rfl (v := (-1 : Int32)) (by decide) ?_
  refine x_istore hm rfl rfl ?_
  refine x_iconst hm rfl (v := (-1 : Int32)) (by decide) ?_
  refine x_istore hm rfl rfl ?_
  refine x_iconst hm rfl (v := nI 0) (by decide) ?_
  refine x_istore hm rfl rfl ?_
  exact m186 hW hnt hn8 hnp hp8 ht ha hmb hpl hpb _ 0 _ _ _ _ (Nat.lt_succ_self _) (Nat.zero_le _) Ky.rf rfl
end EF
