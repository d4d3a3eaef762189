/-! ===== the reference, exactly: days ===== -/
section EB
variable {X : mSc} {Q : Option Value → mHp → Prop} {M : mM}
def Dd (q : Nat → Int32) (M M' : mM) : Prop := M' 67 = q ∧ ∀ a, a ≠ 67 → a ≠ 71 → M' a = M a
theorem Dd.rf : Dd (M 67) M M := ⟨rfl, fun _ _ _ => rfl⟩
theorem mput67 {i : Nat} {v : Int32} : mput M 67 i v 67 = put1 (M 67) i v := by
  funext j
  unfold mput put1
  by_cases h : j = i
  · rw [if_pos ⟨rfl, h⟩, if_pos h]
  · rw [if_neg (fun q => h q.2), if_neg h]
theorem Dd.p67 {q : Nat → Int32} {i : Nat} {v : Int32} {M1 : mM} (h : Dd q M M1) : Dd (put1 q i v) M (mput M1 67 i v) := ⟨by rw [mput67, h.1], fun a h1 h2 => (mpo h1).trans (h.2 a h1 h2)⟩
theorem Dd.p71 {q : Nat → Int32} {i : Nat} {v : Int32} {M1 : mM} (h : Dd q M M1) : Dd q M (mput M1 71 i v) := ⟨(mpo (by decide)).trans h.1, fun a h1 h2 => (mpo h2).trans (h.2 a h1 h2)⟩
theorem Dd.to {q q2 : Nat → Int32} {M1 M2 : mM} (h : Dd q M M1) (g : Dd q2 M1 M2) : Dd q2 M M2 := ⟨g.1, fun a h1 h2 => (g.2 a h1 h2).trans (h.2 a h1 h2)⟩
theorem sFpT {k : Nat} {q : Nat → Int32} {s : Int32} (h1 : ¬ q (14 + 6 * k + 2) = 0) (h2 : ¬ q (14 + 6 * k + 5) < 0) (h3 : q (14 + 6 * (q (14 + 6 * k + 5)).toNatClampNeg + 2) = 0) : sFp1 k (q, s) = (put1 q (14 + 6 * k + 2) (nI 0), nI 1) := if_pos ⟨h1, h2, h3⟩
theorem sFpF {k : Nat} {q : Nat → Int32} {s : Int32} (h : q (14 + 6 * k + 2) = 0 ∨ q (14 + 6 * k + 5) < 0 ∨ ¬ q (14 + 6 * (q (14 + 6 * k + 5)).toNatClampNeg + 2) = 0) : sFp1 k (q, s) = (q, s) := if_neg (fun ⟨h1, h2, h3⟩ => h.elim h1 (fun h => h.elim h2 (fun h => h h3)))
theorem sFp_s {n : Nat} {r q : Nat → Int32} {s : Int32} {z : (Nat → Int32) × Int32} (h : fo sFp1 n (r, nI 0) = (q, s)) (g : sFp1 n (q, s) = z) : fo sFp1 (n + 1) (r, nI 0) = z := by
  show sFp1 n (fo sFp1 n (r, nI 0)) = z
  rw [h, g]
/-- a pass that felled none changed nothing -/
theorem sFp_0 {r : Nat → Int32} : ∀ (n : Nat), (fo sFp1 n (r, nI 0)).2 = nI 0 → (fo sFp1 n (r, nI 0)).1 = r := by
  intro n
  induction n with
  | zero => intro _; rfl
  | succ n ih =>
    intro h
    have h2 : (sFp1 n (fo sFp1 n (r, nI 0))).2 = nI 0 := h
    show (sFp1 n (fo sFp1 n (r, nI 0))).1 = r
    unfold sFp1 at h2 ⊢
    split
    · rename_i hc
      rw [if_pos hc] at h2
      exact absurd (show nI 1 = nI 0 from h2) (by decide)
    · rename_i hc
      rw [if_neg hc] at h2
      exact ih h2
theorem cnt_le {f : Nat → Int32} : ∀ n, cnt f n ≤ n := by
  intro n
  induction n with
  | zero => exact Nat.le_refl _
  | succ n ih =>
    show cnt f n + _ ≤ n + 1
    split <;> omega
theorem m166 {nb : Nat} (hW : Wf M) (hnb : M 67 1 = nI nb) (h8 : nb ≤ 8) : ∀ (n k : Nat) (s : Int32) (M1 : mM), nb - k < n → k ≤ nb → Dy M M1 → ((s = nI 0 ∧ cnt (M1 67) nb ≤ cnt (M 67) nb) ∨ (s = nI 1 ∧ cnt (M1 67) nb < cnt (M 67) nb)) → fo sFp1 k (M 67, nI 0) = (M1 67, s) → Dd (M1 67) M M1 → mEv X (QI (fun v M' => Dy M M' ∧ ((v = nI 0 ∧ cnt (M' 67) nb ≤ cnt (M 67) nb) ∨ (v = nI 1 ∧ cnt (M' 67) nb < cnt (M 67) nb)) ∧ sFp nb (M 67) = (M' 67, v) ∧ Dd (M' 67) M M')) 166 4 [some (.ref 66), some (.int s), some (.int (nI k))] [] (con M1) := by
  have hm : mMet 166 = some _ := rfl
  intro n
  induction n with
  | zero =>
    intro k s M1 hkn hkb hD hc hf hd
    omega
  | succ n ih =>
    intro k s M1 hkn hkb hD hc hf hd
    have hW1 := hD.1.1 hW
    have hn1 : M1 67 1 = nI nb := hD.1.2.1.trans hnb
    have h01 : s = nI 0 ∨ s = nI 1 := hc.elim (fun h => Or.inl h.1) (fun h => Or.inr h.1)
    refine x_iload_n hm rfl rfl ?_
    refine x_aload_n hm rfl rfl ?_
    refine x_getf hm rfl (gR rfl rfl) ?_
    refine x_iconst hm rfl (v := nI 1) (by decide) ?_
    refine x_iald hm rfl (lI rfl (by omega) (by decide)) ?_
    rw [hn1]
    refine x_icmp_ge hm rfl (t := 63) rfl (fun h1 => ?_) (fun h1 => ?_)
    · obtain rfl : k = nb := Nat.le_antisymm hkb ((jI_le (by omega) (by omega)).mp h1)
      refine x_iload_n hm rfl rfl ?_
      refine x_iret hm rfl rfl (nar01 h01) ?_
      exact ⟨_, _, rfl, rfl, hD, hc, hf, hd⟩ --stop
    · have hk : k < nb := Nat.lt_of_not_le fun h => h1 (nI_le h (by omega))
      refine x_aload_n hm rfl rfl ?_
      refine x_iload_n hm rfl rfl ?_
      refine x_callV hm rfl rfl (t146 (by omega)) ?_
      refine x_if_ne hm rfl (t := 57) rfl (fun h2 => ?_) (fun h2 => ?_)
      · have hz := sFp_s hf (sFpF (Or.inl (bI_ne0 h2)))
        refine x_iinc hm rfl rfl (v := nI 1) (by decide) rfl ?_
        rw [jI_add]
        refine x_goto hm rfl (t := 4) rfl ?_
        first
          | exact ih _ _ _ (by omega) (by omega) hD hc hz hd
          | exact ih _ _ _ (by omega) (by omega) (hD.trans (Dy.put (Sf.thing (by omega) (by decide) (by decide) (by decide)) (by decide))) (Or.inr ⟨rfl, by have := cnt_zero (M := M1) nb hk hg; omega⟩) (by rw [hz, mput67]) (by rw [mput67]; exact hd.p67)
      · have hg : ¬ M1 67 (14 + 6 * k + 2) = 0 := bI_eq0.mp h2
        refine x_aload_n hm rfl rfl ?_
        refine x_iload_n hm rfl rfl ?_
        refine x_iconst hm rfl (v := nI 5) (by decide) ?_
        refine x_callV hm rfl rfl (t143 (by omega) (by omega)) ?_
        refine x_if_lt hm rfl (t := 57) rfl (fun h3 => ?_) (fun h3 => ?_)
        · have hz := sFp_s hf (sFpF (Or.inr (Or.inl h3)))
          refine x_iinc hm rfl rfl (v := nI 1) (by decide) rfl ?_
          rw [jI_add]
          refine x_goto hm rfl (t := 4) rfl ?_
          first
            | exact ih _ _ _ (by omega) (by omega) hD hc hz hd
            | exact ih _ _ _ (by omega) (by omega) (hD.trans (Dy.put (Sf.thing (by omega) (by decide) (by decide) (by decide)) (by decide))) (Or.inr ⟨rfl, by have := cnt_zero (M := M1) nb hk hg; omega⟩) (by rw [hz, mput67]) (by rw [mput67]; exact hd.p67)
        · have hon := h3
          obtain ⟨w, hw, hw2⟩ := tsm1 h3 (hW1.on (by omega))
          refine x_aload_n hm rfl rfl ?_
          refine x_aload_n hm rfl rfl ?_
          refine x_iload_n hm rfl rfl ?_
          refine x_iconst hm rfl (v := nI 5) (by decide) ?_
          refine x_callV hm rfl rfl (t143 (by omega) (by omega)) ?_
          rw [hw2]
          refine x_callV hm rfl rfl (t146 (by omega)) ?_
          refine x_if_eq hm rfl (t := 57) rfl (fun h4 => ?_) (fun h4 => ?_)
          · have hz := sFp_s hf (sFpF (Or.inr (Or.inr (by rw [hw2, jI_nat (by omega)]; exact bI_eq0.mp h4))))
            refine x_iinc hm rfl rfl (v := nI 1) (by decide) rfl ?_
            rw [jI_add]
            refine x_goto hm rfl (t := 4) rfl ?_
            first
              | exact ih _ _ _ (by omega) (by omega) hD hc hz hd
              | exact ih _ _ _ (by omega) (by omega) (hD.trans (Dy.put (Sf.thing (by omega) (by decide) (by decide) (by decide)) (by decide))) (Or.inr ⟨rfl, by have := cnt_zero (M := M1) nb hk hg; omega⟩) (by rw [hz, mput67]) (by rw [mput67]; exact hd.p67)
          · have hz := sFp_s hf (sFpT hg hon (by rw [hw2, jI_nat (by omega)]; exact bI_ne0 h4))
            refine x_aload_n hm rfl rfl ?_
            refine x_getf hm rfl (gR rfl rfl) ?_
            refine x_iload_n hm rfl rfl ?_
            refine x_iconst hm rfl (v := nI 2) (by decide) ?_
            refine x_callS hm rfl rfl (t137) ?_
            refine x_iconst hm rfl (v := nI 0) (by decide) ?_
            refine x_iast hm rfl (sI rfl (by omega) (by decide)) ?_
            refine x_iconst hm rfl (v := nI 1) (by decide) ?_
            refine x_istore_n hm rfl rfl ?_
            refine x_iinc hm rfl rfl (v := nI 1) (by decide) rfl ?_
            rw [jI_add]
            refine x_goto hm rfl (t := 4) rfl ?_
            first
              | exact ih _ _ _ (by omega) (by omega) hD hc hz hd
              | exact ih _ _ _ (by omega) (by omega) (hD.trans (Dy.put (Sf.thing (by omega) (by decide) (by decide) (by decide)) (by decide))) (Or.inr ⟨rfl, by have := cnt_zero (M := M1) nb hk hg; omega⟩) (by rw [hz, mput67]) (by rw [mput67]; exact hd.p67)
theorem e166 {nb : Nat} (hW : Wf M) (hnb : M 67 1 = nI nb) (h8 : nb ≤ 8) : ∃ v M', mT X 166 [.ref 66] (con M) (some (.int v)) (con M') ∧ (fun v M' => Dy M M' ∧ ((v = nI 0 ∧ cnt (M' 67) nb ≤ cnt (M 67) nb) ∨ (v = nI 1 ∧ cnt (M' 67) nb < cnt (M 67) nb)) ∧ sFp nb (M 67) = (M' 67, v) ∧ Dd (M' 67) M M') v M' := by
  refine ti_of (row := _) rfl (Nat.le_of_ble_eq_true rfl) ?_
  have hm : mMet 166 = some _ := rfl
  refine x_iconst hm rfl (v := nI 0) (by decide) ?_
  refine x_istore_n hm rfl rfl ?_
  refine x_iconst hm rfl (v := nI 0) (by decide) ?_
  refine x_istore_n hm rfl rfl ?_
  exact m166 hW hnb h8 _ 0 _ _ (Nat.lt_succ_self _) (Nat.zero_le _) Dy.rf (Or.inl ⟨rfl, Nat.le_refl _⟩) rfl Dd.rf
theorem m165d {nb np : Nat} (hW : Wf M) (hnb : M 67 1 = nI nb) (h8 : nb ≤ 8) (hnp : M 67 2 = nI np) (hp8 : np ≤ 8) {s : Int32} : ∀ (n k : Nat) (M1 : mM), np - k < n → k ≤ np → Dy M M1 → Dd (sGo k (sFall nb 8 (sWorn (M 67) (M 66 6) np nb (M 67)))) M M1 → mEv X (QV (fun M' => Dy M M' ∧ Dd (sDay (M 66 6) nb np (M 67)) M M')) 165 82 [some (.ref 66), some (.int s), some (.int (nI k))] [] (con M1) := by
  have hm : mMet 165 = some _ := rfl
  intro n
  induction n with
  | zero =>
    intro k M1 hkn hkb hD hd
    omega
  | succ n ih =>
    intro k M1 hkn hkb hD hd
    have hW1 := hD.1.1 hW
    have hn1 : M1 67 1 = nI nb := hD.1.2.1.trans hnb
    have hp1 : M1 67 2 = nI np := hD.1.2.2.1.trans hnp
    refine x_iload_n hm rfl rfl ?_
    refine x_aload_n hm rfl rfl ?_
    refine x_getf hm rfl (gR rfl rfl) ?_
    refine x_iconst hm rfl (v := nI 2) (by decide) ?_
    refine x_iald hm rfl (lI rfl (by omega) (by decide)) ?_
    rw [hp1]
    refine x_icmp_ge hm rfl (t := 124) rfl (fun h1 => ?_) (fun h1 => ?_)
    · obtain rfl : k = np := Nat.le_antisymm hkb ((jI_le (by omega) (by omega)).mp h1)
      refine x_aload_n hm rfl rfl ?_
      refine x_getf hm rfl (gR rfl rfl) ?_
      refine x_iconst hm rfl (v := nI 0) (by decide) ?_
      refine x_dup2 hm rfl rfl rfl ?_
      refine x_iald hm rfl (lI rfl (by omega) (by decide)) ?_
      refine x_iconst hm rfl (v := nI 1) (by decide) ?_
      refine x_iadd hm rfl ?_
      refine x_iast hm rfl (sI rfl (by omega) (by decide)) ?_
      refine x_ret hm rfl rfl ?_
      exact ⟨_, rfl, rfl, hD.trans (Dy.put Sf.day (by decide)), by rw [hd.1]; exact hd.p67⟩
    · have hk : k < np := Nat.lt_of_not_le fun h => h1 (nI_le h (by omega))
      refine x_aload_n hm rfl rfl ?_
      refine x_getf hm rfl (gR rfl rfl) ?_
      refine x_iload_n hm rfl rfl ?_
      refine x_iconst hm rfl (v := nI 1) (by decide) ?_
      refine x_callS hm rfl rfl (t142) ?_
      refine x_aload_n hm rfl rfl ?_
      refine x_iload_n hm rfl rfl ?_
      refine x_iconst hm rfl (v := nI 1) (by decide) ?_
      refine x_callV hm rfl rfl (t141 (by omega) (by omega)) ?_
      refine x_aload_n hm rfl rfl ?_
      refine x_iload_n hm rfl rfl ?_
      refine x_iconst hm rfl (v := nI 2) (by decide) ?_
      refine x_callV hm rfl rfl (t141 (by omega) (by omega)) ?_
      refine x_iadd hm rfl ?_
      refine x_bipush hm rfl (v := nI 16) (by decide) ?_
      refine x_irem hm rfl (by decide) ?_
      refine x_iast hm rfl (sI rfl (by omega) (by decide)) ?_
      refine x_iinc hm rfl rfl (v := nI 1) (by decide) rfl ?_
      rw [jI_add]
      refine x_goto hm rfl (t := 82) rfl ?_
      exact ih (k + 1) _ (by omega) (by omega) (hD.trans (Dy.put (Sf.person (by omega) (by decide)) (by decide))) (by rw [hd.1]; exact hd.p67)
theorem m165c {nb np : Nat} (hW : Wf M) (hnb : M 67 1 = nI nb) (h8 : nb ≤ 8) (hnp : M 67 2 = nI np) (hp8 : np ≤ 8) : ∀ (n : Nat) (s : Int32) (M1 : mM), (s = nI 0 ∨ (s = nI 1 ∧ cnt (M1 67) nb + 1 < n)) → 0 < n → Dy M M1 → Dd (M1 67) M M1 → (s = nI 0 → M1 67 = sFall nb 8 (sWorn (M 67) (M 66 6) np nb (M 67))) → (s = nI 1 → ∃ f, sFall nb f (M1 67) = sFall nb 8 (sWorn (M 67) (M 66 6) np nb (M 67)) ∧ cnt (M1 67) nb ≤ f) → mEv X (QV (fun M' => Dy M M' ∧ Dd (sDay (M 66 6) nb np (M 67)) M M')) 165 68 [some (.ref 66), some (.int s), none] [] (con M1) := by
  have hm : mMet 165 = some _ := rfl
  intro n
  induction n with
  | zero =>
    intro s M1 hs hn hD hd hz hf
    omega
  | succ n ih =>
    intro s M1 hs hn hD hd hz hf
    have hW1 := hD.1.1 hW
    have hn1 : M1 67 1 = nI nb := hD.1.2.1.trans hnb
    have hp1 : M1 67 2 = nI np := hD.1.2.2.1.trans hnp
    refine x_iload_n hm rfl rfl ?_
    refine x_if_eq hm rfl (t := 80) rfl (fun h1 => ?_) (fun h1 => ?_)
    · have hR := hz h1
      refine x_iconst hm rfl (v := nI 0) (by decide) ?_
      refine x_istore_n hm rfl rfl ?_
      exact m165d hW hnb h8 hnp hp8 _ 0 _ (Nat.lt_succ_self _) (Nat.zero_le _) hD (by rw [show sGo 0 (sFall nb 8 (sWorn (M 67) (M 66 6) np nb (M 67))) = M1 67 from hR.symm]; exact hd)
    · have hs2 : cnt (M1 67) nb + 1 < n + 1 := hs.elim (fun e => absurd e h1) (fun e => e.2)
      obtain ⟨f, hf1, hf2⟩ := hf (hs.elim (fun e => absurd e h1) (fun e => e.1))
      refine x_aload_n hm rfl rfl ?_
      refine x_cVi hm rfl rfl (e166 hW1 hn1 h8) (fun v2 M2 r2 => ?_)
      refine x_istore_n hm rfl rfl ?_
      refine x_goto hm rfl (t := 68) rfl ?_
      obtain ⟨g1, g2, g3, g4⟩ := r2
      refine ih _ _ (g2.elim (fun e => Or.inl e.1) (fun e => Or.inr ⟨e.1, by omega⟩)) (by omega) (hD.trans g1) (hd.to g4) (fun e => ?_) (fun e => ?_)
      · have g5 := sFp_0 (r := M1 67) nb (by rw [show fo sFp1 nb (M1 67, nI 0) = _ from g3]; exact e)
        cases f with
        | zero =>
          rw [← hf1, ← show (fo sFp1 nb (M1 67, nI 0)).1 = M2 67 from congrArg Prod.fst g3]
          exact g5
        | succ f =>
          rw [← hf1]
          show M2 67 = if (sFp nb (M1 67)).2 = nI 0 then (sFp nb (M1 67)).1 else _
          rw [g3, if_pos e]
      · have g5 := g2.resolve_left (fun q => absurd (q.1.symm.trans e) (by decide))
        cases f with
        | zero => omega
        | succ f =>
          refine ⟨f, ?_, by omega⟩
          rw [← hf1]
          show _ = if (sFp nb (M1 67)).2 = nI 0 then (sFp nb (M1 67)).1 else _
          rw [g3, if_neg (fun q : v2 = nI 0 => absurd (q.symm.trans e) (by decide))]
theorem m165b {nb np : Nat} (hW : Wf M) (hnb : M 67 1 = nI nb) (h8 : nb ≤ 8) (hnp : M 67 2 = nI np) (hp8 : np ≤ 8) : ∀ (n k : Nat) (M1 : mM), nb - k < n → k ≤ nb → Dy M M1 → Dd (sWorn (M 67) (M 66 6) np k (M 67)) M M1 → (∀ j, j < nb → M1 71 j = sWear (M 67) (M 66 6) np j) → mEv X (QV (fun M' => Dy M M' ∧ Dd (sDay (M 66 6) nb np (M 67)) M M')) 165 31 [some (.ref 66), some (.int (nI k)), none] [] (con M1) := by
  have hm : mMet 165 = some _ := rfl
  intro n
  induction n with
  | zero =>
    intro k M1 hkn hkb hD hd h71
    omega
  | succ n ih =>
    intro k M1 hkn hkb hD hd h71
    have hW1 := hD.1.1 hW
    have hn1 : M1 67 1 = nI nb := hD.1.2.1.trans hnb
    have hp1 : M1 67 2 = nI np := hD.1.2.2.1.trans hnp
    refine x_iload_n hm rfl rfl ?_
    refine x_aload_n hm rfl rfl ?_
    refine x_getf hm rfl (gR rfl rfl) ?_
    refine x_iconst hm rfl (v := nI 1) (by decide) ?_
    refine x_iald hm rfl (lI rfl (by omega) (by decide)) ?_
    rw [hn1]
    refine x_icmp_ge hm rfl (t := 66) rfl (fun h1 => ?_) (fun h1 => ?_)
    · obtain rfl : k = nb := Nat.le_antisymm hkb ((jI_le (by omega) (by omega)).mp h1)
      refine x_iconst hm rfl (v := nI 1) (by decide) ?_
      refine x_istore_n hm rfl rfl ?_
      exact m165c hW hnb h8 hnp hp8 _ _ _ (Or.inr ⟨rfl, Nat.lt_succ_self _⟩) (Nat.succ_pos _) hD (by rw [hd.1]; exact hd) (fun e => absurd e (by decide)) (fun _ => ⟨8, by rw [hd.1], Nat.le_trans (cnt_le _) h8⟩)
    · have hk : k < nb := Nat.lt_of_not_le fun h => h1 (nI_le h (by omega))
      refine x_aload_n hm rfl rfl ?_
      refine x_getf hm rfl (gR rfl rfl) ?_
      refine x_iload_n hm rfl rfl ?_
      refine x_iconst hm rfl (v := nI 2) (by decide) ?_
      refine x_callS hm rfl rfl (t137) ?_
      refine x_dup2 hm rfl rfl rfl ?_
      refine x_iald hm rfl (lI rfl (by omega) (by decide)) ?_
      refine x_aload_n hm rfl rfl ?_
      refine x_getf hm rfl (gR rfl rfl) ?_
      refine x_iload_n hm rfl rfl ?_
      refine x_iald hm rfl (lI rfl (by omega) (by decide)) ?_
      rw [h71 k hk]
      refine x_isub hm rfl ?_
      refine x_iast hm rfl (sI rfl (by omega) (by decide)) ?_
      refine x_iinc hm rfl rfl (v := nI 1) (by decide) rfl ?_
      rw [jI_add]
      refine x_goto hm rfl (t := 31) rfl ?_
      exact ih (k + 1) _ (by omega) (by omega) (hD.trans (Dy.put (Sf.thing (by omega) (by decide) (by decide) (by decide)) (by decide))) (by rw [hd.1]; exact hd.p67) (fun j hj => (congrFun (mpo (by decide)) j).trans (h71 j hj))
theorem m165a {nb np : Nat} (hW : Wf M) (hnb : M 67 1 = nI nb) (h8 : nb ≤ 8) (hnp : M 67 2 = nI np) (hp8 : np ≤ 8) : ∀ (n k : Nat) (M1 : mM), nb - k < n → k ≤ nb → Dy M M1 → Dd (M 67) M M1 → (∀ j, j < k → M1 71 j = sWear (M 67) (M 66 6) np j) → mEv X (QV (fun M' => Dy M M' ∧ Dd (sDay (M 66 6) nb np (M 67)) M M')) 165 2 [some (.ref 66), some (.int (nI k)), none] [] (con M1) := by
  have hm : mMet 165 = some _ := rfl
  intro n
  induction n with
  | zero =>
    intro k M1 hkn hkb hD hd h71
    omega
  | succ n ih =>
    intro k M1 hkn hkb hD hd h71
    have hW1 := hD.1.1 hW
    have hn1 : M1 67 1 = nI nb := hD.1.2.1.trans hnb
    have hp1 : M1 67 2 = nI np := hD.1.2.2.1.trans hnp
    refine x_iload_n hm rfl rfl ?_
    refine x_aload_n hm rfl rfl ?_
    refine x_getf hm rfl (gR rfl rfl) ?_
    refine x_iconst hm rfl (v := nI 1) (by decide) ?_
    refine x_iald hm rfl (lI rfl (by omega) (by decide)) ?_
    rw [hn1]
    refine x_icmp_ge hm rfl (t := 29) rfl (fun h1 => ?_) (fun h1 => ?_)
    · obtain rfl : k = nb := Nat.le_antisymm hkb ((jI_le (by omega) (by omega)).mp h1)
      refine x_iconst hm rfl (v := nI 0) (by decide) ?_
      refine x_istore_n hm rfl rfl ?_
      exact m165b hW hnb h8 hnp hp8 _ 0 _ (Nat.lt_succ_self _) (Nat.zero_le _) hD hd h71
    · have hk : k < nb := Nat.lt_of_not_le fun h => h1 (nI_le h (by omega))
      refine x_aload_n hm rfl rfl ?_
      refine x_getf hm rfl (gR rfl rfl) ?_
      refine x_iload_n hm rfl rfl ?_
      refine x_aload_n hm rfl rfl ?_
      refine x_iload_n hm rfl rfl ?_
      refine x_callV hm rfl rfl (e140 hW1 hp1 hp8 (by omega)) ?_
      rw [hd.1, hd.2 66 (by decide) (by decide)]
      refine x_iast hm rfl (sI rfl (by omega) (by decide)) ?_
      refine x_iinc hm rfl rfl (v := nI 1) (by decide) rfl ?_
      rw [jI_add]
      refine x_goto hm rfl (t := 2) rfl ?_
      refine ih (k + 1) _ (by omega) (by omega) (hD.trans (Dy.put (Sf.put0 (kd71 _) (by decide) (by decide)) (by decide))) hd.p71 (fun j hj => ?_)
      by_cases e : j = k
      · subst e
        exact mp0
      · exact (mpf e).trans (h71 j (by omega))
theorem e165 {nb np : Nat} (hW : Wf M) (hnb : M 67 1 = nI nb) (h8 : nb ≤ 8) (hnp : M 67 2 = nI np) (hp8 : np ≤ 8) : ∃ M', mT X 165 [.ref 66] (con M) none (con M') ∧ Dy M M' ∧ Dd (sDay (M 66 6) nb np (M 67)) M M' := by
  refine tv_of (row := _) rfl (Nat.le_of_ble_eq_true rfl) ?_
  have hm : mMet 165 = some _ := rfl
  refine x_iconst hm rfl (v := nI 0) (by decide) ?_
  refine x_istore_n hm rfl rfl ?_
  exact m165a hW hnb h8 hnp hp8 _ 0 _ (Nat.lt_succ_self _) (Nat.zero_le _) Dy.rf Dd.rf (fun j hj => absurd hj (Nat.not_lt_zero j))
theorem m164 {a : Nat} {nb np : Nat} (hW : Wf M) (hnb : M 67 1 = nI nb) (h8 : nb ≤ 8) (hnp : M 67 2 = nI np) (hp8 : np ≤ 8) (ha : a ≤ 1000) : ∀ (n k : Nat) (M1 : mM), a - k < n → k ≤ a → Dy M M1 → Dd (sDays (M 66 6) nb np k (M 67)) M M1 → mEv X (QV (fun M' => Dy M M' ∧ Dd (sDays (M 66 6) nb np a (M 67)) M M')) 164 2 [some (.ref 66), some (.int (nI a)), some (.int (nI k))] [] (con M1) := by
  have hm : mMet 164 = some _ := rfl
  intro n
  induction n with
  | zero =>
    intro k M1 hkn hkb hD hd
    omega
  | succ n ih =>
    intro k M1 hkn hkb hD hd
    refine x_iload_n hm rfl rfl ?_
    refine x_iload_n hm rfl rfl ?_
    refine x_icmp_ge hm rfl (t := 17) rfl (fun h1 => ?_) (fun h1 => ?_)
    · obtain rfl : k = a := Nat.le_antisymm hkb ((jI_le (by omega) (by omega)).mp h1)
      refine x_ret hm rfl rfl ?_
      exact ⟨_, rfl, rfl, hD, hd⟩
    · have hk : k < a := Nat.lt_of_not_le fun h => h1 (nI_le h (by omega))
      refine x_aload_n hm rfl rfl ?_
      refine x_cVv hm rfl rfl (e165 (hD.1.1 hW) (hD.1.2.1.trans hnb) h8 (hD.1.2.2.1.trans hnp) hp8) (fun M2 r2 => ?_)
      refine x_iinc hm rfl rfl (v := nI 1) (by decide) rfl ?_
      rw [jI_add]
      refine x_goto hm rfl (t := 2) rfl ?_
      exact ih (k + 1) _ (by omega) (by omega) (hD.trans r2.1) (by
        have h := hd.to r2.2
        rw [hd.1, hd.2 66 (by decide) (by decide)] at h
        exact h)
theorem e164 {a : Nat} {nb np : Nat} (hW : Wf M) (hnb : M 67 1 = nI nb) (h8 : nb ≤ 8) (hnp : M 67 2 = nI np) (hp8 : np ≤ 8) (ha : a ≤ 1000) : ∃ M', mT X 164 [.ref 66, .int (nI a)] (con M) none (con M') ∧ Dy M M' ∧ Dd (sDays (M 66 6) nb np a (M 67)) M M' := by
  refine tv_of (row := _) rfl (Nat.le_of_ble_eq_true rfl) ?_
  have hm : mMet 164 = some _ := rfl
  refine x_iconst hm rfl (v := nI 0) (by decide) ?_
  refine x_istore_n hm rfl rfl ?_
  exact m164 hW hnb h8 hnp hp8 ha _ 0 _ (Nat.lt_succ_self _) (Nat.zero_le _) Dy.rf Dd.rf
end EB
