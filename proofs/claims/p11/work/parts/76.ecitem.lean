/-! ===== texts: the class ===== -/
section CY
variable {X : mSc} {Q : Option Value → mHp → Prop} {M : mM} {T : Nat → Nat} {c : Nat}
/-- the class's reader and town -/
def CK (T : Nat → Nat) (c : Nat) (q : PS) (tn pn : Nat) (r : Nat → Int32) (M0 M : mM) : Prop := CT T c q M ∧ Rel 1 tn pn M r ∧ M 1 7 = M0 1 7 ∧ ∀ a, (a < 1 ∨ 17 < a) → a ≠ 52 → M a = M0 a
theorem CK.lc {q q' : PS} {tn pn : Nat} {r : Nat → Int32} {M0 M1 : mM} (h : CK T c q tn pn r M0 M) (g : CT T c q' M1) (hL : Lc M M1) : CK T c q' tn pn r M0 M1 := by
  have e : ∀ a, a ≠ 52 → M1 a = M a := fun a ha => funext fun x => hL a x (Or.inl ha)
  exact ⟨g, h.2.1.fr fun a _ _ => e a (by omega), by rw [e 1 (by decide)]; exact h.2.2.1, fun a ha h2 => (e a h2).trans (h.2.2.2 a ha h2)⟩
theorem CT.of {q : PS} {M1 : mM} (h : CT T c q M) (e : M1 52 = M 52) (e2 : M1 53 = M 53) : CT T c q M1 := by
  unfold CT at h ⊢
  rw [e, e2]
  exact h
theorem CK.add {q : PS} {tn pn : Nat} {r : Nat → Int32} {M0 : mM} {s p : Int32} (h : CK T c q tn pn r M0 M) (h8 : tn < 8) : CK T c q (tn + 1) pn (addR r tn s p (nI 100) (nI 0) (-1) (-1)) M0 (addC M tn s p) :=
  ⟨h.1.of (addC_fr.2 52 (by decide)) (addC_fr.2 53 (by decide)), addC_rel h.2.1 h8, addC_fr.1.trans h.2.2.1, fun a ha h2 => (addC_fr.2 a ha).trans (h.2.2.2 a ha h2)⟩
theorem CK.join {q : PS} {tn pn : Nat} {r : Nat → Int32} {M0 : mM} {k p : Int32} (h : CK T c q tn pn r M0 M) (ht : tn ≤ 8) (h8 : pn < 8) : CK T c q tn (pn + 1) (joinR r pn k p (nI 1) (nI 1) (nI 1) (nI 1) (nI 1)) M0 (joinC M pn k p) :=
  ⟨h.1.of (joinC_fr.2 52 (by decide)) (joinC_fr.2 53 (by decide)), joinC_rel h.2.1 ht h8, joinC_fr.1.trans h.2.2.1, fun a ha h2 => (joinC_fr.2 a ha).trans (h.2.2.2 a ha h2)⟩
theorem CK.pi {q : PS} {tn pn f t : Nat} {r : Nat → Int32} {v : Int32} {M0 : mM} (h : CK T c q tn pn r M0 M) (h8 : tn ≤ 8) (hf : f < 6) (ht : t < tn) : CK T c q tn pn (put1 r (14 + 6 * t + f) v) M0 (mput M (1 + 2 + f) t v) :=
  ⟨h.1.of (mpo (by omega)) (mpo (by omega)), h.2.1.pi h8 hf ht, (mpn (by omega)).trans h.2.2.1, fun a ha h2 => (mpo (by omega)).trans (h.2.2.2 a ha h2)⟩
theorem CK.pf {q : PS} {tn pn f p : Nat} {r : Nat → Int32} {v : Int32} {M0 : mM} (h : CK T c q tn pn r M0 M) (h8 : tn ≤ 8) (hf : f < 7) (hp : p < pn) : CK T c q tn pn (put1 r (62 + 7 * p + f) v) M0 (mput M (1 + 9 + f) p v) :=
  ⟨h.1.of (mpo (by omega)) (mpo (by omega)), h.2.1.pf h8 hf hp, (mpn (by omega)).trans h.2.2.1, fun a ha h2 => (mpo (by omega)).trans (h.2.2.2 a ha h2)⟩
section W
variable {q : PS} {tn pn : Nat} {r : Nat → Int32} {M0 : mM}
theorem q92 (hB : ∀ k, k < c → T k < 256) (h : CK T c q tn pn r M0 M) (g : q.2.2.2.2 = false) : ∃ M', mT X 92 [.ref 52] (con M) none (con M') ∧ CK T c (pMu T c q (nI 1)) tn pn r M0 M' := by
  obtain ⟨M1, h1, h2, h3⟩ := k92a (X := X) h.1 hB g
  exact ⟨M1, h1, h.lc h2 h3⟩
theorem q112 (h : CK T c q tn pn r M0 M) : ∃ M', mT X 112 [.ref 52] (con M) none (con M') ∧ CK T c (pMu T c q (nI 0)) tn pn r M0 M' := by
  obtain ⟨M1, h1, h2, h3⟩ := k112 (X := X) h.1
  exact ⟨M1, h1, h.lc h2 h3⟩
theorem q111 {hi : Int32} (hB : ∀ k, k < c → T k < 256) (h : CK T c q tn pn r M0 M) : ∃ v M', mT X 111 [.ref 52, .int hi] (con M) (some (.int v)) (con M') ∧ CK T c (pNu T c q hi) tn pn r M0 M' ∧ ((pNu T c q hi).2.2.2.2 = false → v = nI q.2.2.2.1) := by
  obtain ⟨v, M1, h1, h2, h3, h4⟩ := k111 (X := X) (hi := hi) h.1 hB
  exact ⟨v, M1, h1, h.lc h2 h3, h4⟩
theorem q110 {t : Nat} {w hi : Int32} (hB : ∀ k, k < c → T k < 256) (ht : t < 15) (h : CK T c q tn pn r M0 M) : ∃ v M', mT X 110 [.ref 52, .ref (1000000 + t), .int hi, .int w] (con M) (some (.int v)) (con M') ∧ CK T c (pAf T c q t w hi).2 tn pn r M0 M' ∧ ((pAf T c q t w hi).2.2.2.2.2 = false → v = (pAf T c q t w hi).1) := by
  obtain ⟨v, M1, h1, h2, h3, h4⟩ := k110 (X := X) (w := w) (hi := hi) h.1 hB ht
  exact ⟨v, M1, h1, h.lc h2 h3, h4⟩
end W
theorem pAf_f {q : PS} {t : Nat} {w hi : Int32} (g : (pAf T c q t w hi).2.2.2.2.2 = false) : q.2.2.2.2 = false := by
  cases h : q.2.2.2.2 with
  | false => rfl
  | true => rw [pAf_w h] at g; exact h.symm.trans g
theorem pNu_f {q : PS} {hi : Int32} (g : (pNu T c q hi).2.2.2.2 = false) : q.2.2.2.2 = false := (pMu_ok g).1
theorem pL_f {q : PS} {i : Nat} (g : (pL T c q (i + 1)).2.2.2.2 = false) : (pL T c q i).2.2.2.2 = false := pNu_f g
theorem pMu0_w {q : PS} : (pMu T c q (nI 0)).2.2.2.2 = true := by
  rw [show pMu T c q (nI 0) = (q.1, q.2.1, q.2.2.1, q.2.2.2.1, true) from if_pos (Or.inr rfl)]
theorem pThg_w {q : PS} {tn pn : Nat} (h : ¬ (pWd T q 0 ∧ tn < 8)) : (pThg T c q tn pn).2 = pMu T c q (nI 0) := by
  have e1 : pT1 T c q tn = pMu T c q (nI 0) := congrArg (pMu T c q) (if_neg h)
  have e2 : pT2 T c q tn = pMu T c q (nI 0) := by
    unfold pT2
    rw [e1]
    exact pNu_w pMu0_w
  show (pT7 T c q tn pn).2 = _
  have e3 : (pT3 T c q tn).2 = pMu T c q (nI 0) := by unfold pT3; rw [e2, pAf_w pMu0_w]
  have e4 : (pT4 T c q tn).2 = pMu T c q (nI 0) := by unfold pT4; rw [e3, pAf_w pMu0_w]
  have e5 : (pT5 T c q tn).2 = pMu T c q (nI 0) := by unfold pT5; rw [e4, pAf_w pMu0_w]
  have e6 : (pT6 T c q tn pn).2 = pMu T c q (nI 0) := by unfold pT6; rw [e5, pAf_w pMu0_w]
  unfold pT7
  rw [e6, pAf_w pMu0_w]
theorem pPer_w {q : PS} {k : Int32} {pn : Nat} (h : ¬ pn < 8) : (pPer T c q k pn).2 = pMu T c q (nI 0) := by
  have e1 : pP1 T c q pn = pMu T c q (nI 0) := congrArg (pMu T c q) (if_neg h)
  have e2 : (pP2 T c q pn).2 = pMu T c q (nI 0) := by unfold pP2; rw [e1, pAf_w pMu0_w]
  have e3 : (pP3 T c q pn).2 = pMu T c q (nI 0) := by unfold pP3; rw [e2, pAf_w pMu0_w]
  unfold pPer
  rw [if_pos (Or.inl (by rw [e3]; exact pMu0_w))]
  exact e3
theorem k113 {q : PS} {tn pn : Nat} {r : Nat → Int32} {M0 : mM} (hB : ∀ k, k < c → T k < 256) (h : CK T c q tn pn r M0 M) (hf : q.2.2.2.2 = false) (hw : pWd T q 0) (ht8 : tn < 8) (hp8 : pn ≤ 8) : ∃ M', mT X 113 [.ref 52, .ref 1] (con M) none (con M') ∧ ∃ v2 v3 v4 v5 v6 v7, CK T c (pThg T c q tn pn).2 (tn + 1) pn (addR r tn v2 v3 v4 v5 v6 v7) M0 M' ∧ ((pThg T c q tn pn).2.2.2.2.2 = false → itm (nI 10) v2 v3 v4 v5 v6 v7 = (pThg T c q tn pn).1) := by
  refine tv_of (row := _) rfl (Nat.le_of_ble_eq_true rfl) ?_
  have hm : mMet 113 = some _ := rfl
  refine x_aload_n hm rfl rfl ?_
  refine x_cVv hm rfl rfl (q92 hB h hf) (fun M1 r1 => ?_)
  have b1 : CK T c (pT1 T c q tn) tn pn r M0 M1 := by unfold pT1; rw [if_pos ⟨hw, ht8⟩]; exact r1
  refine x_aload_n hm rfl rfl ?_
  refine x_iconst hm rfl (v := nI 3) (by decide) ?_
  refine x_cVi hm rfl rfl (q111 hB b1) (fun v2 M2 r2 => ?_)
  obtain ⟨b2, y2⟩ := r2
  refine x_istore_n hm rfl rfl ?_
  refine x_aload_n hm rfl rfl ?_
  refine x_ldcS hm rfl ?_
  refine x_bipush hm rfl (v := nI 15) (by decide) ?_
  refine x_iconst hm rfl (v := nI 0) (by decide) ?_
  refine x_cVi hm rfl rfl (q110 hB (by decide) b2) (fun v3 M3 r3 => ?_)
  obtain ⟨b3, y3⟩ := r3
  refine x_istore_n hm rfl rfl ?_
  refine x_aload_n hm rfl rfl ?_
  refine x_ldcS hm rfl ?_
  refine x_sipush hm rfl (v := nI 999) (by decide) ?_
  refine x_bipush hm rfl (v := nI 100) (by decide) ?_
  refine x_cVi hm rfl rfl (q110 hB (by decide) b3) (fun v4 M4 r4 => ?_)
  obtain ⟨b4, y4⟩ := r4
  refine x_istore hm rfl rfl ?_
  refine x_aload_n hm rfl rfl ?_
  refine x_ldcS hm rfl ?_
  refine x_bipush hm rfl (v := nI 9) (by decide) ?_
  refine x_iconst hm rfl (v := nI 0) (by decide) ?_
  refine x_cVi hm rfl rfl (q110 hB (by decide) b4) (fun v5 M5 r5 => ?_)
  obtain ⟨b5, y5⟩ := r5
  refine x_istore hm rfl rfl ?_
  refine x_aload_n hm rfl rfl ?_
  refine x_ldcS hm rfl ?_
  refine x_aload_n hm rfl rfl ?_
  refine x_getf hm rfl (gI rfl rfl) ?_
  rw [b5.2.1.2.1]
  refine x_iconst hm rfl (v := nI 1) (by decide) ?_
  refine x_isub hm rfl ?_
  refine x_iconst hm rfl (v := (-1 : Int32)) (by decide) ?_
  refine x_cVi hm rfl rfl (q110 hB (by decide) b5) (fun v6 M6 r6 => ?_)
  obtain ⟨b6, y6⟩ := r6
  refine x_istore hm rfl rfl ?_
  refine x_aload_n hm rfl rfl ?_
  refine x_ldcS hm rfl ?_
  refine x_aload_n hm rfl rfl ?_
  refine x_getf hm rfl (gI rfl rfl) ?_
  rw [b6.2.1.1]
  refine x_iconst hm rfl (v := nI 1) (by decide) ?_
  refine x_isub hm rfl ?_
  refine x_iconst hm rfl (v := (-1 : Int32)) (by decide) ?_
  refine x_cVi hm rfl rfl (q110 hB (by decide) b6) (fun v7 M7 r7 => ?_)
  obtain ⟨b7, y7⟩ := r7
  refine x_istore hm rfl rfl ?_
  refine x_aload_n hm rfl rfl ?_
  refine x_iload_n hm rfl rfl ?_
  refine x_iload_n hm rfl rfl ?_
  refine x_callV hm rfl rfl (u8 b7.2.1.1 ht8) ?_
  refine x_istore hm rfl rfl ?_
  refine x_aload_n hm rfl rfl ?_
  refine x_getf hm rfl (gR rfl rfl) ?_
  refine x_iconst hm rfl (v := nI 2) (by decide) ?_
  refine x_aald hm rfl (lQ _ (by decide) rfl rfl (by omega) (by decide)) ?_
  refine x_iload hm rfl rfl ?_
  refine x_iload hm rfl rfl ?_
  refine x_iast hm rfl (sI rfl (by omega) (by decide)) ?_
  refine x_aload_n hm rfl rfl ?_
  refine x_getf hm rfl (gR rfl rfl) ?_
  refine x_iconst hm rfl (v := nI 3) (by decide) ?_
  refine x_aald hm rfl (lQ _ (by decide) rfl rfl (by omega) (by decide)) ?_
  refine x_iload hm rfl rfl ?_
  refine x_iload hm rfl rfl ?_
  refine x_iast hm rfl (sI rfl (by omega) (by decide)) ?_
  refine x_aload_n hm rfl rfl ?_
  refine x_getf hm rfl (gR rfl rfl) ?_
  refine x_iconst hm rfl (v := nI 4) (by decide) ?_
  refine x_aald hm rfl (lQ _ (by decide) rfl rfl (by omega) (by decide)) ?_
  refine x_iload hm rfl rfl ?_
  refine x_iload hm rfl rfl ?_
  refine x_iast hm rfl (sI rfl (by omega) (by decide)) ?_
  refine x_aload_n hm rfl rfl ?_
  refine x_getf hm rfl (gR rfl rfl) ?_
  refine x_iconst hm rfl (v := nI 5) (by decide) ?_
  refine x_aald hm rfl (lQ _ (by decide) rfl rfl (by omega) (by decide)) ?_
  refine x_iload hm rfl rfl ?_
  refine x_iload hm rfl rfl ?_
  refine x_iast hm rfl (sI rfl (by omega) (by decide)) ?_
  refine x_ret hm rfl rfl ?_
  have b8 := ((((b7.add (s := v2) (p := v3) ht8).pi (f := 2) (v := v4) ht8 (by decide) (Nat.lt_succ_self _)).pi (f := 3) (v := v5) ht8 (by decide) (Nat.lt_succ_self _)).pi (f := 4) (v := v6) ht8 (by decide) (Nat.lt_succ_self _)).pi (f := 5) (v := v7) ht8 (by decide) (Nat.lt_succ_self _)
  rw [addR_u2, addR_u3, addR_u4, addR_u5] at b8
  refine ⟨_, rfl, rfl, _, _, _, _, _, _, b8, fun g7 => ?_⟩
  have g6 := pAf_f g7
  have g5 := pAf_f g6
  have g4 := pAf_f g5
  have g3 := pAf_f g4
  have g2 := pAf_f g3
  rw [y2 g2, y3 g3, y4 g4, y5 g5, y6 g6, y7 g7]
  rfl
theorem joinR_ui {r : Nat → Int32} {n i : Nat} {a b d v : Int32} {l : Nat → Int32} (hi : i < 4) : put1 (joinR r n a b d (l 0) (l 1) (l 2) (l 3)) (62 + 7 * n + (3 + i)) v = joinR r n a b d (put1 l i v 0) (put1 l i v 1) (put1 l i v 2) (put1 l i v 3) := by
  rcases (by omega : i = 0 ∨ i = 1 ∨ i = 2 ∨ i = 3) with rfl | rfl | rfl | rfl
  · exact joinR_u3
  · exact joinR_u4
  · exact joinR_u5
  · exact joinR_u6
theorem k109l {q : PS} {tn pn : Nat} {r : Nat → Int32} {M0 : mM} {k v3 v4 : Int32} (hB : ∀ k, k < c → T k < 256) (ht8 : tn ≤ 8) (hp8 : pn < 8) : ∀ (z i : Nat) (l : Nat → Int32) (M : mM), 4 - i < z → i ≤ 4 → CK T c (pL T c q i) tn (pn + 1) (joinR r pn k v3 v4 (l 0) (l 1) (l 2) (l 3)) M0 M → ((pL T c q i).2.2.2.2 = false → ∀ j, j < i → l j = nI (pL T c q j).2.2.2.1) → mEv X (QV (fun M' => ∃ l : Nat → Int32, CK T c (pL T c q 4) tn (pn + 1) (joinR r pn k v3 v4 (l 0) (l 1) (l 2) (l 3)) M0 M' ∧ ((pL T c q 4).2.2.2.2 = false → ∀ j, j < 4 → l j = nI (pL T c q j).2.2.2.1))) 109 68 [some (.ref 52), some (.ref 1), some (.int k), some (.int v3), some (.int v4), some (.int (nI pn)), some (.int (nI i))] [] (con M) := by
  have hm : mMet 109 = some _ := rfl
  intro z
  induction z with
  | zero =>
    intro i l M hiz hi4 h hl
    omega
  | succ z ih =>
    intro i l M hiz hi4 h hl
    refine x_iload hm rfl rfl ?_
    refine x_iconst hm rfl (v := nI 4) (by decide) ?_
    refine x_icmp_ge hm rfl (t := 98) rfl (fun h1 => ?_) (fun h1 => ?_)
    · obtain rfl : i = 4 := Nat.le_antisymm hi4 ((jI_le (by decide) (by omega)).mp h1)
      refine x_ret hm rfl rfl ?_
      exact ⟨_, rfl, rfl, l, h, hl⟩
    · have hi : i < 4 := Nat.lt_of_not_le fun h => h1 (nI_le h (by omega))
      refine x_aload_n hm rfl rfl ?_
      refine x_getf hm rfl (gR rfl rfl) ?_
      refine x_iconst hm rfl (v := nI 3) (by decide) ?_
      refine x_iload hm rfl rfl ?_
      refine x_iadd hm rfl ?_
      rw [jI_add]
      refine x_aald hm rfl (lQ 3 (Or.inr (Or.inl rfl)) (tF (b := 1) (by decide)) (tFk (by omega)) (by omega) (by decide)) ?_
      refine x_iload hm rfl rfl ?_
      refine x_aload_n hm rfl rfl ?_
      refine x_bipush hm rfl (v := nI 9) (by decide) ?_
      refine x_cVi hm rfl rfl (q111 hB h) (fun v2 M2 r2 => ?_)
      refine x_iast hm rfl (sI (tRowF (b := 1) (by decide) (by omega)) (by omega) (by decide)) ?_
      refine x_iinc hm rfl rfl (v := nI 1) (by decide) rfl ?_
      rw [jI_add]
      refine x_goto hm rfl (t := 68) rfl ?_
      have b1 := r2.1.pf (f := 3 + i) (p := pn) (v := v2) ht8 (by omega) (Nat.lt_succ_self _)
      rw [joinR_ui hi] at b1
      refine ih (i + 1) _ _ (by omega) (by omega) b1 fun g j hj => ?_
      by_cases e : j = i
      · subst e
        rw [put1_s]
        exact r2.2 g
      · rw [put1_o e]
        exact hl (pL_f g) j (by omega)
theorem k109 {q : PS} {tn pn : Nat} {r : Nat → Int32} {M0 : mM} (hB : ∀ k, k < c → T k < 256) (h : CK T c q tn pn r M0 M) (hf : q.2.2.2.2 = false) {k : Int32} (ht8 : tn ≤ 8) (hp8 : pn < 8) : ∃ M', mT X 109 [.ref 52, .ref 1, .int k] (con M) none (con M') ∧ ∃ v3 v4 l0 l1 l2 l3, CK T c (pPer T c q k pn).2 tn (pn + 1) (joinR r pn k v3 v4 l0 l1 l2 l3) M0 M' ∧ ((pPer T c q k pn).2.2.2.2.2 = false → itm k v3 v4 l0 l1 l2 l3 = (pPer T c q k pn).1) := by
  refine tv_of (row := _) rfl (Nat.le_of_ble_eq_true rfl) ?_
  have hm : mMet 109 = some _ := rfl
  refine x_aload_n hm rfl rfl ?_
  refine x_cVv hm rfl rfl (q92 hB h hf) (fun M1 r1 => ?_)
  have b1 : CK T c (pP1 T c q pn) tn pn r M0 M1 := by unfold pP1; rw [if_pos hp8]; exact r1
  refine x_aload_n hm rfl rfl ?_
  refine x_ldcS hm rfl ?_
  refine x_bipush hm rfl (v := nI 15) (by decide) ?_
  refine x_iconst hm rfl (v := nI 0) (by decide) ?_
  refine x_cVi hm rfl rfl (q110 hB (by decide) b1) (fun v2 M2 r2 => ?_)
  obtain ⟨b2, y2⟩ := r2
  change CK T c (pP2 T c q pn).2 _ _ _ _ _ at b2
  refine x_istore_n hm rfl rfl ?_
  refine x_aload_n hm rfl rfl ?_
  refine x_ldcS hm rfl ?_
  refine x_bipush hm rfl (v := nI 15) (by decide) ?_
  refine x_iconst hm rfl (v := nI 1) (by decide) ?_
  refine x_cVi hm rfl rfl (q110 hB (by decide) b2) (fun v3 M3 r3 => ?_)
  obtain ⟨b3, y3⟩ := r3
  change CK T c (pP3 T c q pn).2 _ _ _ _ _ at b3
  refine x_istore hm rfl rfl ?_
  refine x_aload_n hm rfl rfl ?_
  refine x_iload_n hm rfl rfl ?_
  refine x_iload_n hm rfl rfl ?_
  refine x_callV hm rfl rfl (u23 b3.2.1.2.1 hp8) ?_
  refine x_istore hm rfl rfl ?_
  refine x_aload_n hm rfl rfl ?_
  refine x_getf hm rfl (gR rfl rfl) ?_
  refine x_iconst hm rfl (v := nI 2) (by decide) ?_
  refine x_aald hm rfl (lQ _ (by decide) rfl rfl (by omega) (by decide)) ?_
  refine x_iload hm rfl rfl ?_
  refine x_iload hm rfl rfl ?_
  refine x_iast hm rfl (sI rfl (by omega) (by decide)) ?_
  have b4 := (b3.join (k := k) (p := v2) ht8 hp8).pf (f := 2) (p := pn) (v := v3) ht8 (by decide) (Nat.lt_succ_self _)
  rw [joinR_u2] at b4
  refine x_aload_n hm rfl rfl ?_
  refine x_getf hm rfl (gI rfl rfl) ?_
  refine x_iconst hm rfl (v := (-1 : Int32)) (by decide) ?_
  refine x_icmp_ne hm rfl (t := 98) rfl (fun h4 => ?_) (fun h4 => ?_)
  · have hno : noL T (pP3 T c q pn).2 := Or.inl (b4.1.fw h4)
    refine x_ret hm rfl rfl ?_
    have eq : pPer T c q k pn = (itm k (pP2 T c q pn).1 (pP3 T c q pn).1 (nI 1) (nI 1) (nI 1) (nI 1), (pP3 T c q pn).2) := if_pos hno
    rw [eq]
    exact ⟨_, rfl, rfl, _, _, _, _, _, _, b4, fun g => by rw [y2 (pAf_f g), y3 g]; rfl⟩
  · have hf3 := b4.1.ff h4
    refine x_aload_n hm rfl rfl ?_
    refine x_ldcS hm rfl ?_
    refine x_cVe hm rfl rfl (k97 b4.1 hB (by decide)) (fun v5 r5 => ?_)
    subst r5
    refine x_if_eq hm rfl (t := 98) rfl (fun h6 => ?_) (fun h6 => ?_)
    · have hno : noL T (pP3 T c q pn).2 := Or.inr (bI_eq0.mp h6)
      refine x_ret hm rfl rfl ?_
      have eq : pPer T c q k pn = (itm k (pP2 T c q pn).1 (pP3 T c q pn).1 (nI 1) (nI 1) (nI 1) (nI 1), (pP3 T c q pn).2) := if_pos hno
      rw [eq]
      exact ⟨_, rfl, rfl, _, _, _, _, _, _, b4, fun g => by rw [y2 (pAf_f g), y3 g]; rfl⟩
    · have hye : ¬ noL T (pP3 T c q pn).2 := fun z => z.elim (fun z => absurd (hf3.symm.trans z) (by decide)) (fun z => z (bI_ne0 h6))
      refine x_aload_n hm rfl rfl ?_
      refine x_cVv hm rfl rfl (q92 hB b4 hf3) (fun M7 r7 => ?_)
      refine x_iconst hm rfl (v := nI 0) (by decide) ?_
      refine x_istore hm rfl rfl ?_
      have eq : pPer T c q k pn = (itm k (pP2 T c q pn).1 (pP3 T c q pn).1 (nI (pL T c (pP3 T c q pn).2 0).2.2.2.1) (nI (pL T c (pP3 T c q pn).2 1).2.2.2.1) (nI (pL T c (pP3 T c q pn).2 2).2.2.2.1) (nI (pL T c (pP3 T c q pn).2 3).2.2.2.1), pL T c (pP3 T c q pn).2 4) := if_neg hye
      rw [eq]
      refine ev_mono (k109l (q := (pP3 T c q pn).2) (l := fun _ => nI 1) hB ht8 hp8 _ 0 _ (Nat.lt_succ_self _) (Nat.zero_le _) r7 (fun _ j hj => absurd hj (Nat.not_lt_zero j))) ?_
      rintro r0 D ⟨M9, e1, e2, l, e3, e4⟩
      refine ⟨M9, e1, e2, _, _, _, _, _, _, e3, fun g => ?_⟩
      have g3 : (pP3 T c q pn).2.2.2.2.2 = false := (pMu_ok (pL_f (pL_f (pL_f (pL_f g))))).1
      rw [y2 (pAf_f g3), y3 g3, e4 g 0 (by decide), e4 g 1 (by decide), e4 g 2 (by decide), e4 g 3 (by decide)]
      rfl
end CY
