/-! ===== texts: items ===== -/
def itm (a b c d e f g : Int32) : Nat → Int32 := fun j => if j = 0 then a else if j = 1 then b else if j = 2 then c else if j = 3 then d else if j = 4 then e else if j = 5 then f else g
/-- likings read: the word and so many numbers behind it -/
def pL (T : Nat → Nat) (c : Nat) (q : PS) : Nat → PS
  | 0 => pMu T c q (nI 1)
  | i + 1 => pNu T c (pL T c q i) (nI 9)
def pP1 (T : Nat → Nat) (c : Nat) (q : PS) (pn : Nat) : PS := pMu T c q (if pn < 8 then nI 1 else nI 0)
noncomputable def pP2 (T : Nat → Nat) (c : Nat) (q : PS) (pn : Nat) : Int32 × PS := pAf T c (pP1 T c q pn) 8 (nI 0) (nI 15)
noncomputable def pP3 (T : Nat → Nat) (c : Nat) (q : PS) (pn : Nat) : Int32 × PS := pAf T c (pP2 T c q pn).2 9 (nI 1) (nI 15)
abbrev noL (T : Nat → Nat) (q : PS) : Prop := q.2.2.2.2 = true ∨ ¬ pWd T q 10
noncomputable def pPer (T : Nat → Nat) (c : Nat) (q : PS) (k : Int32) (pn : Nat) : (Nat → Int32) × PS :=
  if noL T (pP3 T c q pn).2 then (itm k (pP2 T c q pn).1 (pP3 T c q pn).1 (nI 1) (nI 1) (nI 1) (nI 1), (pP3 T c q pn).2)
  else (itm k (pP2 T c q pn).1 (pP3 T c q pn).1 (nI (pL T c (pP3 T c q pn).2 0).2.2.2.1) (nI (pL T c (pP3 T c q pn).2 1).2.2.2.1) (nI (pL T c (pP3 T c q pn).2 2).2.2.2.1) (nI (pL T c (pP3 T c q pn).2 3).2.2.2.1), pL T c (pP3 T c q pn).2 4)
noncomputable def pT1 (T : Nat → Nat) (c : Nat) (q : PS) (tn : Nat) : PS := pMu T c q (if pWd T q 0 ∧ tn < 8 then nI 1 else nI 0)
noncomputable def pT2 (T : Nat → Nat) (c : Nat) (q : PS) (tn : Nat) : PS := pNu T c (pT1 T c q tn) (nI 3)
noncomputable def pT3 (T : Nat → Nat) (c : Nat) (q : PS) (tn : Nat) : Int32 × PS := pAf T c (pT2 T c q tn) 8 (nI 0) (nI 15)
noncomputable def pT4 (T : Nat → Nat) (c : Nat) (q : PS) (tn : Nat) : Int32 × PS := pAf T c (pT3 T c q tn).2 11 (nI 100) (nI 999)
noncomputable def pT5 (T : Nat → Nat) (c : Nat) (q : PS) (tn : Nat) : Int32 × PS := pAf T c (pT4 T c q tn).2 12 (nI 0) (nI 9)
noncomputable def pT6 (T : Nat → Nat) (c : Nat) (q : PS) (tn pn : Nat) : Int32 × PS := pAf T c (pT5 T c q tn).2 13 (-1) (nI pn - nI 1)
noncomputable def pT7 (T : Nat → Nat) (c : Nat) (q : PS) (tn pn : Nat) : Int32 × PS := pAf T c (pT6 T c q tn pn).2 14 (-1) (nI tn - nI 1)
noncomputable def pThg (T : Nat → Nat) (c : Nat) (q : PS) (tn pn : Nat) : (Nat → Int32) × PS :=
  (itm (nI 10) (nI (pT1 T c q tn).2.2.2.1) (pT3 T c q tn).1 (pT4 T c q tn).1 (pT5 T c q tn).1 (pT6 T c q tn pn).1 (pT7 T c q tn pn).1, (pT7 T c q tn pn).2)
/-- an item, how many things and people there are then, where the reading stands -/
noncomputable def pItem (T : Nat → Nat) (c : Nat) (q : PS) (tn pn : Nat) : (Nat → Int32) × Nat × Nat × PS :=
  if pKd T q 7 < 0 then ((pThg T c q tn pn).1, tn + 1, pn, (pThg T c q tn pn).2) else ((pPer T c q (pKd T q 7) pn).1, tn, pn + 1, (pPer T c q (pKd T q 7) pn).2)
/-- an item is sound -/
def OkI (tn pn : Nat) (it : Nat → Int32) : Prop :=
  (∃ k, k < 7 ∧ it 0 = nI k ∧ pn < 8 ∧ Le 15 (it 1) ∧ Le 15 (it 2) ∧ Le 9 (it 3) ∧ Le 9 (it 4) ∧ Le 9 (it 5) ∧ Le 9 (it 6))
  ∨ (it 0 = nI 10 ∧ tn < 8 ∧ Le 3 (it 1) ∧ Le 15 (it 2) ∧ Le 999 (it 3) ∧ Le 9 (it 4) ∧ Lo pn (it 5) ∧ Lo tn (it 6))
section PZ
variable {T : Nat → Nat} {c tn pn : Nat} {q : PS}
theorem pKd_k : ∀ k, k ≤ 7 → pKd T q k = -1 ∨ ∃ j, j < k ∧ pKd T q k = nI j ∧ pWd T q (kt j) := by
  intro k
  induction k with
  | zero => intro _; exact Or.inl rfl
  | succ k ih =>
    intro hk
    by_cases h : pWd T q (kt k)
    · exact Or.inr ⟨k, Nat.lt_succ_self _, if_pos h, h⟩
    · rw [show pKd T q (k + 1) = pKd T q k from if_neg h]
      exact (ih (by omega)).imp id fun ⟨j, a, b⟩ => ⟨j, by omega, b⟩
theorem pKd_nn (h : ¬ pKd T q 7 < 0) : ∃ j, j < 7 ∧ pKd T q 7 = nI j ∧ pWd T q (kt j) := by
  rcases pKd_k (T := T) (q := q) 7 (Nat.le_refl _) with e | e
  · exact absurd (by rw [e]; decide) h
  · exact e
theorem pL_pk (h : Pk c q) : ∀ i, Pk c (pL T c q i) := by
  intro i
  induction i with
  | zero => exact (pMu_pk h).1
  | succ i ih => exact (pNu_pk ih).1
theorem le_v {n v : Nat} (hn : n ≤ 2000) (hv : v ≤ 1000) (h : nI v ≤ nI n) : Le n (nI v) := ⟨v, (jI_le (by omega) (by omega)).mp h, rfl⟩
theorem pAf_le {t n : Nat} {w : Int32} (hp : Pk c q) (hn : n ≤ 2000) (hw : Le n w) (g : (pAf T c q t w (nI n)).2.2.2.2.2 = false) : q.2.2.2.2 = false ∧ Le n (pAf T c q t w (nI n)).1 := by
  obtain ⟨g1, g2⟩ := pAf_ok hp g
  refine ⟨g1, ?_⟩
  rcases g2 with e | ⟨k, hk, e, h⟩
  · rw [e]; exact hw
  · rw [e]; exact le_v hn hk h
theorem pAf_lo {t n : Nat} (hp : Pk c q) (hn : n ≤ 8) (g : (pAf T c q t (-1) (nI n - nI 1)).2.2.2.2.2 = false) : q.2.2.2.2 = false ∧ Lo n (pAf T c q t (-1) (nI n - nI 1)).1 := by
  obtain ⟨g1, g2⟩ := pAf_ok hp g
  refine ⟨g1, ?_⟩
  rcases g2 with e | ⟨k, hk, e, h⟩
  · exact Or.inl e
  · refine Or.inr (in_k rfl (by omega) ⟨?_, by rw [e]; exact h⟩)
    rw [e]
    exact (jI_le (by decide) (by omega)).mpr (Nat.zero_le _)
theorem pP1_pk (h : Pk c q) : Pk c (pP1 T c q pn) := (pMu_pk h).1
theorem pP2_pk (h : Pk c q) : Pk c (pP2 T c q pn).2 := (pAf_pk (pP1_pk h)).1
theorem pP3_pk (h : Pk c q) : Pk c (pP3 T c q pn).2 := (pAf_pk (pP2_pk h)).1
theorem pT1_pk (h : Pk c q) : Pk c (pT1 T c q tn) := (pMu_pk h).1
theorem pT2_pk (h : Pk c q) : Pk c (pT2 T c q tn) := (pNu_pk (pT1_pk h)).1
theorem pT3_pk (h : Pk c q) : Pk c (pT3 T c q tn).2 := (pAf_pk (pT2_pk h)).1
theorem pT4_pk (h : Pk c q) : Pk c (pT4 T c q tn).2 := (pAf_pk (pT3_pk h)).1
theorem pT5_pk (h : Pk c q) : Pk c (pT5 T c q tn).2 := (pAf_pk (pT4_pk h)).1
theorem pT6_pk (h : Pk c q) : Pk c (pT6 T c q tn pn).2 := (pAf_pk (pT5_pk h)).1
theorem pT7_pk (h : Pk c q) : Pk c (pT7 T c q tn pn).2 := (pAf_pk (pT6_pk h)).1
theorem pItem_pk (h : Pk c q) : Pk c (pItem T c q tn pn).2.2.2 := by
  unfold pItem
  split
  · exact pT7_pk h
  · show Pk c (pPer T c q (pKd T q 7) pn).2
    unfold pPer
    split
    · exact pP3_pk h
    · exact pL_pk (pP3_pk h) 4
theorem pItem_ok (h : Pk c q) (ht : tn ≤ 8) (hp : pn ≤ 8) (g : (pItem T c q tn pn).2.2.2.2.2.2.2 = false) : OkI tn pn (pItem T c q tn pn).1 := by
  by_cases e : pKd T q 7 < 0
  · have eq : pItem T c q tn pn = ((pThg T c q tn pn).1, tn + 1, pn, (pThg T c q tn pn).2) := if_pos e
    rw [eq] at g ⊢
    obtain ⟨g7, v7⟩ := pAf_lo (pT6_pk h) ht g
    obtain ⟨g6, v6⟩ := pAf_lo (pT5_pk h) hp g7
    obtain ⟨g5, v5⟩ := pAf_le (pT4_pk h) (by decide) ⟨0, by decide, rfl⟩ g6
    obtain ⟨g4, v4⟩ := pAf_le (pT3_pk h) (by decide) ⟨100, by decide, rfl⟩ g5
    obtain ⟨g3, v3⟩ := pAf_le (pT2_pk h) (by decide) ⟨0, by decide, rfl⟩ g4
    obtain ⟨g2, -, v2⟩ := pNu_ok g3
    obtain ⟨g1, v1⟩ := pMu_ok g2
    refine Or.inr ⟨rfl, ?_, le_v (by decide) (pT1_pk h).2.2.2.2.2 v2, v3, v4, v5, v6, v7⟩
    by_cases e1 : pWd T q 0 ∧ tn < 8
    · exact e1.2
    · exact absurd (if_neg e1) v1
  · obtain ⟨k, hk, ek, -⟩ := pKd_nn e
    have eq : pItem T c q tn pn = ((pPer T c q (pKd T q 7) pn).1, tn, pn + 1, (pPer T c q (pKd T q 7) pn).2) := if_neg e
    rw [eq] at g ⊢
    have fin : (pP3 T c q pn).2.2.2.2.2 = false → pn < 8 ∧ Le 15 (pP2 T c q pn).1 ∧ Le 15 (pP3 T c q pn).1 := by
      intro g
      obtain ⟨g3, v3⟩ := pAf_le (pP2_pk h) (by decide) ⟨1, by decide, rfl⟩ g
      obtain ⟨g2, v2⟩ := pAf_le (pP1_pk h) (by decide) ⟨0, by decide, rfl⟩ g3
      obtain ⟨g1, v1⟩ := pMu_ok g2
      refine ⟨?_, v2, v3⟩
      by_cases e1 : pn < 8
      · exact e1
      · exact absurd (if_neg e1) v1
    have l1 : Le 9 (nI 1) := ⟨1, by decide, rfl⟩
    by_cases el : noL T (pP3 T c q pn).2
    · have e2 : pPer T c q (pKd T q 7) pn = (itm (pKd T q 7) (pP2 T c q pn).1 (pP3 T c q pn).1 (nI 1) (nI 1) (nI 1) (nI 1), (pP3 T c q pn).2) := if_pos el
      rw [e2] at g ⊢
      obtain ⟨f1, f2, f3⟩ := fin g
      exact Or.inl ⟨k, hk, ek, f1, f2, f3, l1, l1, l1, l1⟩
    · have e2 : pPer T c q (pKd T q 7) pn = (itm (pKd T q 7) (pP2 T c q pn).1 (pP3 T c q pn).1 (nI (pL T c (pP3 T c q pn).2 0).2.2.2.1) (nI (pL T c (pP3 T c q pn).2 1).2.2.2.1) (nI (pL T c (pP3 T c q pn).2 2).2.2.2.1) (nI (pL T c (pP3 T c q pn).2 3).2.2.2.1), pL T c (pP3 T c q pn).2 4) := if_neg el
      rw [e2] at g ⊢
      obtain ⟨g4, -, v4⟩ := pNu_ok g
      obtain ⟨g3, -, v3⟩ := pNu_ok g4
      obtain ⟨g2, -, v2⟩ := pNu_ok g3
      obtain ⟨g1, -, v1⟩ := pNu_ok g2
      have hk3 := pP3_pk (T := T) (pn := pn) h
      obtain ⟨f1, f2, f3⟩ := fin (pMu_ok g1).1
      exact Or.inl ⟨k, hk, ek, f1, f2, f3, le_v (by decide) (pL_pk hk3 0).2.2.2.2.2 v1, le_v (by decide) (pL_pk hk3 1).2.2.2.2.2 v2, le_v (by decide) (pL_pk hk3 2).2.2.2.2.2 v3, le_v (by decide) (pL_pk hk3 3).2.2.2.2.2 v4⟩
end PZ
section RI
variable {X : mSc} {Q : Option Value → mHp → Prop} {M : mM} {T : Nat → Nat} {c : Nat}
/-- between the steps of an item's reading: where it stands, how many items, things, people -/
def Rk (T : Nat → Nat) (c : Nat) (q : PS) (m tn pn : Nat) (M0 M : mM) : Prop := RT T c q M ∧ M 66 17 = nI m ∧ M 66 18 = nI tn ∧ M 66 19 = nI pn ∧ Lw m M0 M
theorem Rk.ly {q q' : PS} {m tn pn : Nat} {M0 M1 : mM} (h : Rk T c q m tn pn M0 M) (g : RT T c q' M1) (hL : Ly M M1) : Rk T c q' m tn pn M0 M1 := ⟨g, (hL 66 17 (by omega)).trans h.2.1, (hL 66 18 (by omega)).trans h.2.2.1, (hL 66 19 (by omega)).trans h.2.2.2.1, h.2.2.2.2.trans hL.lw⟩
theorem RT.pf {q : PS} {x : Nat} {v : Int32} (h : RT T c q M) (hx : 15 ≤ x) : RT T c q (mput M 66 x v) := by
  obtain ⟨h1, h2, h3, h4, h5, h6, h7, h8⟩ := h
  exact ⟨(mpf (by omega)).trans h1, (mpf (by omega)).trans h2, (mpf (by omega)).trans h3, (mpf (by omega)).trans h4, (mpf (by omega)).trans h5, (mpf (by omega)).trans h6, fun k hk => (congrFun (mpo (by decide)) k).trans (h7 k hk), h8⟩
theorem Rk.p19 {q : PS} {m tn pn : Nat} {M0 : mM} (h : Rk T c q m tn pn M0 M) : Rk T c q m tn (pn + 1) M0 (mput M 66 19 (nI (pn + 1))) := ⟨h.1.pf (by decide), (mpf (by decide)).trans h.2.1, (mpf (by decide)).trans h.2.2.1, mp0, h.2.2.2.2.trans (Lw.put (by decide))⟩
theorem Rk.p18 {q : PS} {m tn pn : Nat} {M0 : mM} (h : Rk T c q m tn pn M0 M) : Rk T c q m (tn + 1) pn M0 (mput M 66 18 (nI (tn + 1))) := ⟨h.1.pf (by decide), (mpf (by decide)).trans h.2.1, mp0, (mpf (by decide)).trans h.2.2.2.1, h.2.2.2.2.trans (Lw.put (by decide))⟩
theorem it7_j {m : Nat} {a b c1 d e f g : Int32} : ∀ j, j < 7 → it7 M m a b c1 d e f g 75 (7 * m + j) = itm a b c1 d e f g j := by
  intro j hj
  rcases (by omega : j = 0 ∨ j = 1 ∨ j = 2 ∨ j = 3 ∨ j = 4 ∨ j = 5 ∨ j = 6) with rfl | rfl | rfl | rfl | rfl | rfl | rfl
  all_goals (unfold it7 mput itm; simp)
/-- behind an item -/
def Rn (T : Nat → Nat) (c : Nat) (r : (Nat → Int32) × Nat × Nat × PS) (m : Nat) (M0 M : mM) : Prop := RT T c r.2.2.2 M ∧ M 66 17 = nI (m + 1) ∧ M 66 18 = nI r.2.1 ∧ M 66 19 = nI r.2.2.1 ∧ (∀ j, j < 7 → M 75 (7 * m + j) = r.1 j) ∧ Lw m M0 M
theorem Rk.fin {q : PS} {m tn pn : Nat} {a b c1 d e f g : Int32} {M0 : mM} (h : Rk T c q m tn pn M0 M) : Rn T c (itm a b c1 d e f g, tn, pn, q) m M0 (it7 M m a b c1 d e f g) := by
  obtain ⟨⟨h1, h2, h3, h4, h5, h6, h7, h8⟩, k1, k2, k3, k4⟩ := h
  refine ⟨⟨(it7_66 (by decide)).trans h1, (it7_66 (by decide)).trans h2, (it7_66 (by decide)).trans h3, (it7_66 (by decide)).trans h4, (it7_66 (by decide)).trans h5, (it7_66 (by decide)).trans h6, fun k hk => (it7_o 73 k (Or.inl (by decide)) (Or.inl (by decide))).trans (h7 k hk), h8⟩, ?_, (it7_66 (by decide)).trans k2, (it7_66 (by decide)).trans k3, it7_j, k4.trans it7_o⟩
  unfold it7
  exact mp0
theorem v226k {q : PS} {x : Int32} {m tn pn : Nat} {M0 : mM} (h8 : ∀ k, k < c → T k < 256) (h : Rk T c q m tn pn M0 M) : ∃ M', mT X 226 [.ref 66, .int x] (con M) none (con M') ∧ Rk T c (pMu T c q x) m tn pn M0 M' := by
  obtain ⟨M1, h1, h2, h3⟩ := k226 (X := X) (x := x) h.1 h8
  exact ⟨M1, h1, h.ly h2 h3⟩
theorem v228k {q : PS} {hi : Int32} {m tn pn : Nat} {M0 : mM} (h8 : ∀ k, k < c → T k < 256) (h : Rk T c q m tn pn M0 M) : ∃ v M', mT X 228 [.ref 66, .int (nI 0), .int hi] (con M) (some (.int v)) (con M') ∧ v = nI q.2.2.2.1 ∧ Rk T c (pNu T c q hi) m tn pn M0 M' := by
  obtain ⟨v, M1, h1, h0, h2, h3⟩ := k228 (X := X) (hi := hi) h.1 h8
  exact ⟨v, M1, h1, h0, h.ly h2 h3⟩
theorem v227k {q : PS} {t : Nat} {w hi : Int32} {m tn pn : Nat} {M0 : mM} (h8 : ∀ k, k < c → T k < 256) (ht : t < 15) (h : Rk T c q m tn pn M0 M) : ∃ v M', mT X 227 [.ref 66, .ref (1000000 + t), .int w, .int (nI 0), .int hi] (con M) (some (.int v)) (con M') ∧ v = (pAf T c q t w hi).1 ∧ Rk T c (pAf T c q t w hi).2 m tn pn M0 M' := by
  obtain ⟨v, M1, h1, h0, h2, h3⟩ := k227 (X := X) (w := w) (hi := hi) h.1 h8 ht
  exact ⟨v, M1, h1, h0, h.ly h2 h3⟩
theorem k223a {q : PS} {m tn pn : Nat} {M0 : mM} {k a w : Int32} (hm1 : m < 120) (h8 : ∀ k, k < c → T k < 256) (h : Rk T c q m tn pn M0 M) : mEv X (QV (fun M' => Rn T c (itm k a w (nI 1) (nI 1) (nI 1) (nI 1), tn, pn, q) m M0 M')) 223 74 [some (.ref 66), some (.int k), some (.int a), some (.int w), some (.int (-1)), none, none, none] [] (con M) := by
  have hm : mMet 223 = some _ := rfl
  refine x_iload hm rfl rfl ?_
  refine x_if_ge hm rfl (t := 83) rfl (fun h1 => ?_) (fun h1 => ?_)
  · exact absurd h1 (by decide) --stop
  · refine x_iconst hm rfl (v := nI 1) (by decide) ?_
    refine x_goto hm rfl (t := 90) rfl ?_
    refine x_istore hm rfl rfl ?_
    refine x_iload hm rfl rfl ?_
    refine x_if_ge hm rfl (t := 101) rfl (fun h2 => ?_) (fun h2 => ?_)
    · exact absurd h2 (by decide) --stop
    · refine x_iconst hm rfl (v := nI 1) (by decide) ?_
      refine x_goto hm rfl (t := 108) rfl ?_
      refine x_istore hm rfl rfl ?_
      refine x_iload hm rfl rfl ?_
      refine x_if_ge hm rfl (t := 119) rfl (fun h3 => ?_) (fun h3 => ?_)
      · exact absurd h3 (by decide) --stop
      · refine x_iconst hm rfl (v := nI 1) (by decide) ?_
        refine x_goto hm rfl (t := 126) rfl ?_
        refine x_istore hm rfl rfl ?_
        refine x_aload_n hm rfl rfl ?_
        have e17 := h.2.1
        refine x_iload_n hm rfl rfl ?_
        refine x_iload_n hm rfl rfl ?_
        refine x_iload_n hm rfl rfl ?_
        refine x_iload hm rfl rfl ?_
        refine x_if_ge hm rfl (t := 141) rfl (fun h4 => ?_) (fun h4 => ?_)
        · exact absurd h4 (by decide) --stop
        · refine x_iconst hm rfl (v := nI 1) (by decide) ?_
          refine x_goto hm rfl (t := 143) rfl ?_
          refine x_iload hm rfl rfl ?_
          refine x_iload hm rfl rfl ?_
          refine x_iload hm rfl rfl ?_
          refine x_callV hm rfl rfl (t229 (by assumption) (by omega)) ?_
          refine x_goto hm rfl (t := 290) rfl ?_
          refine x_ret hm rfl rfl ?_
          exact ⟨_, rfl, rfl, h.fin⟩
theorem k223b {q : PS} {m tn pn : Nat} {M0 : mM} {k a w : Int32} (hm1 : m < 120) (h8 : ∀ k, k < c → T k < 256) (hpk : Pk c q) (h : Rk T c (pL T c q 1) m tn pn M0 M) : mEv X (QV (fun M' => Rn T c (itm k a w (nI (pL T c q 0).2.2.2.1) (nI (pL T c q 1).2.2.2.1) (nI (pL T c q 2).2.2.2.1) (nI (pL T c q 3).2.2.2.1), tn, pn, pL T c q 4) m M0 M')) 223 74 [some (.ref 66), some (.int k), some (.int a), some (.int w), some (.int (nI (pL T c q 0).2.2.2.1)), none, none, none] [] (con M) := by
  have hm : mMet 223 = some _ := rfl
  have hv0 := (pL_pk (T := T) hpk 0).2.2.2.2.2
  refine x_iload hm rfl rfl ?_
  refine x_if_ge hm rfl (t := 83) rfl (fun h1 => ?_) (fun h1 => ?_)
  · refine x_aload_n hm rfl rfl ?_
    refine x_iconst hm rfl (v := nI 0) (by decide) ?_
    refine x_bipush hm rfl (v := nI 9) (by decide) ?_
    refine x_cVi hm rfl rfl (v228k h8 h) (fun v2 M2 r2 => ?_)
    first
      | obtain ⟨z1, b1⟩ := r2; subst z1
      | obtain ⟨z1, b1⟩ := r11; subst z1
      | obtain ⟨z1, b1⟩ := r10; subst z1
      | obtain ⟨z1, b1⟩ := r9; subst z1
      | obtain ⟨z1, b1⟩ := r8; subst z1
      | obtain ⟨z1, b1⟩ := r7; subst z1
      | obtain ⟨z1, b1⟩ := r6; subst z1
      | obtain ⟨z1, b1⟩ := r5; subst z1
      | obtain ⟨z1, b1⟩ := r4; subst z1
      | obtain ⟨z1, b1⟩ := r3; subst z1
      | obtain ⟨z1, b1⟩ := r1; subst z1
    refine x_istore hm rfl rfl ?_
    refine x_iload hm rfl rfl ?_
    refine x_if_ge hm rfl (t := 101) rfl (fun h3 => ?_) (fun h3 => ?_)
    · refine x_aload_n hm rfl rfl ?_
      refine x_iconst hm rfl (v := nI 0) (by decide) ?_
      refine x_bipush hm rfl (v := nI 9) (by decide) ?_
      refine x_cVi hm rfl rfl (v228k h8 b1) (fun v4 M4 r4 => ?_)
      first
        | obtain ⟨z2, b2⟩ := r4; subst z2
        | obtain ⟨z2, b2⟩ := r2; subst z2
        | obtain ⟨z2, b2⟩ := r11; subst z2
        | obtain ⟨z2, b2⟩ := r10; subst z2
        | obtain ⟨z2, b2⟩ := r9; subst z2
        | obtain ⟨z2, b2⟩ := r8; subst z2
        | obtain ⟨z2, b2⟩ := r7; subst z2
        | obtain ⟨z2, b2⟩ := r6; subst z2
        | obtain ⟨z2, b2⟩ := r5; subst z2
        | obtain ⟨z2, b2⟩ := r3; subst z2
        | obtain ⟨z2, b2⟩ := r1; subst z2
      refine x_istore hm rfl rfl ?_
      refine x_iload hm rfl rfl ?_
      refine x_if_ge hm rfl (t := 119) rfl (fun h5 => ?_) (fun h5 => ?_)
      · refine x_aload_n hm rfl rfl ?_
        refine x_iconst hm rfl (v := nI 0) (by decide) ?_
        refine x_bipush hm rfl (v := nI 9) (by decide) ?_
        refine x_cVi hm rfl rfl (v228k h8 b2) (fun v6 M6 r6 => ?_)
        first
          | obtain ⟨z3, b3⟩ := r6; subst z3
          | obtain ⟨z3, b3⟩ := r4; subst z3
          | obtain ⟨z3, b3⟩ := r2; subst z3
          | obtain ⟨z3, b3⟩ := r11; subst z3
          | obtain ⟨z3, b3⟩ := r10; subst z3
          | obtain ⟨z3, b3⟩ := r9; subst z3
          | obtain ⟨z3, b3⟩ := r8; subst z3
          | obtain ⟨z3, b3⟩ := r7; subst z3
          | obtain ⟨z3, b3⟩ := r5; subst z3
          | obtain ⟨z3, b3⟩ := r3; subst z3
          | obtain ⟨z3, b3⟩ := r1; subst z3
        refine x_istore hm rfl rfl ?_
        refine x_aload_n hm rfl rfl ?_
        have e17 := b3.2.1
        refine x_iload_n hm rfl rfl ?_
        refine x_iload_n hm rfl rfl ?_
        refine x_iload_n hm rfl rfl ?_
        refine x_iload hm rfl rfl ?_
        refine x_if_ge hm rfl (t := 141) rfl (fun h7 => ?_) (fun h7 => ?_)
        · refine x_iload hm rfl rfl ?_
          refine x_iload hm rfl rfl ?_
          refine x_iload hm rfl rfl ?_
          refine x_iload hm rfl rfl ?_
          refine x_callV hm rfl rfl (t229 (by assumption) (by omega)) ?_
          refine x_goto hm rfl (t := 290) rfl ?_
          refine x_ret hm rfl rfl ?_
          exact ⟨_, rfl, rfl, b3.fin⟩
        · exact absurd (ge0 (by omega)) h7 --stop
      · exact absurd (ge0 (by omega)) h5 --stop
    · exact absurd (ge0 (by omega)) h3 --stop
  · exact absurd (ge0 (by omega)) h1 --stop
theorem k223 {q : PS} {m tn pn : Nat} {M0 : mM} (h8 : ∀ k, k < c → T k < 256) (hm1 : m < 120) (htn : tn ≤ 8) (hpn : pn ≤ 8) (h : Rk T c q m tn pn M0 M) : ∃ M', mT X 223 [.ref 66] (con M) none (con M') ∧ Rn T c (pItem T c q tn pn) m M0 M' := by
  refine tv_of (row := _) rfl (Nat.le_of_ble_eq_true rfl) ?_
  have hm : mMet 223 = some _ := rfl
  have hpk := h.1.2.2.2.2.2.2.2
  refine x_aload_n hm rfl rfl ?_
  refine x_cVe hm rfl rfl (k224 h.1 h8) (fun v1 r1 => ?_)
  subst r1
  refine x_istore_n hm rfl rfl ?_
  refine x_iload_n hm rfl rfl ?_
  refine x_if_lt hm rfl (t := 155) rfl (fun h2 => ?_) (fun h2 => ?_)
  · have hq : (pItem T c q tn pn) = ((pThg T c q tn pn).1, tn + 1, pn, (pThg T c q tn pn).2) := if_pos h2
    refine x_aload_n hm rfl rfl ?_
    refine x_aload_n hm rfl rfl ?_
    refine x_ldc_wS hm rfl ?_
    refine x_cVe hm rfl rfl (k225 h.1 h8 (by decide)) (fun v3 r3 => ?_)
    subst r3
    refine x_if_eq hm rfl (t := 179) rfl (fun h4 => ?_) (fun h4 => ?_)
    · have hnx : ¬ (pWd T q 0 ∧ tn < 8) := fun z => bI_eq0.mp h4 z.1
      refine x_iconst hm rfl (v := nI 0) (by decide) ?_
      refine x_cVv hm rfl rfl (v226k h8 h) (fun M5 r5 => ?_)
      first
        | have b1 : Rk T c (pT1 T c q tn) m tn pn M0 M5 := by unfold pT1; rw [if_pos hx]; exact r5
        | have b1 : Rk T c (pT1 T c q tn) m tn pn M0 M5 := by unfold pT1; rw [if_neg hnx]; exact r5
      refine x_aload_n hm rfl rfl ?_
      refine x_iconst hm rfl (v := nI 0) (by decide) ?_
      refine x_iconst hm rfl (v := nI 3) (by decide) ?_
      refine x_cVi hm rfl rfl (v228k h8 b1) (fun v6 M6 r6 => ?_)
      obtain ⟨z2, b2⟩ := r6
      subst z2
      refine x_istore_n hm rfl rfl ?_
      refine x_aload_n hm rfl rfl ?_
      refine x_ldc_wS hm rfl ?_
      refine x_iconst hm rfl (v := nI 0) (by decide) ?_
      refine x_iconst hm rfl (v := nI 0) (by decide) ?_
      refine x_bipush hm rfl (v := nI 15) (by decide) ?_
      refine x_cVi hm rfl rfl (v227k h8 (by decide) b2) (fun v7 M7 r7 => ?_)
      obtain ⟨z3, b3⟩ := r7
      subst z3
      refine x_istore_n hm rfl rfl ?_
      refine x_aload_n hm rfl rfl ?_
      refine x_ldc_wS hm rfl ?_
      refine x_bipush hm rfl (v := nI 100) (by decide) ?_
      refine x_iconst hm rfl (v := nI 0) (by decide) ?_
      refine x_sipush hm rfl (v := nI 999) (by decide) ?_
      refine x_cVi hm rfl rfl (v227k h8 (by decide) b3) (fun v8 M8 r8 => ?_)
      obtain ⟨z4, b4⟩ := r8
      subst z4
      refine x_istore hm rfl rfl ?_
      refine x_aload_n hm rfl rfl ?_
      refine x_ldc_wS hm rfl ?_
      refine x_iconst hm rfl (v := nI 0) (by decide) ?_
      refine x_iconst hm rfl (v := nI 0) (by decide) ?_
      refine x_bipush hm rfl (v := nI 9) (by decide) ?_
      refine x_cVi hm rfl rfl (v227k h8 (by decide) b4) (fun v9 M9 r9 => ?_)
      obtain ⟨z5, b5⟩ := r9
      subst z5
      refine x_istore hm rfl rfl ?_
      refine x_aload_n hm rfl rfl ?_
      refine x_ldc_wS hm rfl ?_
      refine x_iconst hm rfl (v := (-1 : Int32)) (by decide) ?_
      refine x_iconst hm rfl (v := nI 0) (by decide) ?_
      refine x_aload_n hm rfl rfl ?_
      refine x_getf hm rfl (gI rfl rfl) ?_
      rw [b5.2.2.2.1]
      refine x_iconst hm rfl (v := nI 1) (by decide) ?_
      refine x_isub hm rfl ?_
      refine x_cVi hm rfl rfl (v227k h8 (by decide) b5) (fun v10 M10 r10 => ?_)
      obtain ⟨z6, b6⟩ := r10
      subst z6
      refine x_istore hm rfl rfl ?_
      refine x_aload_n hm rfl rfl ?_
      refine x_ldc_wS hm rfl ?_
      refine x_iconst hm rfl (v := (-1 : Int32)) (by decide) ?_
      refine x_iconst hm rfl (v := nI 0) (by decide) ?_
      refine x_aload_n hm rfl rfl ?_
      refine x_getf hm rfl (gI rfl rfl) ?_
      rw [b6.2.2.1]
      refine x_iconst hm rfl (v := nI 1) (by decide) ?_
      refine x_isub hm rfl ?_
      refine x_cVi hm rfl rfl (v227k h8 (by decide) b6) (fun v11 M11 r11 => ?_)
      obtain ⟨z7, b7⟩ := r11
      subst z7
      refine x_istore hm rfl rfl ?_
      refine x_aload_n hm rfl rfl ?_
      refine x_dup hm rfl rfl ?_
      refine x_getf hm rfl (gI rfl rfl) ?_
      rw [b7.2.2.1]
      refine x_iconst hm rfl (v := nI 1) (by decide) ?_
      refine x_iadd hm rfl ?_
      rw [jI_add]
      refine x_putf hm rfl (pI rfl rfl (by decide) (by first | exact mFit_int | rfl | decide) rfl) ?_
      have b8 := b7.p18
      have e17 := b8.2.1
      refine x_aload_n hm rfl rfl ?_
      refine x_bipush hm rfl (v := nI 10) (by decide) ?_
      refine x_iload_n hm rfl rfl ?_
      refine x_iload_n hm rfl rfl ?_
      refine x_iload hm rfl rfl ?_
      refine x_iload hm rfl rfl ?_
      refine x_iload hm rfl rfl ?_
      refine x_iload hm rfl rfl ?_
      refine x_callV hm rfl rfl (t229 (by assumption) (by omega)) ?_
      refine x_ret hm rfl rfl ?_
      exact ⟨_, rfl, rfl, by rw [hq]; exact b8.fin⟩
    · have hw0 : pWd T q 0 := bI_ne0 h4
      refine x_aload_n hm rfl rfl ?_
      refine x_getf hm rfl (gI rfl rfl) ?_
      rw [h.2.2.1]
      refine x_bipush hm rfl (v := nI 8) (by decide) ?_
      refine x_icmp_ge hm rfl (t := 179) rfl (fun h12 => ?_) (fun h12 => ?_)
      · have hge8 : ¬ tn < 8 := fun q => by have := (jI_le (by omega) (by omega)).mp h12; omega
        have hnx : ¬ (pWd T q 0 ∧ tn < 8) := fun z => hge8 z.2
        refine x_iconst hm rfl (v := nI 0) (by decide) ?_
        refine x_cVv hm rfl rfl (v226k h8 h) (fun M13 r13 => ?_)
        first
          | have b1 : Rk T c (pT1 T c q tn) m tn pn M0 M13 := by unfold pT1; rw [if_pos hx]; exact r13
          | have b1 : Rk T c (pT1 T c q tn) m tn pn M0 M13 := by unfold pT1; rw [if_neg hnx]; exact r13
        refine x_aload_n hm rfl rfl ?_
        refine x_iconst hm rfl (v := nI 0) (by decide) ?_
        refine x_iconst hm rfl (v := nI 3) (by decide) ?_
        refine x_cVi hm rfl rfl (v228k h8 b1) (fun v14 M14 r14 => ?_)
        obtain ⟨z2, b2⟩ := r14
        subst z2
        refine x_istore_n hm rfl rfl ?_
        refine x_aload_n hm rfl rfl ?_
        refine x_ldc_wS hm rfl ?_
        refine x_iconst hm rfl (v := nI 0) (by decide) ?_
        refine x_iconst hm rfl (v := nI 0) (by decide) ?_
        refine x_bipush hm rfl (v := nI 15) (by decide) ?_
        refine x_cVi hm rfl rfl (v227k h8 (by decide) b2) (fun v15 M15 r15 => ?_)
        obtain ⟨z3, b3⟩ := r15
        subst z3
        refine x_istore_n hm rfl rfl ?_
        refine x_aload_n hm rfl rfl ?_
        refine x_ldc_wS hm rfl ?_
        refine x_bipush hm rfl (v := nI 100) (by decide) ?_
        refine x_iconst hm rfl (v := nI 0) (by decide) ?_
        refine x_sipush hm rfl (v := nI 999) (by decide) ?_
        refine x_cVi hm rfl rfl (v227k h8 (by decide) b3) (fun v16 M16 r16 => ?_)
        obtain ⟨z4, b4⟩ := r16
        subst z4
        refine x_istore hm rfl rfl ?_
        refine x_aload_n hm rfl rfl ?_
        refine x_ldc_wS hm rfl ?_
        refine x_iconst hm rfl (v := nI 0) (by decide) ?_
        refine x_iconst hm rfl (v := nI 0) (by decide) ?_
        refine x_bipush hm rfl (v := nI 9) (by decide) ?_
        refine x_cVi hm rfl rfl (v227k h8 (by decide) b4) (fun v17 M17 r17 => ?_)
        obtain ⟨z5, b5⟩ := r17
        subst z5
        refine x_istore hm rfl rfl ?_
        refine x_aload_n hm rfl rfl ?_
        refine x_ldc_wS hm rfl ?_
        refine x_iconst hm rfl (v := (-1 : Int32)) (by decide) ?_
        refine x_iconst hm rfl (v := nI 0) (by decide) ?_
        refine x_aload_n hm rfl rfl ?_
        refine x_getf hm rfl (gI rfl rfl) ?_
        rw [b5.2.2.2.1]
        refine x_iconst hm rfl (v := nI 1) (by decide) ?_
        refine x_isub hm rfl ?_
        refine x_cVi hm rfl rfl (v227k h8 (by decide) b5) (fun v18 M18 r18 => ?_)
        obtain ⟨z6, b6⟩ := r18
        subst z6
        refine x_istore hm rfl rfl ?_
        refine x_aload_n hm rfl rfl ?_
        refine x_ldc_wS hm rfl ?_
        refine x_iconst hm rfl (v := (-1 : Int32)) (by decide) ?_
        refine x_iconst hm rfl (v := nI 0) (by decide) ?_
        refine x_aload_n hm rfl rfl ?_
        refine x_getf hm rfl (gI rfl rfl) ?_
        rw [b6.2.2.1]
        refine x_iconst hm rfl (v := nI 1) (by decide) ?_
        refine x_isub hm rfl ?_
        refine x_cVi hm rfl rfl (v227k h8 (by decide) b6) (fun v19 M19 r19 => ?_)
        obtain ⟨z7, b7⟩ := r19
        subst z7
        refine x_istore hm rfl rfl ?_
        refine x_aload_n hm rfl rfl ?_
        refine x_dup hm rfl rfl ?_
        refine x_getf hm rfl (gI rfl rfl) ?_
        rw [b7.2.2.1]
        refine x_iconst hm rfl (v := nI 1) (by decide) ?_
        refine x_iadd hm rfl ?_
        rw [jI_add]
        refine x_putf hm rfl (pI rfl rfl (by decide) (by first | exact mFit_int | rfl | decide) rfl) ?_
        have b8 := b7.p18
        have e17 := b8.2.1
        refine x_aload_n hm rfl rfl ?_
        refine x_bipush hm rfl (v := nI 10) (by decide) ?_
        refine x_iload_n hm rfl rfl ?_
        refine x_iload_n hm rfl rfl ?_
        refine x_iload hm rfl rfl ?_
        refine x_iload hm rfl rfl ?_
        refine x_iload hm rfl rfl ?_
        refine x_iload hm rfl rfl ?_
        refine x_callV hm rfl rfl (t229 (by assumption) (by omega)) ?_
        refine x_ret hm rfl rfl ?_
        exact ⟨_, rfl, rfl, by rw [hq]; exact b8.fin⟩
      · have hlt8 : tn < 8 := Nat.lt_of_not_le fun q => h12 (nI_le q (by omega))
        have hx : pWd T q 0 ∧ tn < 8 := ⟨hw0, hlt8⟩
        refine x_iconst hm rfl (v := nI 1) (by decide) ?_
        refine x_goto hm rfl (t := 180) rfl ?_
        refine x_cVv hm rfl rfl (v226k h8 h) (fun M20 r20 => ?_)
        first
          | have b1 : Rk T c (pT1 T c q tn) m tn pn M0 M20 := by unfold pT1; rw [if_pos hx]; exact r20
          | have b1 : Rk T c (pT1 T c q tn) m tn pn M0 M20 := by unfold pT1; rw [if_neg hnx]; exact r20
        refine x_aload_n hm rfl rfl ?_
        refine x_iconst hm rfl (v := nI 0) (by decide) ?_
        refine x_iconst hm rfl (v := nI 3) (by decide) ?_
        refine x_cVi hm rfl rfl (v228k h8 b1) (fun v21 M21 r21 => ?_)
        obtain ⟨z2, b2⟩ := r21
        subst z2
        refine x_istore_n hm rfl rfl ?_
        refine x_aload_n hm rfl rfl ?_
        refine x_ldc_wS hm rfl ?_
        refine x_iconst hm rfl (v := nI 0) (by decide) ?_
        refine x_iconst hm rfl (v := nI 0) (by decide) ?_
        refine x_bipush hm rfl (v := nI 15) (by decide) ?_
        refine x_cVi hm rfl rfl (v227k h8 (by decide) b2) (fun v22 M22 r22 => ?_)
        obtain ⟨z3, b3⟩ := r22
        subst z3
        refine x_istore_n hm rfl rfl ?_
        refine x_aload_n hm rfl rfl ?_
        refine x_ldc_wS hm rfl ?_
        refine x_bipush hm rfl (v := nI 100) (by decide) ?_
        refine x_iconst hm rfl (v := nI 0) (by decide) ?_
        refine x_sipush hm rfl (v := nI 999) (by decide) ?_
        refine x_cVi hm rfl rfl (v227k h8 (by decide) b3) (fun v23 M23 r23 => ?_)
        obtain ⟨z4, b4⟩ := r23
        subst z4
        refine x_istore hm rfl rfl ?_
        refine x_aload_n hm rfl rfl ?_
        refine x_ldc_wS hm rfl ?_
        refine x_iconst hm rfl (v := nI 0) (by decide) ?_
        refine x_iconst hm rfl (v := nI 0) (by decide) ?_
        refine x_bipush hm rfl (v := nI 9) (by decide) ?_
        refine x_cVi hm rfl rfl (v227k h8 (by decide) b4) (fun v24 M24 r24 => ?_)
        obtain ⟨z5, b5⟩ := r24
        subst z5
        refine x_istore hm rfl rfl ?_
        refine x_aload_n hm rfl rfl ?_
        refine x_ldc_wS hm rfl ?_
        refine x_iconst hm rfl (v := (-1 : Int32)) (by decide) ?_
        refine x_iconst hm rfl (v := nI 0) (by decide) ?_
        refine x_aload_n hm rfl rfl ?_
        refine x_getf hm rfl (gI rfl rfl) ?_
        rw [b5.2.2.2.1]
        refine x_iconst hm rfl (v := nI 1) (by decide) ?_
        refine x_isub hm rfl ?_
        refine x_cVi hm rfl rfl (v227k h8 (by decide) b5) (fun v25 M25 r25 => ?_)
        obtain ⟨z6, b6⟩ := r25
        subst z6
        refine x_istore hm rfl rfl ?_
        refine x_aload_n hm rfl rfl ?_
        refine x_ldc_wS hm rfl ?_
        refine x_iconst hm rfl (v := (-1 : Int32)) (by decide) ?_
        refine x_iconst hm rfl (v := nI 0) (by decide) ?_
        refine x_aload_n hm rfl rfl ?_
        refine x_getf hm rfl (gI rfl rfl) ?_
        rw [b6.2.2.1]
        refine x_iconst hm rfl (v := nI 1) (by decide) ?_
        refine x_isub hm rfl ?_
        refine x_cVi hm rfl rfl (v227k h8 (by decide) b6) (fun v26 M26 r26 => ?_)
        obtain ⟨z7, b7⟩ := r26
        subst z7
        refine x_istore hm rfl rfl ?_
        refine x_aload_n hm rfl rfl ?_
        refine x_dup hm rfl rfl ?_
        refine x_getf hm rfl (gI rfl rfl) ?_
        rw [b7.2.2.1]
        refine x_iconst hm rfl (v := nI 1) (by decide) ?_
        refine x_iadd hm rfl ?_
        rw [jI_add]
        refine x_putf hm rfl (pI rfl rfl (by decide) (by first | exact mFit_int | rfl | decide) rfl) ?_
        have b8 := b7.p18
        have e17 := b8.2.1
        refine x_aload_n hm rfl rfl ?_
        refine x_bipush hm rfl (v := nI 10) (by decide) ?_
        refine x_iload_n hm rfl rfl ?_
        refine x_iload_n hm rfl rfl ?_
        refine x_iload hm rfl rfl ?_
        refine x_iload hm rfl rfl ?_
        refine x_iload hm rfl rfl ?_
        refine x_iload hm rfl rfl ?_
        refine x_callV hm rfl rfl (t229 (by assumption) (by omega)) ?_
        refine x_ret hm rfl rfl ?_
        exact ⟨_, rfl, rfl, by rw [hq]; exact b8.fin⟩
  · have hq : (pItem T c q tn pn) = ((pPer T c q (pKd T q 7) pn).1, tn, pn + 1, (pPer T c q (pKd T q 7) pn).2) := if_neg h2
    rw [hq]
    refine x_aload_n hm rfl rfl ?_
    refine x_aload_n hm rfl rfl ?_
    refine x_getf hm rfl (gI rfl rfl) ?_
    rw [h.2.2.2.1]
    refine x_bipush hm rfl (v := nI 8) (by decide) ?_
    refine x_icmp_ge hm rfl (t := 23) rfl (fun h27 => ?_) (fun h27 => ?_)
    · have hge8 : ¬ pn < 8 := fun q => by have := (jI_le (by omega) (by omega)).mp h27; omega
      refine x_iconst hm rfl (v := nI 0) (by decide) ?_
      refine x_cVv hm rfl rfl (v226k h8 h) (fun M28 r28 => ?_)
      first
        | have b1 : Rk T c (pP1 T c q pn) m tn pn M0 M28 := by unfold pP1; rw [if_pos hlt8]; exact r28
        | have b1 : Rk T c (pP1 T c q pn) m tn pn M0 M28 := by unfold pP1; rw [if_neg hge8]; exact r28
      refine x_aload_n hm rfl rfl ?_
      refine x_dup hm rfl rfl ?_
      refine x_getf hm rfl (gI rfl rfl) ?_
      rw [b1.2.2.2.1]
      refine x_iconst hm rfl (v := nI 1) (by decide) ?_
      refine x_iadd hm rfl ?_
      rw [jI_add]
      refine x_putf hm rfl (pI rfl rfl (by decide) (by first | exact mFit_int | rfl | decide) rfl) ?_
      have b2 := b1.p19
      refine x_aload_n hm rfl rfl ?_
      refine x_ldc_wS hm rfl ?_
      refine x_iconst hm rfl (v := nI 0) (by decide) ?_
      refine x_iconst hm rfl (v := nI 0) (by decide) ?_
      refine x_bipush hm rfl (v := nI 15) (by decide) ?_
      refine x_cVi hm rfl rfl (v227k h8 (by decide) b2) (fun v29 M29 r29 => ?_)
      obtain ⟨z3, b3⟩ := r29
      subst z3
      refine x_istore_n hm rfl rfl ?_
      refine x_aload_n hm rfl rfl ?_
      refine x_ldc_wS hm rfl ?_
      refine x_iconst hm rfl (v := nI 1) (by decide) ?_
      refine x_iconst hm rfl (v := nI 0) (by decide) ?_
      refine x_bipush hm rfl (v := nI 15) (by decide) ?_
      refine x_cVi hm rfl rfl (v227k h8 (by decide) b3) (fun v30 M30 r30 => ?_)
      obtain ⟨z4, b4⟩ := r30
      subst z4
      refine x_istore_n hm rfl rfl ?_
      refine x_aload_n hm rfl rfl ?_
      refine x_ldc_wS hm rfl ?_
      refine x_iconst hm rfl (v := (-1 : Int32)) (by decide) ?_
      refine x_iconst hm rfl (v := nI 0) (by decide) ?_
      refine x_bipush hm rfl (v := nI 9) (by decide) ?_
      refine x_cVi hm rfl rfl (v227k h8 (by decide) b4) (fun v31 M31 r31 => ?_)
      obtain ⟨z5, b5⟩ := r31
      subst z5
      refine x_istore hm rfl rfl ?_
      have hp3 : Pk c (pP3 T c q pn).2 := pP3_pk hpk
      change Rk T c (pAf T c (pP3 T c q pn).2 10 (-1) (nI 9)).2 m tn (pn + 1) M0 _ at b5
      show mEv X _ 223 74 [_, _, some (.int (pP2 T c q pn).1), some (.int (pP3 T c q pn).1), some (.int (pAf T c (pP3 T c q pn).2 10 (-1) (nI 9)).1), _, _, _] [] _
      by_cases el : noL T (pP3 T c q pn).2
      · have e1 : pAf T c (pP3 T c q pn).2 10 (-1) (nI 9) = (-1, (pP3 T c q pn).2) := if_pos el
        have e2 : pPer T c q (pKd T q 7) pn = (itm (pKd T q 7) (pP2 T c q pn).1 (pP3 T c q pn).1 (nI 1) (nI 1) (nI 1) (nI 1), (pP3 T c q pn).2) := if_pos el
        rw [e1] at b5 ⊢
        rw [e2]
        exact k223a hm1 h8 b5
      · have e1 : pAf T c (pP3 T c q pn).2 10 (-1) (nI 9) = (nI (pL T c (pP3 T c q pn).2 0).2.2.2.1, pL T c (pP3 T c q pn).2 1) := if_neg el
        have e2 : pPer T c q (pKd T q 7) pn = (itm (pKd T q 7) (pP2 T c q pn).1 (pP3 T c q pn).1 (nI (pL T c (pP3 T c q pn).2 0).2.2.2.1) (nI (pL T c (pP3 T c q pn).2 1).2.2.2.1) (nI (pL T c (pP3 T c q pn).2 2).2.2.2.1) (nI (pL T c (pP3 T c q pn).2 3).2.2.2.1), pL T c (pP3 T c q pn).2 4) := if_neg el
        rw [e1] at b5 ⊢
        rw [e2]
        exact k223b hm1 h8 hp3 b5
    · have hlt8 : pn < 8 := Nat.lt_of_not_le fun q => h27 (nI_le q (by omega))
      refine x_iconst hm rfl (v := nI 1) (by decide) ?_
      refine x_goto hm rfl (t := 24) rfl ?_
      refine x_cVv hm rfl rfl (v226k h8 h) (fun M32 r32 => ?_)
      first
        | have b1 : Rk T c (pP1 T c q pn) m tn pn M0 M32 := by unfold pP1; rw [if_pos hlt8]; exact r32
        | have b1 : Rk T c (pP1 T c q pn) m tn pn M0 M32 := by unfold pP1; rw [if_neg hge8]; exact r32
      refine x_aload_n hm rfl rfl ?_
      refine x_dup hm rfl rfl ?_
      refine x_getf hm rfl (gI rfl rfl) ?_
      rw [b1.2.2.2.1]
      refine x_iconst hm rfl (v := nI 1) (by decide) ?_
      refine x_iadd hm rfl ?_
      rw [jI_add]
      refine x_putf hm rfl (pI rfl rfl (by decide) (by first | exact mFit_int | rfl | decide) rfl) ?_
      have b2 := b1.p19
      refine x_aload_n hm rfl rfl ?_
      refine x_ldc_wS hm rfl ?_
      refine x_iconst hm rfl (v := nI 0) (by decide) ?_
      refine x_iconst hm rfl (v := nI 0) (by decide) ?_
      refine x_bipush hm rfl (v := nI 15) (by decide) ?_
      refine x_cVi hm rfl rfl (v227k h8 (by decide) b2) (fun v33 M33 r33 => ?_)
      obtain ⟨z3, b3⟩ := r33
      subst z3
      refine x_istore_n hm rfl rfl ?_
      refine x_aload_n hm rfl rfl ?_
      refine x_ldc_wS hm rfl ?_
      refine x_iconst hm rfl (v := nI 1) (by decide) ?_
      refine x_iconst hm rfl (v := nI 0) (by decide) ?_
      refine x_bipush hm rfl (v := nI 15) (by decide) ?_
      refine x_cVi hm rfl rfl (v227k h8 (by decide) b3) (fun v34 M34 r34 => ?_)
      obtain ⟨z4, b4⟩ := r34
      subst z4
      refine x_istore_n hm rfl rfl ?_
      refine x_aload_n hm rfl rfl ?_
      refine x_ldc_wS hm rfl ?_
      refine x_iconst hm rfl (v := (-1 : Int32)) (by decide) ?_
      refine x_iconst hm rfl (v := nI 0) (by decide) ?_
      refine x_bipush hm rfl (v := nI 9) (by decide) ?_
      refine x_cVi hm rfl rfl (v227k h8 (by decide) b4) (fun v35 M35 r35 => ?_)
      obtain ⟨z5, b5⟩ := r35
      subst z5
      refine x_istore hm rfl rfl ?_
      have hp3 : Pk c (pP3 T c q pn).2 := pP3_pk hpk
      change Rk T c (pAf T c (pP3 T c q pn).2 10 (-1) (nI 9)).2 m tn (pn + 1) M0 _ at b5
      show mEv X _ 223 74 [_, _, some (.int (pP2 T c q pn).1), some (.int (pP3 T c q pn).1), some (.int (pAf T c (pP3 T c q pn).2 10 (-1) (nI 9)).1), _, _, _] [] _
      by_cases el : noL T (pP3 T c q pn).2
      · have e1 : pAf T c (pP3 T c q pn).2 10 (-1) (nI 9) = (-1, (pP3 T c q pn).2) := if_pos el
        have e2 : pPer T c q (pKd T q 7) pn = (itm (pKd T q 7) (pP2 T c q pn).1 (pP3 T c q pn).1 (nI 1) (nI 1) (nI 1) (nI 1), (pP3 T c q pn).2) := if_pos el
        rw [e1] at b5 ⊢
        rw [e2]
        exact k223a hm1 h8 b5
      · have e1 : pAf T c (pP3 T c q pn).2 10 (-1) (nI 9) = (nI (pL T c (pP3 T c q pn).2 0).2.2.2.1, pL T c (pP3 T c q pn).2 1) := if_neg el
        have e2 : pPer T c q (pKd T q 7) pn = (itm (pKd T q 7) (pP2 T c q pn).1 (pP3 T c q pn).1 (nI (pL T c (pP3 T c q pn).2 0).2.2.2.1) (nI (pL T c (pP3 T c q pn).2 1).2.2.2.1) (nI (pL T c (pP3 T c q pn).2 2).2.2.2.1) (nI (pL T c (pP3 T c q pn).2 3).2.2.2.1), pL T c (pP3 T c q pn).2 4) := if_neg el
        rw [e1] at b5 ⊢
        rw [e2]
        exact k223b hm1 h8 hp3 b5
end RI
